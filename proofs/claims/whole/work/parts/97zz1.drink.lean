/-! LINES: nothing behind a fault; drink -/
variable {So n d s p : Int} {tx : Int → Int} {cnt j : Nat} {E : Nat → Int} {M N : nb_M}
theorem dd_tellName {so nu : Int} (W : nb_Lay M) (hSo : nb_hs So) (h764 : M.1 76 4 = So) (h5 : 0 ≤ M.1 76 5 ∧ M.1 76 5 ≤ 18) (hf : M.1 76 9 ≠ 0) : nb_R nb_P 239 0 [(13, 76), (0, so), (0, nu)] [] M = some ([], M) := by
  obtain ⟨x, x1, x2⟩ := sp_rd_find (v1 := (98, 0)) W hSo h764 h5
  have st := dd_step W hSo h764 hf
  have end1 : nb_W 225 0 [(13, 76)] [] M (fun r M28 => r = [] ∧ nb_Lay M28 ∧ M28.1 76 4 = So ∧ (nb_Lay M28 → ([] : List nb_V) = [] ∧ M28 = M)) := nb_Wp st ⟨rfl, W, h764, fun _ => ⟨rfl, rfl⟩⟩
  exact nb_Wq (w_rd_tellName_0 W hSo h764 ⟨fun _ => nb_Wp x1 ⟨x, rfl, W, h764, fun _ => ⟨fun z => absurd z hf, fun _ => end1⟩, fun _ => nb_Wp (dd_fail W hSo h764 hf) ⟨rfl, W, h764, end1⟩⟩, fun _ => nb_Wp (dd_fail W hSo h764 hf) ⟨rfl, W, h764, end1⟩⟩)
theorem dd_known {so : Int} (W : nb_Lay M) (hSo : nb_hs So) (h764 : M.1 76 4 = So) (h5 : 0 ≤ M.1 76 5 ∧ M.1 76 5 ≤ 18) (hf : M.1 76 9 ≠ 0) : nb_R nb_P 241 0 [(13, 76), (0, so), (98, 0)] [] M = some ([(0, -1)], M) := by
  obtain ⟨x, x1, x2⟩ := sp_rd_find (v1 := (98, 0)) W hSo h764 h5
  have df : ∀ f, nb_R nb_P 226 0 [(13, 76), (0, f)] [] M = some ([], M) := fun f => dd_fail W hSo h764 hf
  have x18 : x < 18 := by omega
  exact nb_Wq (w_rd_known_0 W hSo h764 (nb_Wp x1 ⟨x, rfl, W, h764, fun _ => ⟨fun _ => nb_Wp (df 2) ⟨rfl, W, h764, fun z => absurd z hf, fun _ _ => ⟨rfl, rfl⟩⟩, fun _ => ⟨x18, fun _ => ⟨fun z => absurd z hf, fun _ _ => ⟨rfl, rfl⟩⟩, fun _ => nb_Wp (df 2) ⟨rfl, W, h764, fun z => absurd z hf, fun _ _ => ⟨rfl, rfl⟩⟩⟩⟩, fun _ => nb_Wp (df 1) ⟨rfl, W, h764, fun z => absurd z hf, fun _ _ => ⟨rfl, rfl⟩⟩⟩))
theorem dd_expect {kc : Int} (hc : pu_tok kc) (W : nb_Lay M) (hSo : nb_hs So) (h4 : M.1 76 4 = So) (hf : M.1 76 9 ≠ 0) : nb_R nb_P 242 0 [(13, 76), (2, kc)] [] M = some ([], M) := by
  obtain ⟨x, x1, x2, x3⟩ := sp_rd_stands W hSo h4 hc
  have st := dd_step W hSo h4 hf
  exact nb_Wq (w_rd_expect_0 W hSo h4 (nb_Wp x3 ⟨x, rfl, W, h4, fun _ => nb_Wp (dd_fail W hSo h4 hf) ⟨rfl, W, h4, nb_Wp st ⟨rfl, W, h4, fun _ => ⟨rfl, rfl⟩⟩⟩, fun _ => nb_Wp st ⟨rfl, W, h4, fun _ => ⟨rfl, rfl⟩⟩⟩))
theorem dd_rule (W : nb_Lay M) (hSo : nb_hs So) (h764 : M.1 76 4 = So) (hf : M.1 76 9 ≠ 0) : ∃ x : Int, nb_R nb_P 245 0 [(13, 76), (98, 0)] [] M = some ([(0, x)], M) := by
  have st := dd_step W hSo h764 hf
  obtain ⟨x1, a1, b1, e1⟩ := sp_rd_stands W hSo h764 (pu_tok_at 52 (by decide) (by decide))
  obtain ⟨x2, a2, b2, e2⟩ := sp_rd_stands W hSo h764 (pu_tok_at 53 (by decide) (by decide))
  obtain ⟨x3, a3, b3, e3⟩ := sp_rd_stands W hSo h764 (pu_tok_at 54 (by decide) (by decide))
  obtain ⟨x4, a4, b4, e4⟩ := sp_rd_stands W hSo h764 (pu_tok_at 55 (by decide) (by decide))
  obtain ⟨x5, a5, b5, e5⟩ := sp_rd_stands W hSo h764 (pu_tok_at 56 (by decide) (by decide))
  by_cases c1 : x1 = 0
  case neg => exact ⟨0, nb_Wq (w_rd_rule_0 W hSo h764 (nb_Wp e1 ⟨x1, rfl, W, h764, fun z => absurd z c1, fun _ => nb_Wp st ⟨rfl, W, h764, fun _ => ⟨rfl, rfl⟩⟩⟩))⟩
  by_cases c2 : x2 = 0
  case neg => exact ⟨1, nb_Wq (w_rd_rule_0 W hSo h764 (nb_Wp e1 ⟨x1, rfl, W, h764, fun _ => nb_Wp e2 ⟨x2, rfl, W, h764, fun z => absurd z c2, fun _ => nb_Wp st ⟨rfl, W, h764, fun _ => ⟨rfl, rfl⟩⟩⟩, fun z => absurd c1 z⟩))⟩
  by_cases c3 : x3 = 0
  case neg => exact ⟨2, nb_Wq (w_rd_rule_0 W hSo h764 (nb_Wp e1 ⟨x1, rfl, W, h764, fun _ => nb_Wp e2 ⟨x2, rfl, W, h764, fun _ => nb_Wp e3 ⟨x3, rfl, W, h764, fun z => absurd z c3, fun _ => nb_Wp st ⟨rfl, W, h764, fun _ => ⟨rfl, rfl⟩⟩⟩, fun z => absurd c2 z⟩, fun z => absurd c1 z⟩))⟩
  by_cases c4 : x4 = 0
  case neg => exact ⟨3, nb_Wq (w_rd_rule_0 W hSo h764 (nb_Wp e1 ⟨x1, rfl, W, h764, fun _ => nb_Wp e2 ⟨x2, rfl, W, h764, fun _ => nb_Wp e3 ⟨x3, rfl, W, h764, fun _ => nb_Wp e4 ⟨x4, rfl, W, h764, fun z => absurd z c4, fun _ => nb_Wp st ⟨rfl, W, h764, fun _ => ⟨rfl, rfl⟩⟩⟩, fun z => absurd c3 z⟩, fun z => absurd c2 z⟩, fun z => absurd c1 z⟩))⟩
  by_cases c5 : x5 = 0
  case neg => exact ⟨4, nb_Wq (w_rd_rule_0 W hSo h764 (nb_Wp e1 ⟨x1, rfl, W, h764, fun _ => nb_Wp e2 ⟨x2, rfl, W, h764, fun _ => nb_Wp e3 ⟨x3, rfl, W, h764, fun _ => nb_Wp e4 ⟨x4, rfl, W, h764, fun _ => nb_Wp e5 ⟨x5, rfl, W, h764, fun z => absurd z c5, fun _ => nb_Wp st ⟨rfl, W, h764, fun _ => ⟨rfl, rfl⟩⟩⟩, fun z => absurd c4 z⟩, fun z => absurd c3 z⟩, fun z => absurd c2 z⟩, fun z => absurd c1 z⟩))⟩
  exact ⟨-1, nb_Wq (w_rd_rule_0 W hSo h764 (nb_Wp e1 ⟨x1, rfl, W, h764, fun _ => nb_Wp e2 ⟨x2, rfl, W, h764, fun _ => nb_Wp e3 ⟨x3, rfl, W, h764, fun _ => nb_Wp e4 ⟨x4, rfl, W, h764, fun _ => nb_Wp e5 ⟨x5, rfl, W, h764, fun _ => nb_Wp (dd_fail W hSo h764 hf) ⟨rfl, W, h764, nb_Wp st ⟨rfl, W, h764, fun _ => ⟨rfl, rfl⟩⟩⟩, fun z => absurd c5 z⟩, fun z => absurd c4 z⟩, fun z => absurd c3 z⟩, fun z => absurd c2 z⟩, fun z => absurd c1 z⟩))⟩
theorem dd_manner (W : nb_Lay M) (hSo : nb_hs So) (h764 : M.1 76 4 = So) (hf : M.1 76 9 ≠ 0) : ∃ x : Int, nb_R nb_P 246 0 [(13, 76), (98, 0)] [] M = some ([(0, x)], M) := by
  have st := dd_step W hSo h764 hf
  obtain ⟨x1, a1, b1, e1⟩ := sp_rd_stands W hSo h764 (pu_tok_at 57 (by decide) (by decide))
  obtain ⟨x2, a2, b2, e2⟩ := sp_rd_stands W hSo h764 (pu_tok_at 58 (by decide) (by decide))
  obtain ⟨x3, a3, b3, e3⟩ := sp_rd_stands W hSo h764 (pu_tok_at 59 (by decide) (by decide))
  obtain ⟨x4, a4, b4, e4⟩ := sp_rd_stands W hSo h764 (pu_tok_at 56 (by decide) (by decide))
  by_cases c1 : x1 = 0
  case neg => exact ⟨0, nb_Wq (w_rd_manner_0 W hSo h764 (nb_Wp e1 ⟨x1, rfl, W, h764, fun z => absurd z c1, fun _ => nb_Wp st ⟨rfl, W, h764, fun _ => ⟨rfl, rfl⟩⟩⟩))⟩
  by_cases c2 : x2 = 0
  case neg => exact ⟨1, nb_Wq (w_rd_manner_0 W hSo h764 (nb_Wp e1 ⟨x1, rfl, W, h764, fun _ => nb_Wp e2 ⟨x2, rfl, W, h764, fun z => absurd z c2, fun _ => nb_Wp st ⟨rfl, W, h764, fun _ => ⟨rfl, rfl⟩⟩⟩, fun z => absurd c1 z⟩))⟩
  by_cases c3 : x3 = 0
  case neg => exact ⟨2, nb_Wq (w_rd_manner_0 W hSo h764 (nb_Wp e1 ⟨x1, rfl, W, h764, fun _ => nb_Wp e2 ⟨x2, rfl, W, h764, fun _ => nb_Wp e3 ⟨x3, rfl, W, h764, fun z => absurd z c3, fun _ => nb_Wp st ⟨rfl, W, h764, fun _ => ⟨rfl, rfl⟩⟩⟩, fun z => absurd c2 z⟩, fun z => absurd c1 z⟩))⟩
  by_cases c4 : x4 = 0
  case neg => exact ⟨3, nb_Wq (w_rd_manner_0 W hSo h764 (nb_Wp e1 ⟨x1, rfl, W, h764, fun _ => nb_Wp e2 ⟨x2, rfl, W, h764, fun _ => nb_Wp e3 ⟨x3, rfl, W, h764, fun _ => nb_Wp e4 ⟨x4, rfl, W, h764, fun z => absurd z c4, fun _ => nb_Wp st ⟨rfl, W, h764, fun _ => ⟨rfl, rfl⟩⟩⟩, fun z => absurd c3 z⟩, fun z => absurd c2 z⟩, fun z => absurd c1 z⟩))⟩
  exact ⟨-1, nb_Wq (w_rd_manner_0 W hSo h764 (nb_Wp e1 ⟨x1, rfl, W, h764, fun _ => nb_Wp e2 ⟨x2, rfl, W, h764, fun _ => nb_Wp e3 ⟨x3, rfl, W, h764, fun _ => nb_Wp e4 ⟨x4, rfl, W, h764, fun _ => nb_Wp (dd_fail W hSo h764 hf) ⟨rfl, W, h764, nb_Wp st ⟨rfl, W, h764, fun _ => ⟨rfl, rfl⟩⟩⟩, fun z => absurd c4 z⟩, fun z => absurd c3 z⟩, fun z => absurd c2 z⟩, fun z => absurd c1 z⟩))⟩
theorem rl_drink {l2 y0 : Int} (h : pu_RL So tx n cnt E M N j (N.1 607 3) (N.1 607 4) (N.1 607 5)) (hl : M.1 76 9 = 0) (hk : M.1 76 7 ≠ 0 ∧ M.1 76 7 ≠ 6) (hy : nb_R nb_P 93 0 [(20, 603), (2, 2), (98, 0), (98, 0)] [] N = some ([(0, y0)], N)) (hy0 : y0 ≠ 0) (h0 : N.1 607 0 ≠ 0) (h2 : l2 ≠ 0 ↔ N.1 607 3 < 5) (hH : pu_HR M So (N.1 607)) : ∃ M1 N0 N1, nb_R nb_P 231 0 [(13, 76), (98, 0), (98, 0), (98, 0)] [] M = some ([], M1) ∧ nb_R nb_P 106 0 [(20, 603), (2, 2), (0, l2)] [] N = some ([(0, 1)], N0) ∧ nb_Lay N0 ∧ nb_R nb_P 109 0 [(20, 603), (98, 0)] [] N0 = some ([], N1) ∧ pu_LO So tx n cnt E M N M1 N1 j := by
  have h' := h
  obtain ⟨⟨W, WN, hSo, h764, -⟩, -⟩ := h'
  have hSu := hSo
  unfold nb_hs at hSu
  have H1 := hH.2.1
  have e0 : N.1 607 0 = 1 := by rcases hH.1 with q | q <;> omega
  have c11 := H1.1
  have r3 := H1.2.2.2.2.2.1
  obtain ⟨M1, N1, s1, s2, s3, s4, s5, s6⟩ := rl_begins (told := M.1 So 11) (room := 5) h hl hk hy hy0 (by rw [c11]; exact h2) h0
  have SM : ∀ a, So ≤ a → a < So + 36 → M1.1 a = M.1 a := fun a p0 p1 => s4.2.2.1 a (by omega) (by omega) (by omega) (by omega)
  have q4 := s3.1.2.2.2.1
  have e3 : N1.1 607 3 = N.1 607 3 := s5.2.2.2.2 3 (by decide)
  have e11 : M1.1 So 11 = N.1 607 3 := by rw [SM So (by omega) (by omega)]; exact c11
  by_cases l1 : M1.1 76 9 = 0
  · have lt5 : N.1 607 3 < 5 := by have := s6 l1; omega
    have f1 : N1.1 603 13 = 0 := s3.ff.1 l1
    obtain ⟨M2, N2, t1, t2, t3, t4, t5, t6⟩ := rl_tellName (so := 0) (nu := M1.1 So 11) (m := N1.1 607 3) (d' := N.1 607 3 + 1) (s' := N.1 607 4) (p' := N.1 607 5) s3 (fun _ => ⟨by rw [pu_sl_0]; omega, Or.inl ⟨rfl, e11, lt5, rfl, rfl, rfl⟩⟩)
    obtain ⟨x, y, M3, N3, a1, a2, a3, a4, a5, a6⟩ := rl_number (lo := 1) (hi := 90) (lo2 := 1) (hi2 := 90) (pu_tok_at 38 (by decide) (by decide)) (pu_tok_at 9 (by decide) (by decide)) (by decide +kernel) t3 (fun _ => ⟨rfl, rfl⟩)
    have w3 := a3.wg (i := 8 + 3 * N1.1 607 3) (v := y) (by omega)
    obtain ⟨u, v, M4, N4, b1, b2, b3, b4, b5, b6⟩ := rl_number (lo := 0) (hi := x) (lo2 := 0) (hi2 := y) (pu_tok_at 39 (by decide) (by decide)) (pu_tok_at 10 (by decide) (by decide)) (by decide +kernel) w3 (fun z => ⟨rfl, (a6 z).2.1⟩)
    have w4 := b3.wg (i := 8 + 3 * N1.1 607 3 + 1) (v := v) (by omega)
    obtain ⟨k, m, M5, N5, g1, g2, g3, g4, g5, g6⟩ := rl_number (lo := 0) (hi := 99) (lo2 := 0) (hi2 := 99) (pu_tok_at 40 (by decide) (by decide)) (pu_tok_at 11 (by decide) (by decide)) (by decide +kernel) w4 (fun _ => ⟨rfl, rfl⟩)
    have w5 := g3.wg (i := 8 + 3 * N1.1 607 3 + 2) (v := m) (by omega)
    have SM5 : ∀ a, So ≤ a → a < So + 36 → M5.1 a = M.1 a := fun a p0 p1 => by
      rw [g4.2.2.1 a (by omega) (by omega) (by omega) (by omega), b4.2.2.1 a (by omega) (by omega) (by omega) (by omega), a4.2.2.1 a (by omega) (by omega) (by omega) (by omega), t4.2.2.1 a (by omega) (by omega) (by omega) (by omega)]
      exact SM a p0 p1
    have SM2 : M2.1 So 11 = N.1 607 3 := by rw [t4.2.2.1 So (by omega) (by omega) (by omega) (by omega)]; exact e11
    have e511 : M5.1 So 11 = N.1 607 3 := by rw [SM5 So (by omega) (by omega)]; exact c11
    have cl5 : pu_cl So M M5 := ((((s4.tr t4).tr a4).tr b4).tr g4).cl hSo
    have ml5 : pu_ml N (nb_wr N5 607 (8 + 3 * N1.1 607 3 + 2) m) := ((((((s5.tr t5).tr a5).ml.wr).tr b5.ml).wr).tr g5.ml).wr
    -- what the reference has read
    have k5 : ∀ i, 0 ≤ i → i < 185 → N5.1 607 i = if i = 8 + 3 * N.1 607 3 + 1 then v else if i = 8 + 3 * N.1 607 3 then y else N.1 607 i := fun i p0 p1 => by
      rw [g5.2.2.2.2 i p1, nb_wr_1, e3]
      by_cases c1 : i = 8 + 3 * N.1 607 3 + 1
      · rw [if_pos ⟨rfl, c1⟩, if_pos c1]
      · rw [if_neg (fun z => c1 z.2), if_neg c1, b5.2.2.2.2 i p1, nb_wr_1, e3]
        by_cases c2 : i = 8 + 3 * N.1 607 3
        · rw [if_pos ⟨rfl, c2⟩, if_pos c2]
        · rw [if_neg (fun z => c2 z.2), if_neg c2, a5.2.2.2.2 i p1, t5.2.2.2.2 i p1, s5.2.2.2.2 i p1]
    by_cases l5 : M5.1 76 9 = 0
    · obtain ⟨l4, eu, u1, u2⟩ := g6 l5
      obtain ⟨l3, ev, v1, v2⟩ := b6 l4
      obtain ⟨l2', ex, x1, x2⟩ := a6 l3
      subst eu ev ex
      have f5 : N5.1 603 13 = 0 := g3.ff.1 l5
      have W1 : nb_Lay (nb_wr M5 (So + 1) (N.1 607 3) x) := g4.1.wr (fun w => nb_nh1 hSo)
      have W2 : nb_Lay (nb_wr (nb_wr M5 (So + 1) (N.1 607 3) x) (So + 2) (N.1 607 3) u) := W1.wr (fun w => nb_nh2 hSo)
      have W3 : nb_Lay (nb_wr (nb_wr (nb_wr M5 (So + 1) (N.1 607 3) x) (So + 2) (N.1 607 3) u) (So + 3) (N.1 607 3) k) := W2.wr (fun w => nb_nh3 hSo)
      have W4 : nb_Lay (nb_wr (nb_wr (nb_wr (nb_wr M5 (So + 1) (N.1 607 3) x) (So + 2) (N.1 607 3) u) (So + 3) (N.1 607 3) k) So 11 (N.1 607 3 + 1)) := W3.wr (fun w => nb_nhh hSo (by omega))
      have e53 : N5.1 607 3 = N.1 607 3 := by rw [k5 3 (by decide) (by decide), if_neg (by omega), if_neg (by omega)]
      have ad1 : nb_add (N5.1 607 3) 1 = N.1 607 3 + 1 := by rw [e53, nb_add_eq (by omega) (by omega)]
      have ad2 : nb_add (N.1 607 3) 1 = N.1 607 3 + 1 := nb_add_eq (by omega) (by omega)
      refine ⟨nb_wr (nb_wr (nb_wr (nb_wr M5 (So + 1) (N.1 607 3) x) (So + 2) (N.1 607 3) u) (So + 3) (N.1 607 3) k) So 11 (N.1 607 3 + 1), N1, nb_wr (nb_wr N5 607 (8 + 3 * N1.1 607 3 + 2) k) 607 3 (N.1 607 3 + 1), nb_Wq (w_rd_readDrink_0 W hSo h764 ⟨by omega, by omega, nb_Wp s1 ⟨rfl, s4.1, q4, nb_Wp t1 ⟨rfl, t4.1, t3.1.2.2.2.1, nb_Wp a1 ⟨x, rfl, a4.1, a3.1.2.2.2.1, nb_Wp b1 ⟨u, rfl, b4.1, b3.1.2.2.2.1, nb_Wp g1 ⟨k, rfl, g4.1, g3.1.2.2.2.1, fun _ => ⟨fun _ => ⟨by omega, ?_⟩, fun z => absurd z (by omega)⟩, fun z => absurd l5 z⟩⟩⟩⟩⟩⟩), s2, s5.1, nb_Wq (w_m_drinkLine_0 s5.1 ⟨fun _ => ⟨by omega, by omega, nb_Wp t2 ⟨rfl, t5.1, nb_Wp a2 ⟨x, rfl, a5.1, nb_Wp b2 ⟨u, rfl, b5.1, nb_Wp g2 ⟨k, rfl, g5.1, fun _ => ?_, fun z => absurd f5 z⟩⟩⟩⟩⟩, fun z => absurd f1 z⟩), ?_, ?_, ml5.wr, fun _ => ?_⟩
      · rw [e511, ad2]
        exact fun _ => ⟨rfl, rfl⟩
      · have e : (nb_wr N5 607 (8 + 3 * N1.1 607 3 + 2) k).1 607 3 = N5.1 607 3 := by rw [nb_wr_1, if_neg (by omega)]
        rw [show nb_add (N5.1 607 3) 1 = N.1 607 3 + 1 from ad1]
        exact fun _ => ⟨rfl, rfl⟩
      · have e3' : (nb_wr (nb_wr N5 607 (8 + 3 * N1.1 607 3 + 2) k) 607 3 (N.1 607 3 + 1)).1 607 3 = N.1 607 3 + 1 := by rw [nb_wr_1, if_pos ⟨rfl, rfl⟩]
        have e4' : ∀ i, (i = 4 ∨ i = 5) → (nb_wr (nb_wr N5 607 (8 + 3 * N1.1 607 3 + 2) k) 607 3 (N.1 607 3 + 1)).1 607 i = N.1 607 i := fun i hi => by
          rw [nb_wr_1, if_neg (by omega), nb_wr_1, if_neg (by omega), k5 i (by omega) (by omega), if_neg (by omega), if_neg (by omega)]
        rw [e3', e4' 4 (by omega), e4' 5 (by omega)]
        exact (((((w5.wg (i := 3) (v := N.1 607 3 + 1) (by decide)).wh (by omega) W1).wh (by omega) W2).wh (by omega) W3).wh (by omega) W4)
      · exact (((cl5.wr hSo (by omega) (by omega) W1).wr hSo (by omega) (by omega) W2).wr hSo (by omega) (by omega) W3).wr hSo (by omega) (by omega) W4
      · refine hH.drink (x := x) (y := u) (z := k) e0 lt5 (fun a p0 p1 => ?_) (fun i hi => ?_) (fun i hi => ⟨?_, ?_, ?_⟩) (fun i p0 p1 p2 p3 => ?_) ?_ ?_ ⟨?_, ?_, ?_⟩ ⟨?_, ?_, ?_⟩ (by omega)
        · rw [nb_wr_b (by omega), nb_wr_b (by omega), nb_wr_b (by omega), nb_wr_b (by omega)]; exact SM5 a (by omega) p1
        · rw [nb_wr_1, if_neg (by omega), nb_wr_b (by omega), nb_wr_b (by omega), nb_wr_b (by omega), SM5 So (by omega) (by omega)]
        · rw [nb_wr_b (by omega), nb_wr_b (by omega), nb_wr_b (by omega), nb_wr_1, if_neg (by omega), SM5 _ (by omega) (by omega)]
        · rw [nb_wr_b (by omega), nb_wr_b (by omega), nb_wr_1, if_neg (by omega), nb_wr_b (by omega), SM5 _ (by omega) (by omega)]
        · rw [nb_wr_b (by omega), nb_wr_1, if_neg (by omega), nb_wr_b (by omega), nb_wr_b (by omega), SM5 _ (by omega) (by omega)]
        · rw [nb_wr_1, if_neg (by omega), nb_wr_1, if_neg (by omega), k5 i p0 p1, if_neg (by omega), if_neg (by omega)]
        · rw [nb_wr_1, if_pos ⟨rfl, rfl⟩]
        · rw [nb_wr_1, if_pos ⟨rfl, rfl⟩]
        · rw [nb_wr_b (by omega), nb_wr_b (by omega), nb_wr_b (by omega), nb_wr_1, if_pos ⟨rfl, rfl⟩]
        · rw [nb_wr_b (by omega), nb_wr_b (by omega), nb_wr_1, if_pos ⟨rfl, rfl⟩]
        · rw [nb_wr_b (by omega), nb_wr_1, if_pos ⟨rfl, rfl⟩]
        · rw [nb_wr_1, if_neg (by omega), nb_wr_1, if_neg (by omega), k5 _ (by omega) (by omega), if_neg (by omega), if_pos rfl]
        · rw [nb_wr_1, if_neg (by omega), nb_wr_1, if_neg (by omega), k5 _ (by omega) (by omega), if_pos rfl]
        · rw [nb_wr_1, if_neg (by omega), nb_wr_1, if_pos ⟨rfl, by omega⟩]
    · have f5 : N5.1 603 13 ≠ 0 := fun z => l5 (g3.ff.2 z)
      exact ⟨M5, N1, nb_wr N5 607 (8 + 3 * N1.1 607 3 + 2) m, nb_Wq (w_rd_readDrink_0 W hSo h764 ⟨by omega, by omega, nb_Wp s1 ⟨rfl, s4.1, q4, nb_Wp t1 ⟨rfl, t4.1, t3.1.2.2.2.1, nb_Wp a1 ⟨x, rfl, a4.1, a3.1.2.2.2.1, nb_Wp b1 ⟨u, rfl, b4.1, b3.1.2.2.2.1, nb_Wp g1 ⟨k, rfl, g4.1, g3.1.2.2.2.1, fun z => absurd z l5, fun _ _ => ⟨rfl, rfl⟩⟩⟩⟩⟩⟩⟩), s2, s5.1, nb_Wq (w_m_drinkLine_0 s5.1 ⟨fun _ => ⟨by omega, by omega, nb_Wp t2 ⟨rfl, t5.1, nb_Wp a2 ⟨y, rfl, a5.1, nb_Wp b2 ⟨v, rfl, b5.1, nb_Wp g2 ⟨m, rfl, g5.1, fun z => absurd z f5, fun _ _ => ⟨rfl, rfl⟩⟩⟩⟩⟩⟩, fun z => absurd f1 z⟩), ⟨w5.1, Or.inr (w5.dd l5)⟩, cl5, ml5, fun z => absurd z l5⟩
  · have f1 : N1.1 603 13 ≠ 0 := fun z => l1 (s3.ff.2 z)
    have hB := s3.1
    have h5 : 0 ≤ M1.1 76 5 ∧ M1.1 76 5 ≤ 18 := hB.2.2.2.2.2.2.2.2
    have dt := dd_tellName (so := 0) (nu := M1.1 So 11) s4.1 hSo q4 h5 l1
    have d1 := dd_number (lo := 1) (hi := 90) (pu_tok_at 38 (by decide) (by decide)) s4.1 hSo q4 l1
    have d2 := dd_number (lo := 0) (hi := nb_l2i (M1.1 76 8)) (pu_tok_at 39 (by decide) (by decide)) s4.1 hSo q4 l1
    have d3 := dd_number (lo := 0) (hi := 99) (pu_tok_at 40 (by decide) (by decide)) s4.1 hSo q4 l1
    exact ⟨M1, N1, N1, nb_Wq (w_rd_readDrink_0 W hSo h764 ⟨by omega, by omega, nb_Wp s1 ⟨rfl, s4.1, q4, nb_Wp dt ⟨rfl, s4.1, q4, nb_Wp d1 ⟨_, rfl, s4.1, q4, nb_Wp d2 ⟨_, rfl, s4.1, q4, nb_Wp d3 ⟨_, rfl, s4.1, q4, fun z => absurd z l1, fun _ _ => ⟨rfl, rfl⟩⟩⟩⟩⟩⟩⟩), s2, s5.1, nb_Wq (w_m_drinkLine_0 s5.1 ⟨fun z => absurd z f1, fun _ _ => ⟨rfl, rfl⟩⟩), ⟨hB, Or.inr (s3.dd l1)⟩, s4.cl hSo, s5.ml, fun z => absurd z l1⟩
