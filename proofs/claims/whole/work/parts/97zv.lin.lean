/-! RULES, MANNERS, how a line begins -/
variable {So n d s p : Int} {tx : Int → Int} {cnt j : Nat} {E : Nat → Int} {M N : nb_M}
theorem rl_ch {kc kr : Int} (hc : pu_tok kc) (hr : pu_tok kr) (hv : pu_tv kc = pu_tv kr) (h : pu_RL So tx n cnt E M N j d s p) : ∃ x y : Int, nb_R nb_P 227 0 [(13, 76), (2, kc)] [] M = some ([(0, x)], M) ∧ nb_R nb_P 93 0 [(20, 603), (2, kr), (98, 0), (98, 0)] [] N = some ([(0, y)], N) ∧ (M.1 76 9 = 0 → x = y ∧ (x ≠ 0 → M.1 76 7 = 1 ∨ M.1 76 7 = 2)) ∧ (M.1 76 9 ≠ 0 → y = 0) := by
  obtain ⟨hB, h⟩ := h
  obtain ⟨W, WN, hSo, h764, hT, hn, htx, h3, h5⟩ := hB
  obtain ⟨x, x1, x2, x3⟩ := sp_rd_stands W hSo h764 hc
  obtain ⟨y, y1, y2, y3⟩ := sp_m_isWord (v2 := (98, 0)) (v3 := (98, 0)) WN hr
  refine ⟨x, y, x3, y3, fun z => ?_, fun z => ?_⟩
  · rcases h with ⟨i, hi, hL⟩ | hD
    · obtain ⟨l1, l2, l3, l4, l5, l6, l7, l8, l9, l10⟩ := hL
      have iff := pu_isw_iff l8 l2 hr
      rw [← hv] at iff
      have e : x = 1 ↔ y = 1 := x2.trans (iff.symm.trans y2.symm)
      exact ⟨by omega, fun q => (x2.1 (by omega)).1⟩
    · exact absurd z hD.1
  · rcases h with ⟨i, hi, hL⟩ | hD
    · exact absurd hL.1 z
    · rcases y1 with q | q
      · exact q
      · exact absurd (y2.1 q).1 (by have := hD.2.1; omega)
/-- a token is passed -/
theorem rl_pass (h : pu_RL So tx n cnt E M N j d s p) (hk : M.1 76 9 = 0 → M.1 76 7 ≠ 0 ∧ M.1 76 7 ≠ 6) : ∃ M1 N1, nb_R nb_P 225 0 [(13, 76)] [] M = some ([], M1) ∧ (M.1 76 9 = 0 → N.1 603 13 = 0 ∧ nb_R nb_P 91 0 [(20, 603), (98, 0), (98, 0), (98, 0)] [] N = some ([], N1)) ∧ (M.1 76 9 ≠ 0 → N.1 603 13 ≠ 0 ∧ N1 = N ∧ M1 = M) ∧ pu_RL So tx n cnt E M1 N1 j d s p ∧ pu_cf M M1 ∧ pu_mf N N1 ∧ (M1.1 76 9 = 0 ↔ M.1 76 9 = 0) := by
  obtain ⟨hB, h⟩ := h
  have hB' := hB
  obtain ⟨W, WN, hSo, h764, hT, hn, htx, h3, h5⟩ := hB'
  rcases h with ⟨i, hi, hL⟩ | hD
  · have l1 := hL.1
    obtain ⟨M1, N1, s1, s2, s3, s4, s5, s6⟩ := rl_step hB hL (hk l1).1 (hk l1).2
    exact ⟨M1, N1, s1, fun _ => ⟨hL.2.1, s2⟩, fun z => absurd l1 z, ⟨s3, Or.inl ⟨i + 1, by omega, s4⟩⟩, s5, s6, ⟨fun _ => l1, fun _ => s4.1⟩⟩
  · exact ⟨M, N, dd_step W hSo h764 hD.1, fun z => absurd z hD.1, fun _ => ⟨by have := hD.2.1; omega, rfl, rfl⟩, ⟨hB, Or.inr hD⟩, pu_cf.id W, pu_mf.id WN, Iff.rfl⟩
/-- a fault, if there was none -/
theorem rl_bad {f : Int} (hf : f ≠ 0) (h : pu_RL So tx n cnt E M N j d s p) : ∃ M1 N1, nb_R nb_P 226 0 [(13, 76), (0, f)] [] M = some ([], M1) ∧ nb_R nb_P 225 0 [(13, 76)] [] M1 = some ([], M1) ∧ nb_R nb_P 92 0 [(20, 603), (0, f), (0, N.1 603 4)] [] N = some ([], N1) ∧ pu_Ba So tx n cnt E M1 N1 ∧ pu_Dd M1 N1 ∧ pu_cf M M1 ∧ pu_mf N N1 ∧ N1.1 603 13 ≠ 0 := by
  obtain ⟨hB, h⟩ := h
  have hB' := hB
  obtain ⟨W, WN, hSo, h764, hT, hn, htx, h3, h5⟩ := hB'
  rcases h with ⟨i, hi, hL⟩ | hD
  · obtain ⟨M1, N1, s1, s2, s3, s4, s5, s6⟩ := rl_fail hf hB hL
    exact ⟨M1, N1, s1, dd_step s5.1 hSo (s5.2.2.2.trans h764) s4.1, s2, s3, s4, s5, s6, by have := s4.2.1; omega⟩
  · have hd := hD.2.1
    exact ⟨M, N, dd_fail W hSo h764 hD.1, dd_step W hSo h764 hD.1, dm_wrong WN (by omega), hB, hD, pu_cf.id W, pu_mf.id WN, by omega⟩
/-- a rule of the staff -/
theorem rl_rule (h : pu_RL So tx n cnt E M N j d s p) : ∃ (x : Int) (M1 N1 : nb_M) (y1 y2 y3 y4 y5 : Int), nb_R nb_P 245 0 [(13, 76), (98, 0)] [] M = some ([(0, x)], M1) ∧ (nb_R nb_P 93 0 [(20, 603), (2, 12), (98, 0), (98, 0)] [] N = some ([(0, y1)], N) ∧ nb_R nb_P 93 0 [(20, 603), (2, 13), (98, 0), (98, 0)] [] N = some ([(0, y2)], N) ∧ nb_R nb_P 93 0 [(20, 603), (2, 14), (98, 0), (98, 0)] [] N = some ([(0, y3)], N) ∧ nb_R nb_P 93 0 [(20, 603), (2, 15), (98, 0), (98, 0)] [] N = some ([(0, y4)], N) ∧ nb_R nb_P 93 0 [(20, 603), (2, 16), (98, 0), (98, 0)] [] N = some ([(0, y5)], N)) ∧ pu_RL So tx n cnt E M1 N1 j d s p ∧ pu_cf M M1 ∧ pu_mf N N1 ∧ ((M1.1 76 9 = 0 ∧ M.1 76 9 = 0 ∧ N.1 603 13 = 0 ∧ nb_R nb_P 91 0 [(20, 603), (98, 0), (98, 0), (98, 0)] [] N = some ([], N1) ∧ ((y1 ≠ 0 ∧ x = 0) ∨ (y1 = 0 ∧ y2 ≠ 0 ∧ x = 1) ∨ (y1 = 0 ∧ y2 = 0 ∧ y3 ≠ 0 ∧ x = 2) ∨ (y1 = 0 ∧ y2 = 0 ∧ y3 = 0 ∧ y4 ≠ 0 ∧ x = 3) ∨ (y1 = 0 ∧ y2 = 0 ∧ y3 = 0 ∧ y4 = 0 ∧ y5 ≠ 0 ∧ x = 4))) ∨ (M1.1 76 9 ≠ 0 ∧ N1.1 603 13 ≠ 0 ∧ (y1 = 0 ∧ y2 = 0 ∧ y3 = 0 ∧ y4 = 0 ∧ y5 = 0) ∧ nb_R nb_P 92 0 [(20, 603), (0, 1), (0, N.1 603 4)] [] N = some ([], N1))) := by
  have h' := h
  obtain ⟨⟨W, WN, hSo, h764, hT, hn, htx, h3, h5⟩, -⟩ := h'
  obtain ⟨x1, y1, e1, g1, a1, b1⟩ := rl_ch (pu_tok_at 52 (by decide) (by decide)) (pu_tok_at 12 (by decide) (by decide)) (by decide +kernel) h
  obtain ⟨x2, y2, e2, g2, a2, b2⟩ := rl_ch (pu_tok_at 53 (by decide) (by decide)) (pu_tok_at 13 (by decide) (by decide)) (by decide +kernel) h
  obtain ⟨x3, y3, e3, g3, a3, b3⟩ := rl_ch (pu_tok_at 54 (by decide) (by decide)) (pu_tok_at 14 (by decide) (by decide)) (by decide +kernel) h
  obtain ⟨x4, y4, e4, g4, a4, b4⟩ := rl_ch (pu_tok_at 55 (by decide) (by decide)) (pu_tok_at 15 (by decide) (by decide)) (by decide +kernel) h
  obtain ⟨x5, y5, e5, g5, a5, b5⟩ := rl_ch (pu_tok_at 56 (by decide) (by decide)) (pu_tok_at 16 (by decide) (by decide)) (by decide +kernel) h
  by_cases c1 : x1 = 0
  case neg =>
    by_cases l : M.1 76 9 = 0
    · obtain ⟨M1, N1, s1, s2, s3, s4, s5, s6, s7⟩ := rl_pass h (fun z => by have := (a1 z).2 c1; omega)
      have q1 := (a1 l).1
      exact ⟨0, M1, N1, y1, y2, y3, y4, y5, nb_Wq (w_rd_rule_0 W hSo h764 (nb_Wp e1 ⟨x1, rfl, W, h764, fun z => absurd z c1, fun _ => nb_Wp s1 ⟨rfl, s5.1, s5.2.2.2.trans h764, fun _ => ⟨rfl, rfl⟩⟩⟩)), ⟨g1, g2, g3, g4, g5⟩, s4, s5, s6, Or.inl ⟨s7.2 l, l, (s2 l).1, (s2 l).2, Or.inl ⟨by omega, rfl⟩⟩⟩
    · obtain ⟨M1, N1, s1, s1b, s2, s3, s4, s5, s6, s7⟩ := rl_bad (f := 1) (by decide) h
      have st := dd_step W hSo h764 l
      have e := s1.symm.trans (dd_fail W hSo h764 l)
      simp only [Option.some.injEq, Prod.mk.injEq, true_and] at e
      subst e
      exact ⟨0, M1, N1, y1, y2, y3, y4, y5, nb_Wq (w_rd_rule_0 W hSo h764 (nb_Wp e1 ⟨x1, rfl, W, h764, fun z => absurd z c1, fun _ => nb_Wp st ⟨rfl, W, h764, fun _ => ⟨rfl, rfl⟩⟩⟩)), ⟨g1, g2, g3, g4, g5⟩, ⟨s3, Or.inr s4⟩, s5, s6, Or.inr ⟨l, s7, ⟨b1 l, b2 l, b3 l, b4 l, b5 l⟩, s2⟩⟩
  by_cases c2 : x2 = 0
  case neg =>
    by_cases l : M.1 76 9 = 0
    · obtain ⟨M1, N1, s1, s2, s3, s4, s5, s6, s7⟩ := rl_pass h (fun z => by have := (a2 z).2 c2; omega)
      have q1 := (a1 l).1
      have q2 := (a2 l).1
      exact ⟨1, M1, N1, y1, y2, y3, y4, y5, nb_Wq (w_rd_rule_0 W hSo h764 (nb_Wp e1 ⟨x1, rfl, W, h764, fun _ => nb_Wp e2 ⟨x2, rfl, W, h764, fun z => absurd z c2, fun _ => nb_Wp s1 ⟨rfl, s5.1, s5.2.2.2.trans h764, fun _ => ⟨rfl, rfl⟩⟩⟩, fun z => absurd c1 z⟩)), ⟨g1, g2, g3, g4, g5⟩, s4, s5, s6, Or.inl ⟨s7.2 l, l, (s2 l).1, (s2 l).2, Or.inr (Or.inl ⟨by omega, by omega, rfl⟩)⟩⟩
    · obtain ⟨M1, N1, s1, s1b, s2, s3, s4, s5, s6, s7⟩ := rl_bad (f := 1) (by decide) h
      have st := dd_step W hSo h764 l
      have e := s1.symm.trans (dd_fail W hSo h764 l)
      simp only [Option.some.injEq, Prod.mk.injEq, true_and] at e
      subst e
      exact ⟨1, M1, N1, y1, y2, y3, y4, y5, nb_Wq (w_rd_rule_0 W hSo h764 (nb_Wp e1 ⟨x1, rfl, W, h764, fun _ => nb_Wp e2 ⟨x2, rfl, W, h764, fun z => absurd z c2, fun _ => nb_Wp st ⟨rfl, W, h764, fun _ => ⟨rfl, rfl⟩⟩⟩, fun z => absurd c1 z⟩)), ⟨g1, g2, g3, g4, g5⟩, ⟨s3, Or.inr s4⟩, s5, s6, Or.inr ⟨l, s7, ⟨b1 l, b2 l, b3 l, b4 l, b5 l⟩, s2⟩⟩
  by_cases c3 : x3 = 0
  case neg =>
    by_cases l : M.1 76 9 = 0
    · obtain ⟨M1, N1, s1, s2, s3, s4, s5, s6, s7⟩ := rl_pass h (fun z => by have := (a3 z).2 c3; omega)
      have q1 := (a1 l).1
      have q2 := (a2 l).1
      have q3 := (a3 l).1
      exact ⟨2, M1, N1, y1, y2, y3, y4, y5, nb_Wq (w_rd_rule_0 W hSo h764 (nb_Wp e1 ⟨x1, rfl, W, h764, fun _ => nb_Wp e2 ⟨x2, rfl, W, h764, fun _ => nb_Wp e3 ⟨x3, rfl, W, h764, fun z => absurd z c3, fun _ => nb_Wp s1 ⟨rfl, s5.1, s5.2.2.2.trans h764, fun _ => ⟨rfl, rfl⟩⟩⟩, fun z => absurd c2 z⟩, fun z => absurd c1 z⟩)), ⟨g1, g2, g3, g4, g5⟩, s4, s5, s6, Or.inl ⟨s7.2 l, l, (s2 l).1, (s2 l).2, Or.inr (Or.inr (Or.inl ⟨by omega, by omega, by omega, rfl⟩))⟩⟩
    · obtain ⟨M1, N1, s1, s1b, s2, s3, s4, s5, s6, s7⟩ := rl_bad (f := 1) (by decide) h
      have st := dd_step W hSo h764 l
      have e := s1.symm.trans (dd_fail W hSo h764 l)
      simp only [Option.some.injEq, Prod.mk.injEq, true_and] at e
      subst e
      exact ⟨2, M1, N1, y1, y2, y3, y4, y5, nb_Wq (w_rd_rule_0 W hSo h764 (nb_Wp e1 ⟨x1, rfl, W, h764, fun _ => nb_Wp e2 ⟨x2, rfl, W, h764, fun _ => nb_Wp e3 ⟨x3, rfl, W, h764, fun z => absurd z c3, fun _ => nb_Wp st ⟨rfl, W, h764, fun _ => ⟨rfl, rfl⟩⟩⟩, fun z => absurd c2 z⟩, fun z => absurd c1 z⟩)), ⟨g1, g2, g3, g4, g5⟩, ⟨s3, Or.inr s4⟩, s5, s6, Or.inr ⟨l, s7, ⟨b1 l, b2 l, b3 l, b4 l, b5 l⟩, s2⟩⟩
  by_cases c4 : x4 = 0
  case neg =>
    by_cases l : M.1 76 9 = 0
    · obtain ⟨M1, N1, s1, s2, s3, s4, s5, s6, s7⟩ := rl_pass h (fun z => by have := (a4 z).2 c4; omega)
      have q1 := (a1 l).1
      have q2 := (a2 l).1
      have q3 := (a3 l).1
      have q4 := (a4 l).1
      exact ⟨3, M1, N1, y1, y2, y3, y4, y5, nb_Wq (w_rd_rule_0 W hSo h764 (nb_Wp e1 ⟨x1, rfl, W, h764, fun _ => nb_Wp e2 ⟨x2, rfl, W, h764, fun _ => nb_Wp e3 ⟨x3, rfl, W, h764, fun _ => nb_Wp e4 ⟨x4, rfl, W, h764, fun z => absurd z c4, fun _ => nb_Wp s1 ⟨rfl, s5.1, s5.2.2.2.trans h764, fun _ => ⟨rfl, rfl⟩⟩⟩, fun z => absurd c3 z⟩, fun z => absurd c2 z⟩, fun z => absurd c1 z⟩)), ⟨g1, g2, g3, g4, g5⟩, s4, s5, s6, Or.inl ⟨s7.2 l, l, (s2 l).1, (s2 l).2, Or.inr (Or.inr (Or.inr (Or.inl ⟨by omega, by omega, by omega, by omega, rfl⟩)))⟩⟩
    · obtain ⟨M1, N1, s1, s1b, s2, s3, s4, s5, s6, s7⟩ := rl_bad (f := 1) (by decide) h
      have st := dd_step W hSo h764 l
      have e := s1.symm.trans (dd_fail W hSo h764 l)
      simp only [Option.some.injEq, Prod.mk.injEq, true_and] at e
      subst e
      exact ⟨3, M1, N1, y1, y2, y3, y4, y5, nb_Wq (w_rd_rule_0 W hSo h764 (nb_Wp e1 ⟨x1, rfl, W, h764, fun _ => nb_Wp e2 ⟨x2, rfl, W, h764, fun _ => nb_Wp e3 ⟨x3, rfl, W, h764, fun _ => nb_Wp e4 ⟨x4, rfl, W, h764, fun z => absurd z c4, fun _ => nb_Wp st ⟨rfl, W, h764, fun _ => ⟨rfl, rfl⟩⟩⟩, fun z => absurd c3 z⟩, fun z => absurd c2 z⟩, fun z => absurd c1 z⟩)), ⟨g1, g2, g3, g4, g5⟩, ⟨s3, Or.inr s4⟩, s5, s6, Or.inr ⟨l, s7, ⟨b1 l, b2 l, b3 l, b4 l, b5 l⟩, s2⟩⟩
  by_cases c5 : x5 = 0
  case neg =>
    by_cases l : M.1 76 9 = 0
    · obtain ⟨M1, N1, s1, s2, s3, s4, s5, s6, s7⟩ := rl_pass h (fun z => by have := (a5 z).2 c5; omega)
      have q1 := (a1 l).1
      have q2 := (a2 l).1
      have q3 := (a3 l).1
      have q4 := (a4 l).1
      have q5 := (a5 l).1
      exact ⟨4, M1, N1, y1, y2, y3, y4, y5, nb_Wq (w_rd_rule_0 W hSo h764 (nb_Wp e1 ⟨x1, rfl, W, h764, fun _ => nb_Wp e2 ⟨x2, rfl, W, h764, fun _ => nb_Wp e3 ⟨x3, rfl, W, h764, fun _ => nb_Wp e4 ⟨x4, rfl, W, h764, fun _ => nb_Wp e5 ⟨x5, rfl, W, h764, fun z => absurd z c5, fun _ => nb_Wp s1 ⟨rfl, s5.1, s5.2.2.2.trans h764, fun _ => ⟨rfl, rfl⟩⟩⟩, fun z => absurd c4 z⟩, fun z => absurd c3 z⟩, fun z => absurd c2 z⟩, fun z => absurd c1 z⟩)), ⟨g1, g2, g3, g4, g5⟩, s4, s5, s6, Or.inl ⟨s7.2 l, l, (s2 l).1, (s2 l).2, Or.inr (Or.inr (Or.inr (Or.inr (⟨by omega, by omega, by omega, by omega, by omega, rfl⟩))))⟩⟩
    · obtain ⟨M1, N1, s1, s1b, s2, s3, s4, s5, s6, s7⟩ := rl_bad (f := 1) (by decide) h
      have st := dd_step W hSo h764 l
      have e := s1.symm.trans (dd_fail W hSo h764 l)
      simp only [Option.some.injEq, Prod.mk.injEq, true_and] at e
      subst e
      exact ⟨4, M1, N1, y1, y2, y3, y4, y5, nb_Wq (w_rd_rule_0 W hSo h764 (nb_Wp e1 ⟨x1, rfl, W, h764, fun _ => nb_Wp e2 ⟨x2, rfl, W, h764, fun _ => nb_Wp e3 ⟨x3, rfl, W, h764, fun _ => nb_Wp e4 ⟨x4, rfl, W, h764, fun _ => nb_Wp e5 ⟨x5, rfl, W, h764, fun z => absurd z c5, fun _ => nb_Wp st ⟨rfl, W, h764, fun _ => ⟨rfl, rfl⟩⟩⟩, fun z => absurd c4 z⟩, fun z => absurd c3 z⟩, fun z => absurd c2 z⟩, fun z => absurd c1 z⟩)), ⟨g1, g2, g3, g4, g5⟩, ⟨s3, Or.inr s4⟩, s5, s6, Or.inr ⟨l, s7, ⟨b1 l, b2 l, b3 l, b4 l, b5 l⟩, s2⟩⟩
  obtain ⟨M1, N1, s1, s1b, s2, s3, s4, s5, s6, s7⟩ := rl_bad (f := 1) (by decide) h
  have z1 : y1 = 0 := by
    by_cases l : M.1 76 9 = 0
    · have := (a1 l).1; omega
    · exact b1 l
  have z2 : y2 = 0 := by
    by_cases l : M.1 76 9 = 0
    · have := (a2 l).1; omega
    · exact b2 l
  have z3 : y3 = 0 := by
    by_cases l : M.1 76 9 = 0
    · have := (a3 l).1; omega
    · exact b3 l
  have z4 : y4 = 0 := by
    by_cases l : M.1 76 9 = 0
    · have := (a4 l).1; omega
    · exact b4 l
  have z5 : y5 = 0 := by
    by_cases l : M.1 76 9 = 0
    · have := (a5 l).1; omega
    · exact b5 l
  exact ⟨-1, M1, N1, y1, y2, y3, y4, y5, nb_Wq (w_rd_rule_0 W hSo h764 (nb_Wp e1 ⟨x1, rfl, W, h764, fun _ => nb_Wp e2 ⟨x2, rfl, W, h764, fun _ => nb_Wp e3 ⟨x3, rfl, W, h764, fun _ => nb_Wp e4 ⟨x4, rfl, W, h764, fun _ => nb_Wp e5 ⟨x5, rfl, W, h764, fun _ => nb_Wp s1 ⟨rfl, s5.1, s5.2.2.2.trans h764, nb_Wp s1b ⟨rfl, s5.1, s5.2.2.2.trans h764, fun _ => ⟨rfl, rfl⟩⟩⟩, fun z => absurd c5 z⟩, fun z => absurd c4 z⟩, fun z => absurd c3 z⟩, fun z => absurd c2 z⟩, fun z => absurd c1 z⟩)), ⟨g1, g2, g3, g4, g5⟩, ⟨s3, Or.inr s4⟩, s5, s6, Or.inr ⟨s4.1, s7, ⟨z1, z2, z3, z4, z5⟩, s2⟩⟩
/-- a manner -/
theorem rl_manner (h : pu_RL So tx n cnt E M N j d s p) : ∃ (x : Int) (M1 N1 : nb_M) (y1 y2 y3 y4 : Int), nb_R nb_P 246 0 [(13, 76), (98, 0)] [] M = some ([(0, x)], M1) ∧ (nb_R nb_P 93 0 [(20, 603), (2, 22), (98, 0), (98, 0)] [] N = some ([(0, y1)], N) ∧ nb_R nb_P 93 0 [(20, 603), (2, 23), (98, 0), (98, 0)] [] N = some ([(0, y2)], N) ∧ nb_R nb_P 93 0 [(20, 603), (2, 24), (98, 0), (98, 0)] [] N = some ([(0, y3)], N) ∧ nb_R nb_P 93 0 [(20, 603), (2, 16), (98, 0), (98, 0)] [] N = some ([(0, y4)], N)) ∧ pu_RL So tx n cnt E M1 N1 j d s p ∧ pu_cf M M1 ∧ pu_mf N N1 ∧ ((M1.1 76 9 = 0 ∧ M.1 76 9 = 0 ∧ N.1 603 13 = 0 ∧ nb_R nb_P 91 0 [(20, 603), (98, 0), (98, 0), (98, 0)] [] N = some ([], N1) ∧ ((y1 ≠ 0 ∧ x = 0) ∨ (y1 = 0 ∧ y2 ≠ 0 ∧ x = 1) ∨ (y1 = 0 ∧ y2 = 0 ∧ y3 ≠ 0 ∧ x = 2) ∨ (y1 = 0 ∧ y2 = 0 ∧ y3 = 0 ∧ y4 ≠ 0 ∧ x = 3))) ∨ (M1.1 76 9 ≠ 0 ∧ N1.1 603 13 ≠ 0 ∧ (y1 = 0 ∧ y2 = 0 ∧ y3 = 0 ∧ y4 = 0) ∧ nb_R nb_P 92 0 [(20, 603), (0, 1), (0, N.1 603 4)] [] N = some ([], N1))) := by
  have h' := h
  obtain ⟨⟨W, WN, hSo, h764, hT, hn, htx, h3, h5⟩, -⟩ := h'
  obtain ⟨x1, y1, e1, g1, a1, b1⟩ := rl_ch (pu_tok_at 57 (by decide) (by decide)) (pu_tok_at 22 (by decide) (by decide)) (by decide +kernel) h
  obtain ⟨x2, y2, e2, g2, a2, b2⟩ := rl_ch (pu_tok_at 58 (by decide) (by decide)) (pu_tok_at 23 (by decide) (by decide)) (by decide +kernel) h
  obtain ⟨x3, y3, e3, g3, a3, b3⟩ := rl_ch (pu_tok_at 59 (by decide) (by decide)) (pu_tok_at 24 (by decide) (by decide)) (by decide +kernel) h
  obtain ⟨x4, y4, e4, g4, a4, b4⟩ := rl_ch (pu_tok_at 56 (by decide) (by decide)) (pu_tok_at 16 (by decide) (by decide)) (by decide +kernel) h
  by_cases c1 : x1 = 0
  case neg =>
    by_cases l : M.1 76 9 = 0
    · obtain ⟨M1, N1, s1, s2, s3, s4, s5, s6, s7⟩ := rl_pass h (fun z => by have := (a1 z).2 c1; omega)
      have q1 := (a1 l).1
      exact ⟨0, M1, N1, y1, y2, y3, y4, nb_Wq (w_rd_manner_0 W hSo h764 (nb_Wp e1 ⟨x1, rfl, W, h764, fun z => absurd z c1, fun _ => nb_Wp s1 ⟨rfl, s5.1, s5.2.2.2.trans h764, fun _ => ⟨rfl, rfl⟩⟩⟩)), ⟨g1, g2, g3, g4⟩, s4, s5, s6, Or.inl ⟨s7.2 l, l, (s2 l).1, (s2 l).2, Or.inl ⟨by omega, rfl⟩⟩⟩
    · obtain ⟨M1, N1, s1, s1b, s2, s3, s4, s5, s6, s7⟩ := rl_bad (f := 1) (by decide) h
      have st := dd_step W hSo h764 l
      have e := s1.symm.trans (dd_fail W hSo h764 l)
      simp only [Option.some.injEq, Prod.mk.injEq, true_and] at e
      subst e
      exact ⟨0, M1, N1, y1, y2, y3, y4, nb_Wq (w_rd_manner_0 W hSo h764 (nb_Wp e1 ⟨x1, rfl, W, h764, fun z => absurd z c1, fun _ => nb_Wp st ⟨rfl, W, h764, fun _ => ⟨rfl, rfl⟩⟩⟩)), ⟨g1, g2, g3, g4⟩, ⟨s3, Or.inr s4⟩, s5, s6, Or.inr ⟨l, s7, ⟨b1 l, b2 l, b3 l, b4 l⟩, s2⟩⟩
  by_cases c2 : x2 = 0
  case neg =>
    by_cases l : M.1 76 9 = 0
    · obtain ⟨M1, N1, s1, s2, s3, s4, s5, s6, s7⟩ := rl_pass h (fun z => by have := (a2 z).2 c2; omega)
      have q1 := (a1 l).1
      have q2 := (a2 l).1
      exact ⟨1, M1, N1, y1, y2, y3, y4, nb_Wq (w_rd_manner_0 W hSo h764 (nb_Wp e1 ⟨x1, rfl, W, h764, fun _ => nb_Wp e2 ⟨x2, rfl, W, h764, fun z => absurd z c2, fun _ => nb_Wp s1 ⟨rfl, s5.1, s5.2.2.2.trans h764, fun _ => ⟨rfl, rfl⟩⟩⟩, fun z => absurd c1 z⟩)), ⟨g1, g2, g3, g4⟩, s4, s5, s6, Or.inl ⟨s7.2 l, l, (s2 l).1, (s2 l).2, Or.inr (Or.inl ⟨by omega, by omega, rfl⟩)⟩⟩
    · obtain ⟨M1, N1, s1, s1b, s2, s3, s4, s5, s6, s7⟩ := rl_bad (f := 1) (by decide) h
      have st := dd_step W hSo h764 l
      have e := s1.symm.trans (dd_fail W hSo h764 l)
      simp only [Option.some.injEq, Prod.mk.injEq, true_and] at e
      subst e
      exact ⟨1, M1, N1, y1, y2, y3, y4, nb_Wq (w_rd_manner_0 W hSo h764 (nb_Wp e1 ⟨x1, rfl, W, h764, fun _ => nb_Wp e2 ⟨x2, rfl, W, h764, fun z => absurd z c2, fun _ => nb_Wp st ⟨rfl, W, h764, fun _ => ⟨rfl, rfl⟩⟩⟩, fun z => absurd c1 z⟩)), ⟨g1, g2, g3, g4⟩, ⟨s3, Or.inr s4⟩, s5, s6, Or.inr ⟨l, s7, ⟨b1 l, b2 l, b3 l, b4 l⟩, s2⟩⟩
  by_cases c3 : x3 = 0
  case neg =>
    by_cases l : M.1 76 9 = 0
    · obtain ⟨M1, N1, s1, s2, s3, s4, s5, s6, s7⟩ := rl_pass h (fun z => by have := (a3 z).2 c3; omega)
      have q1 := (a1 l).1
      have q2 := (a2 l).1
      have q3 := (a3 l).1
      exact ⟨2, M1, N1, y1, y2, y3, y4, nb_Wq (w_rd_manner_0 W hSo h764 (nb_Wp e1 ⟨x1, rfl, W, h764, fun _ => nb_Wp e2 ⟨x2, rfl, W, h764, fun _ => nb_Wp e3 ⟨x3, rfl, W, h764, fun z => absurd z c3, fun _ => nb_Wp s1 ⟨rfl, s5.1, s5.2.2.2.trans h764, fun _ => ⟨rfl, rfl⟩⟩⟩, fun z => absurd c2 z⟩, fun z => absurd c1 z⟩)), ⟨g1, g2, g3, g4⟩, s4, s5, s6, Or.inl ⟨s7.2 l, l, (s2 l).1, (s2 l).2, Or.inr (Or.inr (Or.inl ⟨by omega, by omega, by omega, rfl⟩))⟩⟩
    · obtain ⟨M1, N1, s1, s1b, s2, s3, s4, s5, s6, s7⟩ := rl_bad (f := 1) (by decide) h
      have st := dd_step W hSo h764 l
      have e := s1.symm.trans (dd_fail W hSo h764 l)
      simp only [Option.some.injEq, Prod.mk.injEq, true_and] at e
      subst e
      exact ⟨2, M1, N1, y1, y2, y3, y4, nb_Wq (w_rd_manner_0 W hSo h764 (nb_Wp e1 ⟨x1, rfl, W, h764, fun _ => nb_Wp e2 ⟨x2, rfl, W, h764, fun _ => nb_Wp e3 ⟨x3, rfl, W, h764, fun z => absurd z c3, fun _ => nb_Wp st ⟨rfl, W, h764, fun _ => ⟨rfl, rfl⟩⟩⟩, fun z => absurd c2 z⟩, fun z => absurd c1 z⟩)), ⟨g1, g2, g3, g4⟩, ⟨s3, Or.inr s4⟩, s5, s6, Or.inr ⟨l, s7, ⟨b1 l, b2 l, b3 l, b4 l⟩, s2⟩⟩
  by_cases c4 : x4 = 0
  case neg =>
    by_cases l : M.1 76 9 = 0
    · obtain ⟨M1, N1, s1, s2, s3, s4, s5, s6, s7⟩ := rl_pass h (fun z => by have := (a4 z).2 c4; omega)
      have q1 := (a1 l).1
      have q2 := (a2 l).1
      have q3 := (a3 l).1
      have q4 := (a4 l).1
      exact ⟨3, M1, N1, y1, y2, y3, y4, nb_Wq (w_rd_manner_0 W hSo h764 (nb_Wp e1 ⟨x1, rfl, W, h764, fun _ => nb_Wp e2 ⟨x2, rfl, W, h764, fun _ => nb_Wp e3 ⟨x3, rfl, W, h764, fun _ => nb_Wp e4 ⟨x4, rfl, W, h764, fun z => absurd z c4, fun _ => nb_Wp s1 ⟨rfl, s5.1, s5.2.2.2.trans h764, fun _ => ⟨rfl, rfl⟩⟩⟩, fun z => absurd c3 z⟩, fun z => absurd c2 z⟩, fun z => absurd c1 z⟩)), ⟨g1, g2, g3, g4⟩, s4, s5, s6, Or.inl ⟨s7.2 l, l, (s2 l).1, (s2 l).2, Or.inr (Or.inr (Or.inr (⟨by omega, by omega, by omega, by omega, rfl⟩)))⟩⟩
    · obtain ⟨M1, N1, s1, s1b, s2, s3, s4, s5, s6, s7⟩ := rl_bad (f := 1) (by decide) h
      have st := dd_step W hSo h764 l
      have e := s1.symm.trans (dd_fail W hSo h764 l)
      simp only [Option.some.injEq, Prod.mk.injEq, true_and] at e
      subst e
      exact ⟨3, M1, N1, y1, y2, y3, y4, nb_Wq (w_rd_manner_0 W hSo h764 (nb_Wp e1 ⟨x1, rfl, W, h764, fun _ => nb_Wp e2 ⟨x2, rfl, W, h764, fun _ => nb_Wp e3 ⟨x3, rfl, W, h764, fun _ => nb_Wp e4 ⟨x4, rfl, W, h764, fun z => absurd z c4, fun _ => nb_Wp st ⟨rfl, W, h764, fun _ => ⟨rfl, rfl⟩⟩⟩, fun z => absurd c3 z⟩, fun z => absurd c2 z⟩, fun z => absurd c1 z⟩)), ⟨g1, g2, g3, g4⟩, ⟨s3, Or.inr s4⟩, s5, s6, Or.inr ⟨l, s7, ⟨b1 l, b2 l, b3 l, b4 l⟩, s2⟩⟩
  obtain ⟨M1, N1, s1, s1b, s2, s3, s4, s5, s6, s7⟩ := rl_bad (f := 1) (by decide) h
  have z1 : y1 = 0 := by
    by_cases l : M.1 76 9 = 0
    · have := (a1 l).1; omega
    · exact b1 l
  have z2 : y2 = 0 := by
    by_cases l : M.1 76 9 = 0
    · have := (a2 l).1; omega
    · exact b2 l
  have z3 : y3 = 0 := by
    by_cases l : M.1 76 9 = 0
    · have := (a3 l).1; omega
    · exact b3 l
  have z4 : y4 = 0 := by
    by_cases l : M.1 76 9 = 0
    · have := (a4 l).1; omega
    · exact b4 l
  exact ⟨-1, M1, N1, y1, y2, y3, y4, nb_Wq (w_rd_manner_0 W hSo h764 (nb_Wp e1 ⟨x1, rfl, W, h764, fun _ => nb_Wp e2 ⟨x2, rfl, W, h764, fun _ => nb_Wp e3 ⟨x3, rfl, W, h764, fun _ => nb_Wp e4 ⟨x4, rfl, W, h764, fun _ => nb_Wp s1 ⟨rfl, s5.1, s5.2.2.2.trans h764, nb_Wp s1b ⟨rfl, s5.1, s5.2.2.2.trans h764, fun _ => ⟨rfl, rfl⟩⟩⟩, fun z => absurd c4 z⟩, fun z => absurd c3 z⟩, fun z => absurd c2 z⟩, fun z => absurd c1 z⟩)), ⟨g1, g2, g3, g4⟩, ⟨s3, Or.inr s4⟩, s5, s6, Or.inr ⟨s4.1, s7, ⟨z1, z2, z3, z4⟩, s2⟩⟩
/-! how a line begins -/
theorem rl_beginNo {kr l2 : Int} (WN : nb_Lay N) (hy : nb_R nb_P 93 0 [(20, 603), (2, kr), (98, 0), (98, 0)] [] N = some ([(0, 0)], N)) : nb_R nb_P 106 0 [(20, 603), (2, kr), (0, l2)] [] N = some ([(0, 0)], N) := nb_Wq (w_m_begins_0 WN (nb_Wp hy ⟨0, rfl, WN, fun _ _ => ⟨rfl, rfl⟩, fun z => absurd rfl z⟩))
theorem rl_begins {kr told room l2 y : Int} (h : pu_RL So tx n cnt E M N j d s p) (hl : M.1 76 9 = 0) (hk : M.1 76 7 ≠ 0 ∧ M.1 76 7 ≠ 6) (hy : nb_R nb_P 93 0 [(20, 603), (2, kr), (98, 0), (98, 0)] [] N = some ([(0, y)], N)) (hy0 : y ≠ 0) (h2 : l2 ≠ 0 ↔ told < room) (h0 : N.1 607 0 ≠ 0) : ∃ M1 N1, nb_R nb_P 238 0 [(13, 76), (0, told), (0, room)] [] M = some ([], M1) ∧ nb_R nb_P 106 0 [(20, 603), (2, kr), (0, l2)] [] N = some ([(0, 1)], N1) ∧ pu_RL So tx n cnt E M1 N1 j d s p ∧ pu_cf M M1 ∧ pu_mf N N1 ∧ (M1.1 76 9 = 0 → told < room) := by
  have h' := h
  obtain ⟨⟨W, WN, hSo, h764, hT, hn, htx, h3, h5⟩, -⟩ := h'
  by_cases c : told < room
  · obtain ⟨M1, N1, s1, s2, s3, s4, s5, s6, s7⟩ := rl_pass h (fun _ => hk)
    obtain ⟨q1, q2⟩ := s2 hl
    exact ⟨M1, N1, nb_Wq (w_rd_beginLine_0 W hSo h764 ⟨fun _ => nb_Wp s1 ⟨rfl, s5.1, s5.2.2.2.trans h764, fun _ => ⟨rfl, rfl⟩⟩, fun z => absurd z (by omega)⟩), nb_Wq (w_m_begins_0 WN (nb_Wp hy ⟨y, rfl, WN, fun z => absurd z hy0, fun _ => ⟨fun z => absurd c (fun q => (h2.2 q) z), fun _ => ⟨fun z => absurd z h0, fun _ => ⟨fun _ => nb_Wp q2 ⟨rfl, s6.1, fun _ => ⟨rfl, rfl⟩⟩, fun z => absurd q1 z⟩⟩⟩⟩)), s4, s5, s6, fun _ => c⟩
  · obtain ⟨M1, N1, s1, s1b, s2, s3, s4, s5, s6, s7⟩ := rl_bad (f := 5) (by decide) h
    have e0 : N1.1 607 0 ≠ 0 := by rw [s6.2.2.2.2 0 (by decide)]; exact h0
    have l0 : l2 = 0 := by
      by_cases q : l2 = 0
      · exact q
      · exact absurd (h2.1 q) c
    exact ⟨M1, N1, nb_Wq (w_rd_beginLine_0 W hSo h764 ⟨fun z => absurd z c, fun _ => nb_Wp s1 ⟨rfl, s5.1, s5.2.2.2.trans h764, nb_Wp s1b ⟨rfl, s5.1, s5.2.2.2.trans h764, fun _ => ⟨rfl, rfl⟩⟩⟩⟩), nb_Wq (w_m_begins_0 WN (nb_Wp hy ⟨y, rfl, WN, fun z => absurd z hy0, fun _ => ⟨fun _ => nb_Wp s2 ⟨rfl, s6.1, fun z => absurd z e0, fun _ => ⟨fun z => absurd z s7, fun _ _ => ⟨rfl, rfl⟩⟩⟩, fun z => absurd l0 z⟩⟩)), ⟨s3, Or.inr s4⟩, s5, s6, fun z => absurd z s4.1⟩
theorem rl_beginS {kr y : Int} (h : pu_RL So tx n cnt E M N j d s p) (hl : M.1 76 9 = 0) (hk : M.1 76 7 ≠ 0 ∧ M.1 76 7 ≠ 6) (hy : nb_R nb_P 93 0 [(20, 603), (2, kr), (98, 0), (98, 0)] [] N = some ([(0, y)], N)) (hy0 : y ≠ 0) (h0 : N.1 607 0 ≠ 0) : ∃ M1 N1, nb_R nb_P 225 0 [(13, 76)] [] M = some ([], M1) ∧ nb_R nb_P 106 0 [(20, 603), (2, kr), (0, 1)] [] N = some ([(0, 1)], N1) ∧ pu_RL So tx n cnt E M1 N1 j d s p ∧ pu_cf M M1 ∧ pu_mf N N1 := by
  have h' := h
  obtain ⟨⟨W, WN, hSo, h764, hT, hn, htx, h3, h5⟩, -⟩ := h'
  obtain ⟨M1, N1, s1, s2, s3, s4, s5, s6, s7⟩ := rl_pass h (fun _ => hk)
  obtain ⟨q1, q2⟩ := s2 hl
  exact ⟨M1, N1, s1, nb_Wq (w_m_begins_0 WN (nb_Wp hy ⟨y, rfl, WN, fun z => absurd z hy0, fun _ => ⟨fun z => absurd z (by decide), fun _ => ⟨fun z => absurd z h0, fun _ => ⟨fun _ => nb_Wp q2 ⟨rfl, s6.1, fun _ => ⟨rfl, rfl⟩⟩, fun z => absurd q1 z⟩⟩⟩⟩)), s4, s5, s6⟩
/-- a line ahead of the house's -/
theorem rl_lacks {kr y : Int} (h : pu_RL So tx n cnt E M N j d s p) (hy : nb_R nb_P 93 0 [(20, 603), (2, kr), (98, 0), (98, 0)] [] N = some ([(0, y)], N)) (hy0 : y ≠ 0) (h0 : N.1 607 0 = 0) : ∃ M1 N1, nb_R nb_P 226 0 [(13, 76), (0, 6)] [] M = some ([], M1) ∧ nb_R nb_P 106 0 [(20, 603), (2, kr), (0, 1)] [] N = some ([(0, 1)], N1) ∧ pu_Ba So tx n cnt E M1 N1 ∧ pu_Dd M1 N1 ∧ pu_cf M M1 ∧ pu_mf N N1 ∧ N1.1 603 13 ≠ 0 := by
  have h' := h
  obtain ⟨⟨W, WN, hSo, h764, hT, hn, htx, h3, h5⟩, -⟩ := h'
  obtain ⟨M1, N1, s1, s1b, s2, s3, s4, s5, s6, s7⟩ := rl_bad (f := 6) (by decide) h
  exact ⟨M1, N1, s1, nb_Wq (w_m_begins_0 WN (nb_Wp hy ⟨y, rfl, WN, fun z => absurd z hy0, fun _ => ⟨fun z => absurd z (by decide), fun _ => ⟨fun _ => nb_Wp s2 ⟨rfl, s6.1, fun z => absurd z s7, fun _ _ => ⟨rfl, rfl⟩⟩, fun z => absurd h0 z⟩⟩⟩)), s3, s4, s5, s6, s7⟩
