/-! LINES: a person, put together -/
def pu_ch4 (N : nb_M) (q : Int) (Q : List nb_V → nb_M → Prop) : Prop := nb_W 93 0 [(20, 603), (2, 22), (98, 0), (98, 0)] [] N (fun r K1 => ∃ x0 : Int, r = [(0, x0)] ∧ nb_Lay K1 ∧ (x0 = 0 → nb_W 93 0 [(20, 603), (2, 23), (98, 0), (98, 0)] [] K1 (fun r K2 => ∃ x1 : Int, r = [(0, x1)] ∧ nb_Lay K2 ∧ (x1 = 0 → nb_W 93 0 [(20, 603), (2, 24), (98, 0), (98, 0)] [] K2 (fun r K3 => ∃ x2 : Int, r = [(0, x2)] ∧ nb_Lay K3 ∧ (x2 = 0 → nb_W 93 0 [(20, 603), (2, 16), (98, 0), (98, 0)] [] K3 (fun r K4 => ∃ x3 : Int, r = [(0, x3)] ∧ nb_Lay K4 ∧ (x3 = 0 → nb_W 111 16 [(20, 603), (0, q), (0, 41 + 7 * q), (98, 0), (98, 0), (98, 0), (98, 0)] [(0, (-1))] K4 Q) ∧ (x3 ≠ 0 → nb_W 111 16 [(20, 603), (0, q), (0, 41 + 7 * q), (98, 0), (98, 0), (98, 0), (98, 0)] [(0, 3)] K4 Q))) ∧ (x2 ≠ 0 → nb_W 111 16 [(20, 603), (0, q), (0, 41 + 7 * q), (98, 0), (98, 0), (98, 0), (98, 0)] [(0, 2)] K3 Q))) ∧ (x1 ≠ 0 → nb_W 111 16 [(20, 603), (0, q), (0, 41 + 7 * q), (98, 0), (98, 0), (98, 0), (98, 0)] [(0, 1)] K2 Q))) ∧ (x0 ≠ 0 → nb_W 111 16 [(20, 603), (0, q), (0, 41 + 7 * q), (98, 0), (98, 0), (98, 0), (98, 0)] [(0, 0)] K1 Q))
def pu_cmn (So : Int) (M : nb_M) (Q : List nb_V → nb_M → Prop) : Prop := nb_W 246 0 [(13, 76), (98, 0)] [] M (fun r M14 => ∃ x13 : Int, r = [(0, x13)] ∧ nb_Lay M14 ∧ M14.1 76 4 = So ∧ (x13 = 1 → nb_W 244 0 [(13, 76), (0, 1), (0, 99), (98, 0)] [] M14 (fun r M18 => ∃ x17 : Int, r = [(0, x17)] ∧ nb_Lay M18 ∧ M18.1 76 4 = So ∧ nb_W 233 7 [(13, 76), (0, x13), (0, x17), (98, 0), (98, 0), (98, 0), (98, 0), (98, 0)] [] M18 Q)) ∧ (x13 ≠ 1 → (x13 = 2 → nb_W 244 0 [(13, 76), (0, 1), (0, 99), (98, 0)] [] M14 (fun r M22 => ∃ x21 : Int, r = [(0, x21)] ∧ nb_Lay M22 ∧ M22.1 76 4 = So ∧ nb_W 233 7 [(13, 76), (0, x13), (0, x21), (98, 0), (98, 0), (98, 0), (98, 0), (98, 0)] [] M22 Q)) ∧ (x13 ≠ 2 → nb_W 233 7 [(13, 76), (0, x13), (0, 0), (98, 0), (98, 0), (98, 0), (98, 0), (98, 0)] [] M14 Q)))
variable {So n d s p q : Int} {tx : Int → Int} {cnt j : Nat} {E : Nat → Int} {M N : nb_M}
theorem pu_ch4a {y1 y2 y3 y4 X : Int} (h : ((y1 ≠ 0 ∧ X = 0) ∨ (y1 = 0 ∧ y2 ≠ 0 ∧ X = 1) ∨ (y1 = 0 ∧ y2 = 0 ∧ y3 ≠ 0 ∧ X = 2) ∨ (y1 = 0 ∧ y2 = 0 ∧ y3 = 0 ∧ y4 ≠ 0 ∧ X = 3)) ∨ ((y1 = 0 ∧ y2 = 0 ∧ y3 = 0 ∧ y4 = 0) ∧ X = -1)) : (y1 ≠ 0 → X = 0) ∧ (y1 = 0 → y2 ≠ 0 → X = 1) ∧ (y1 = 0 → y2 = 0 → y3 ≠ 0 → X = 2) ∧ (y1 = 0 → y2 = 0 → y3 = 0 → y4 ≠ 0 → X = 3) ∧ (y1 = 0 → y2 = 0 → y3 = 0 → y4 = 0 → X = -1) := by
  refine ⟨fun a => ?_, fun a b => ?_, fun a b c => ?_, fun a b c d => ?_, fun a b c d => ?_⟩ <;> omega
theorem pu_ch4x {y1 y2 y3 y4 X : Int} (h : (y1 ≠ 0 ∧ X = 0) ∨ (y1 = 0 ∧ y2 ≠ 0 ∧ X = 1) ∨ (y1 = 0 ∧ y2 = 0 ∧ y3 ≠ 0 ∧ X = 2) ∨ (y1 = 0 ∧ y2 = 0 ∧ y3 = 0 ∧ y4 ≠ 0 ∧ X = 3)) : 0 ≤ X ∧ X ≤ 3 := by omega
theorem sp_ch4 {y1 y2 y3 y4 X : Int} {Q : List nb_V → nb_M → Prop} (WN : nb_Lay N) (i : nb_R nb_P 93 0 [(20, 603), (2, 22), (98, 0), (98, 0)] [] N = some ([(0, y1)], N) ∧ nb_R nb_P 93 0 [(20, 603), (2, 23), (98, 0), (98, 0)] [] N = some ([(0, y2)], N) ∧ nb_R nb_P 93 0 [(20, 603), (2, 24), (98, 0), (98, 0)] [] N = some ([(0, y3)], N) ∧ nb_R nb_P 93 0 [(20, 603), (2, 16), (98, 0), (98, 0)] [] N = some ([(0, y4)], N)) (hX : ((y1 ≠ 0 ∧ X = 0) ∨ (y1 = 0 ∧ y2 ≠ 0 ∧ X = 1) ∨ (y1 = 0 ∧ y2 = 0 ∧ y3 ≠ 0 ∧ X = 2) ∨ (y1 = 0 ∧ y2 = 0 ∧ y3 = 0 ∧ y4 ≠ 0 ∧ X = 3)) ∨ ((y1 = 0 ∧ y2 = 0 ∧ y3 = 0 ∧ y4 = 0) ∧ X = -1)) (K : nb_W 111 16 [(20, 603), (0, q), (0, 41 + 7 * q), (98, 0), (98, 0), (98, 0), (98, 0)] [(0, X)] N Q) : pu_ch4 N q Q := by
  obtain ⟨i1, i2, i3, i4⟩ := i
  obtain ⟨x1, x2, x3, x4, x5⟩ := pu_ch4a hX
  have KK : ∀ t : Int, X = t → nb_W 111 16 [(20, 603), (0, q), (0, 41 + 7 * q), (98, 0), (98, 0), (98, 0), (98, 0)] [(0, t)] N Q := fun t e => by
    subst e
    exact K
  exact nb_Wp i1 ⟨y1, rfl, WN, fun z1 => nb_Wp i2 ⟨y2, rfl, WN, fun z2 => nb_Wp i3 ⟨y3, rfl, WN, fun z3 => nb_Wp i4 ⟨y4, rfl, WN, fun z4 => KK (-1) (x5 z1 z2 z3 z4), fun z4 => KK 3 (x4 z1 z2 z3 z4)⟩, fun z3 => KK 2 (x3 z1 z2 z3)⟩, fun z2 => KK 1 (x2 z1 z2)⟩, fun z1 => KK 0 (x1 z1)⟩
/-- manner, and by how much -/
theorem rl_pby (h : pu_RL So tx n cnt E M N j d s p) (hq : 0 ≤ q ∧ q < 10) : ∃ (x b b' : Int) (M1 N1 : nb_M), (∀ Q : List nb_V → nb_M → Prop, nb_W 233 7 [(13, 76), (0, x), (0, b), (98, 0), (98, 0), (98, 0), (98, 0), (98, 0)] [] M1 Q → pu_cmn So M Q) ∧ pu_cf M M1 ∧ pu_RL So tx n cnt E M1 N1 j d s p ∧ pu_ml N N1 ∧ (∀ i, i < 185 → i ≠ 41 + 7 * q → i ≠ 41 + 7 * q + 1 → N1.1 607 i = N.1 607 i) ∧ (((∀ Q : List nb_V → nb_M → Prop, (∀ w3 : nb_V, nb_W 111 28 [(20, 603), (0, q), (0, 41 + 7 * q), w3, (98, 0), (98, 0), (98, 0)] [] N1 Q) → pu_ch4 N q Q) ∧ (N1.1 607 (41 + 7 * q) = x ∧ N1.1 607 (41 + 7 * q + 1) = b') ∧ (0 ≤ x ∧ x ≤ 3) ∧ M.1 76 9 = 0 ∧ (M1.1 76 9 = 0 → b = b' ∧ 0 ≤ b ∧ b ≤ 99)) ∨ (M1.1 76 9 ≠ 0 ∧ pu_ch4 N q (fun r M' => r = [] ∧ M' = N1))) := by
  have h' := h
  obtain ⟨⟨W, WN, hSo, h764, -⟩, -⟩ := h'
  obtain ⟨x, M2, N2, y1, y2, y3, y4, a1, i, a3, a4, a5, a6⟩ := rl_manner h
  have q42 := a3.1.2.2.2.1
  have bl : (0 ≤ q ∧ q ≤ 9) ∧ 41 ≤ 41 + 7 * q ∧ 41 + 7 * q ≤ 104 := by omega
  rcases a6 with ⟨l2, l0, f0, q2, hx⟩ | ⟨l2, f2, hz, w2⟩
  · have xr := pu_ch4x hx
    have chainx := fun (Q : List nb_V → nb_M → Prop) K => sp_ch4 (q := q) (Q := Q) WN i (Or.inl hx) K
    clear hx
    have w3 := a3.wg (i := 41 + 7 * q) (v := x) (by omega)
    by_cases c : x = 1 ∨ x = 2
    · obtain ⟨u, v, M3, N3, b1, b2, b3, b4, b5, b6⟩ := rl_whole (lo := 1) (hi := 99) (lo2 := 1) (hi2 := 99) w3 (fun _ => ⟨rfl, rfl⟩)
      refine ⟨x, u, v, M3, nb_wr N3 607 (41 + 7 * q + 1) v, fun Q K => nb_Wp a1 ⟨x, rfl, a4.1, q42, fun _ => nb_Wp b1 ⟨u, rfl, b4.1, b3.1.2.2.2.1, K⟩, fun z => ⟨fun _ => nb_Wp b1 ⟨u, rfl, b4.1, b3.1.2.2.2.1, K⟩, fun z2 => absurd c (by omega)⟩⟩, a4.tr b4, b3.wg (by omega), ((a5.ml.wr).tr b5.ml).wr, fun k p0 p1 p2 => ?_, Or.inl ⟨fun Q K => chainx Q (w_m_personLine_16 WN bl.1 bl.2 ⟨fun z => absurd z (by omega), fun _ => ⟨fun _ => nb_Wp q2 ⟨rfl, a5.1, fun _ => nb_Wp b2 ⟨v, rfl, b5.1, K _⟩, fun _ => ⟨fun _ => nb_Wp b2 ⟨v, rfl, b5.1, K _⟩, fun z2 => absurd c (by omega)⟩⟩, fun z => absurd f0 z⟩⟩), ⟨?_, ?_⟩, xr, l0, fun z => ?_⟩⟩
      · rw [nb_wr_1, if_neg (by omega), pu_wr_o b5 p0 p1, a5.2.2.2.2 k p0]
      · rw [nb_wr_1, if_neg (by omega), pu_wr_s b5 (by omega)]
      · rw [nb_wr_1, if_pos ⟨rfl, rfl⟩]
      · obtain ⟨e, y, y'⟩ := b6 z
        exact ⟨e, by omega, y'⟩
    · have c1 : x ≠ 1 := fun z => c (Or.inl z)
      have c2 : x ≠ 2 := fun z => c (Or.inr z)
      refine ⟨x, 0, 0, M2, nb_wr (nb_wr N2 607 (41 + 7 * q) x) 607 (41 + 7 * q + 1) 0, fun Q K => nb_Wp a1 ⟨x, rfl, a4.1, q42, fun z => absurd z c1, fun _ => ⟨fun z => absurd z c2, fun _ => K⟩⟩, a4, w3.wg (by omega), a5.ml.wr.wr, fun k p0 p1 p2 => ?_, Or.inl ⟨fun Q K => chainx Q (w_m_personLine_16 WN bl.1 bl.2 ⟨fun z => absurd z (by omega), fun _ => ⟨fun _ => nb_Wp q2 ⟨rfl, a5.1, fun z => absurd z c1, fun _ => ⟨fun z => absurd z c2, fun _ => K _⟩⟩, fun z => absurd f0 z⟩⟩), ⟨?_, ?_⟩, xr, l0, fun _ => ⟨rfl, by decide, by decide⟩⟩⟩
      · rw [nb_wr_1, if_neg (by omega), nb_wr_1, if_neg (by omega), a5.2.2.2.2 k p0]
      · rw [nb_wr_1, if_neg (by omega), nb_wr_1, if_pos ⟨rfl, rfl⟩]
      · rw [nb_wr_1, if_pos ⟨rfl, rfl⟩]
  · have dw := dd_whole (lo := 1) (hi := 99) (v3 := (98, 0)) a4.1 hSo q42 l2
    obtain ⟨b, hb⟩ : ∃ b : Int, ((x = 1 ∨ x = 2) → b = nb_l2i (M2.1 76 8)) ∧ (¬ (x = 1 ∨ x = 2) → b = 0) := by
      by_cases c : x = 1 ∨ x = 2
      · exact ⟨_, fun _ => rfl, fun z => absurd c z⟩
      · exact ⟨0, fun z => absurd z c, fun _ => rfl⟩
    refine ⟨x, b, 0, M2, N2, fun Q K => nb_Wp a1 ⟨x, rfl, a4.1, q42, fun z => nb_Wp dw ⟨_, rfl, a4.1, q42, ?_⟩, fun z => ⟨fun z2 => nb_Wp dw ⟨_, rfl, a4.1, q42, ?_⟩, fun z2 => ?_⟩⟩, a4, a3, a5.ml, fun k p0 p1 p2 => a5.2.2.2.2 k p0, Or.inr ⟨l2, sp_ch4 WN i (Or.inr ⟨hz, rfl⟩) (w_m_personLine_16 WN bl.1 bl.2 ⟨fun _ => nb_Wp w2 ⟨rfl, a5.1, fun z => absurd z f2, fun _ _ => ⟨rfl, rfl⟩⟩, fun z => absurd z (by decide)⟩)⟩⟩
    · rw [← hb.1 (Or.inl z)]; exact K
    · rw [← hb.1 (Or.inr z2)]; exact K
    · have e := hb.2 (fun y => y.elim z z2)
      subst e
      exact K
theorem rl_person {l2 y0 : Int} (h : pu_RL So tx n cnt E M N j (N.1 607 3) (N.1 607 4) (N.1 607 5)) (hl : M.1 76 9 = 0) (hk : M.1 76 7 ≠ 0 ∧ M.1 76 7 ≠ 6) (hy : nb_R nb_P 93 0 [(20, 603), (2, 4), (98, 0), (98, 0)] [] N = some ([(0, y0)], N)) (hy0 : y0 ≠ 0) (h0 : N.1 607 0 ≠ 0) (h2 : l2 ≠ 0 ↔ N.1 607 5 < 10) (hH : pu_HR M So (N.1 607)) (gk : ∀ a, So + 20 ≤ a → a < So + 30 → pu_gk (M.1 a)) : ∃ M1 N0 N1, nb_R nb_P 233 0 [(13, 76), (98, 0), (98, 0), (98, 0), (98, 0), (98, 0), (98, 0), (98, 0)] [] M = some ([], M1) ∧ nb_R nb_P 106 0 [(20, 603), (2, 4), (0, l2)] [] N = some ([(0, 1)], N0) ∧ nb_Lay N0 ∧ nb_R nb_P 111 0 [(20, 603), (98, 0), (98, 0), (98, 0), (98, 0), (98, 0), (98, 0)] [] N0 = some ([], N1) ∧ pu_LO So tx n cnt E M N M1 N1 j := by
  have h' := h
  obtain ⟨⟨W, WN, hSo, h764, -⟩, -⟩ := h'
  have H1 := hH.2.1
  have e0 : N.1 607 0 = 1 := by rcases hH.1 with q | q <;> omega
  have hlb : M.1 So 9 = N.1 607 1 ∧ (1 ≤ N.1 607 1 ∧ N.1 607 1 ≤ 20) ∧ M.1 So 10 = N.1 607 2 ∧ (1 ≤ N.1 607 2 ∧ N.1 607 2 ≤ 600) := by rcases hH.1 with q | q <;> omega
  have c13 := H1.2.2.1
  have r5 := H1.2.2.2.2.2.2.2.1
  obtain ⟨M1, N1, s1, s2, s3, s4, s5, s6⟩ := rl_begins (told := M.1 So 13) (room := 10) h hl hk hy hy0 (by rw [c13]; exact h2) h0
  clear h2 h0 hy0 hk
  have SM : ∀ a, So ≤ a → a < So + 36 → M1.1 a = M.1 a := fun a p0 p1 => s4.so hSo p0 p1
  have q4 := s3.1.2.2.2.1
  have e5 : N1.1 607 5 = N.1 607 5 := s5.2.2.2.2 5 (by decide)
  have e13 : M1.1 So 13 = N.1 607 5 := by rw [SM So (Int.le_refl So) (by omega)]; exact c13
  by_cases l1 : M1.1 76 9 = 0
  case neg =>
    have f1 : N1.1 603 13 ≠ 0 := fun z => l1 (s3.ff.2 z)
    have h5 : 0 ≤ M1.1 76 5 ∧ M1.1 76 5 ≤ 18 := s3.1.2.2.2.2.2.2.2.2
    have dt := dd_tellName (so := 2) (nu := M1.1 So 13) s4.1 hSo q4 h5 l1
    obtain ⟨xr, dr⟩ := dd_manner s4.1 hSo q4 l1
    have dw := dd_whole (lo := 1) (hi := 99) (v3 := (98, 0)) s4.1 hSo q4 l1
    have d7 : ∀ x b : Int, nb_W 233 7 [(13, 76), (0, x), (0, b), (98, 0), (98, 0), (98, 0), (98, 0), (98, 0)] [] M1 (fun r M' => r = [] ∧ M' = M1) := fun x b => dd_p7 s4.1 hSo q4 l1
    exact ⟨M1, N1, N1, nb_Wq (w_rd_readPerson_0 W hSo h764 ⟨by omega, by omega, nb_Wp s1 ⟨rfl, s4.1, q4, nb_Wp dt ⟨rfl, s4.1, q4, nb_Wp dr ⟨_, rfl, s4.1, q4, fun _ => nb_Wp dw ⟨_, rfl, s4.1, q4, d7 _ _⟩, fun _ => ⟨fun _ => nb_Wp dw ⟨_, rfl, s4.1, q4, d7 _ _⟩, fun _ => d7 _ _⟩⟩⟩⟩⟩), s2, s5.1, nb_Wq (w_m_personLine_0 s5.1 ⟨fun z => absurd z f1, fun _ _ => ⟨rfl, rfl⟩⟩), ⟨s3.1, Or.inr (s3.dd l1)⟩, s4.cl hSo, s5.ml, fun z => absurd z l1⟩
  have lt10 : N.1 607 5 < 10 := by have := s6 l1; omega
  replace s6 := nb_Hw s6
  have f1 : N1.1 603 13 = 0 := s3.ff.1 l1
  obtain ⟨q, hqq⟩ : ∃ q, q = N.1 607 5 := ⟨_, rfl⟩
  have hq : 0 ≤ q ∧ q < 10 := by omega
  rw [← hqq] at e5 e13 c13 r5 lt10
  obtain ⟨M2, N2, t1, t2, t3, t4, t5, t6⟩ := rl_tellName (so := 2) (nu := M1.1 So 13) (m := 8 + N1.1 607 5) (d' := N.1 607 3) (s' := N.1 607 4) (p' := q + 1) s3 (fun _ => ⟨by rw [pu_sl_2]; omega, Or.inr (Or.inr ⟨rfl, by omega, by omega, rfl, rfl, by omega⟩)⟩)
  replace t6 := nb_Hw t6
  have q42 := t3.1.2.2.2.1
  obtain ⟨x, b, b', M3, N3, a1, a4, a3, a5, a7, a6⟩ := rl_pby (q := q) t3 hq
  have cf3 : pu_cf M M3 := (s4.tr t4).tr a4
  have ml3 : pu_ml N N3 := (s5.tr t5).ml.tr a5
  have nr5 : 0 ≤ N1.1 607 5 ∧ N1.1 607 5 ≤ 10 := by omega
  -- both sides up to here
  have refS : ∀ Nf : nb_M, pu_ch4 N2 q (fun r M' => r = [] ∧ M' = Nf) → nb_R nb_P 111 0 [(20, 603), (98, 0), (98, 0), (98, 0), (98, 0), (98, 0), (98, 0)] [] N1 = some ([], Nf) := fun Nf K => by
    refine nb_Wq (w_m_personLine_0 s5.1 ⟨fun _ => ⟨nr5.1, nr5.2, nb_Wp t2 ⟨rfl, t5.1, ?_⟩⟩, fun z => absurd f1 z⟩)
    rw [e5]
    exact K
  have clsS : ∀ Mf : nb_M, nb_W 233 7 [(13, 76), (0, x), (0, b), (98, 0), (98, 0), (98, 0), (98, 0), (98, 0)] [] M3 (fun r M' => r = [] ∧ M' = Mf) → nb_R nb_P 233 0 [(13, 76), (98, 0), (98, 0), (98, 0), (98, 0), (98, 0), (98, 0), (98, 0)] [] M = some ([], Mf) := fun Mf K => by
    refine nb_Wq (w_rd_readPerson_0 W hSo h764 ?_)
    rw [c13]
    refine ⟨by omega, by omega, ?_⟩
    rw [← c13]
    exact nb_Wp s1 ⟨rfl, s4.1, q4, nb_Wp t1 ⟨rfl, t4.1, q42, a1 _ K⟩⟩
  rcases a6 with ⟨K28, ⟨n0, n1⟩, xr, -, lv0⟩ | ⟨l3, K⟩
  case inr =>
    exact ⟨M3, N1, N3, clsS M3 (dd_p7 a4.1 hSo a3.1.2.2.2.1 l3), s2, s5.1, refS N3 K, ⟨a3.1, Or.inr (a3.dd l3)⟩, cf3.cl hSo, ml3, fun z => absurd z l3⟩
  replace lv0 := nb_Hw lv0
  have SM3 : ∀ a, So ≤ a → a < So + 36 → M3.1 a = M.1 a := fun a p0 p1 => cf3.so hSo p0 p1
  have g3 : ∀ i, i < 185 → i ≠ 41 + 7 * q → i ≠ 41 + 7 * q + 1 → N3.1 607 i = N.1 607 i := fun i p1 p2 p3 => by rw [a7 i p1 p2 p3, t5.2.2.2.2 i p1, s5.2.2.2.2 i p1]
  have m9 : M3.1 So 9 = N.1 607 1 := by rw [SM3 So (Int.le_refl So) (by omega)]; exact hlb.1
  have m10 : M3.1 So 10 = N.1 607 2 := by rw [SM3 So (Int.le_refl So) (by omega)]; exact hlb.2.2.1
  obtain ⟨u1, u2, u3, u4, v1, v2, v3, v4, M4, M5, M6, M7, M8, N8, ⟨b1, c1, k1, g1, o1⟩, ⟨b4, c4, k4, g4, o4⟩, KR, o3, ml, ro, ⟨z2, z3, z4, z5, z6⟩, gz, lv⟩ := rl_pe5 (q := q) (B := N.1 607 2) (L := N.1 607 1 - 1) a3 hq ⟨m10, g3 2 (by decide) (by omega) (by omega)⟩ (fun M' e => by rw [e, m9, nb_sub_eq (by omega) (by omega)]) (fun N' e => by rw [e, g3 1 (by decide) (by omega) (by omega), nb_sub_eq (by omega) (by omega)])
  replace lv := nb_Hw lv
  have q764 : ∀ M' : nb_M, pu_cf M3 M' → M'.1 76 4 = So := fun M' c => c.2.2.2.trans a3.1.2.2.2.1
  have cf8 : pu_cf M M8 := cf3.tr o4
  have SM8 : ∀ a, So ≤ a → a < So + 36 → M8.1 a = M.1 a := fun a p0 p1 => cf8.so hSo p0 p1
  have ml8 : pu_ml N N8 := ml3.tr ml
  have e813 : M8.1 So 13 = q := by rw [SM8 So (Int.le_refl So) (by omega)]; exact c13
  by_cases l8 : M8.1 76 9 = 0
  case neg =>
    have f8 : N8.1 603 13 ≠ 0 := fun z => l8 (o3.ff.2 z)
    refine ⟨M8, N1, N8, clsS M8 (w_rd_readPerson_7 a4.1 hSo a3.1.2.2.2.1 (nb_Wp b1 ⟨u1, rfl, b4.1, q764 M4 b4, nb_Wp c1 ⟨u2, rfl, c4.1, q764 M5 c4, nb_Wp k1 ⟨u3, rfl, k4.1, q764 M6 k4, nb_Wp g1 ⟨u4, rfl, g4.1, q764 M7 g4, nb_Wp o1 ⟨rfl, o4.1, q764 M8 o4, fun z => absurd z l8, fun _ _ => ⟨rfl, rfl⟩⟩⟩⟩⟩⟩)), s2, s5.1, refS N8 (K28 _ (fun w3 => KR _ _ _ _ _ (fun w3' => ⟨fun z => absurd z f8, fun _ => w_m_personLine_46 o3.1.2.1 (by omega) ⟨fun _ => ⟨fun z => absurd z f8, fun _ _ => ⟨rfl, rfl⟩⟩, fun z => absurd rfl z⟩⟩))), ⟨o3.1, Or.inr (o3.dd l8)⟩, cf8.cl hSo, ml8, fun z => absurd z l8⟩
  obtain ⟨l3, ⟨e1', y1, y2⟩, ⟨e2', y3, y4⟩, ⟨e3', y5, y6⟩, e4', y7, y8⟩ := nb_Hu lv l8
  obtain ⟨eb, yb1, yb2⟩ := nb_Hu lv0 l3
  have f8 : N8.1 603 13 = 0 := o3.ff.1 l8
  -- the class writes
  obtain ⟨MB, w1, ⟨WB, qB, B2⟩, B1, ⟨p0, p1, p2, p3, p4, p5, p6, p7⟩, B8⟩ := rl_peB (M5 := M8) (t := q) (x := x) (b := b) (u1 := u1) (u2 := u2) (u3 := u3) (u4 := u4) o4.1 hSo hq (q764 M8 o4) (by omega)
  have hSu := hSo
  unfold nb_hs at hSu
  have h76 : ∀ a, 76 ≤ a → MB.1 a = M8.1 a := fun a p => B1 a (by omega)
  have oB := o3.mh WB o3.1.2.1 h76 rfl rfl rfl (fun _ _ => rfl)
  have lB : MB.1 76 9 = 0 := by rw [h76 76 (by decide)]; exact l8
  have eB13 : MB.1 So 13 = q := by rw [B1 So (by omega)]; exact e813
  have hGq := hH.2.2.2.2.1 q (by omega) (by omega)
  -- no orders yet, by both
  have gr0 : pu_gr MB N8 So q (N.1 607 3) := fun i i0 i1 => by
    have z := hGq.2.2.2.1 i i0 i1
    rw [gz i i0 i1, B1 _ (by omega), SM8 _ (by omega) (by omega), z.1, z.2.2 (Or.inl (by omega))]
    exact ⟨rfl, by decide, fun _ => rfl⟩
  obtain ⟨M9, N9, r1, r2, r3, r4, r6, r7, r8⟩ := rl_order (q := q) (room := 1) (many := 0) oB hq (by omega) lB gr0
  have n95 : N9.1 607 5 = q := by rw [r4.2.2.2.2 5 (by decide) (by omega), ro 5 (by decide) (by omega) (by omega), g3 5 (by decide) (by omega) (by omega)]; exact hqq.symm
  obtain ⟨MX, NX, x1, x2, x3, x4, x5, x6, x7⟩ := rl_orders (q := q) hq 3 1 M9 N9 rfl (by decide) r2 (fun z => ⟨by decide, n95, (r6 z).2⟩)
  replace r6 := nb_Hw r6
  replace r7 := nb_Hw r7
  replace r8 := nb_Hw r8
  replace x5 := nb_Hw x5
  replace x6 := nb_Hw x6
  replace x7 := nb_Hw x7
  have cq := r3.tr x3
  have mq := r4.tr x4
  have qX := x2.1.2.2.2.1
  have eX13 : MX.1 So 13 = q := by rw [cq.2.2.1 So (by omega) (by omega) (by omega) (by omega) (by omega)]; exact eB13
  have ad : nb_add (MX.1 So 13) 1 = q + 1 := by rw [eX13, nb_add_eq (by omega) (by omega)]
  have WX : nb_Lay (nb_wr MX So 13 (q + 1)) := x3.1.wr (fun w => nb_nhh hSo (by omega))
  have cX : ∀ a, So ≤ a → a < So + 36 → a ≠ So → a ≠ So + 20 + q → a ≠ So + 5 + q → (nb_wr MX So 13 (q + 1)).1 a = M.1 a := fun a i0 i1 i2 i3 i4 => by
    rw [nb_wr_b i2, cq.2.2.1 a (by omega) (by omega) (by omega) (by omega) i4, B1 a i3, SM8 a i0 i1]
  have cG : (nb_wr MX So 13 (q + 1)).1 (So + 20 + q) = MB.1 (So + 20 + q) := by rw [nb_wr_b (by omega), cq.2.2.1 _ (by omega) (by omega) (by omega) (by omega) (by omega)]
  have clX : pu_cl So M (nb_wr MX So 13 (q + 1)) := by
    have cl8 := cf8.cl hSo
    refine ⟨WX, (cq.2.1.trans B2).trans cl8.2.1, fun a i0 i1 i2 i3 i4 => ?_, ?_, fun a i i0 i1 i2 => ?_⟩
    · rw [nb_wr_b (by omega), cq.2.2.1 a i0 i1 i2 i3 (by omega), B1 a (by omega)]; exact cl8.2.2.1 a i0 i1 i2 i3 i4
    · rw [nb_wr_b (by omega), qX]; exact h764.symm
    · by_cases c : a = So + 20 + q
      · subst c
        rw [cG, B8 i i2]; exact cl8.2.2.2.2 _ i i0 i1 i2
      · rw [cX a (by omega) (by omega) (by omega) c (by omega)]
  have mlX : pu_ml N NX := ⟨mq.1, mq.2.1.trans ml8.2.1, fun a i0 i1 i2 => (mq.2.2.1 a i0 i1 i2).trans (ml8.2.2.1 a i0 i1 i2), fun i hi => (mq.2.2.2.1 i hi).trans (ml8.2.2.2 i hi)⟩
  have clsE : nb_R nb_P 233 0 [(13, 76), (98, 0), (98, 0), (98, 0), (98, 0), (98, 0), (98, 0), (98, 0)] [] M = some ([], nb_wr MX So 13 (q + 1)) := by
    refine clsS _ (w_rd_readPerson_7 a4.1 hSo a3.1.2.2.2.1 (nb_Wp b1 ⟨u1, rfl, b4.1, q764 M4 b4, nb_Wp c1 ⟨u2, rfl, c4.1, q764 M5 c4, nb_Wp k1 ⟨u3, rfl, k4.1, q764 M6 k4, nb_Wp g1 ⟨u4, rfl, g4.1, q764 M7 g4, nb_Wp o1 ⟨rfl, o4.1, q764 M8 o4, fun _ => ⟨fun _ => ?_, fun z => absurd z (by omega)⟩, fun z => absurd l8 z⟩⟩⟩⟩⟩))
    rw [e813]
    refine ⟨hq.1, nb_Wp w1 ⟨rfl, WB, qB, ?_⟩⟩
    rw [eB13]
    refine ⟨hq.1, hq.2, w_rd_readOrders_0 WB hSo qB hq.1 hq.2 (nb_Wp r1 ⟨rfl, r3.1, r2.1.2.2.2.1, nb_W.imp x1 ?_⟩)⟩
    rintro r' M' ⟨rfl, rfl⟩
    refine ⟨rfl, x3.1, qX, ?_⟩
    rw [ad]
    exact fun _ => ⟨rfl, rfl⟩
  have rX := x2.wh (a := So) (i := 13) (v := q + 1) (by omega) WX
  have lw : (nb_wr MX So 13 (q + 1)).1 76 9 = MX.1 76 9 := by rw [nb_wr_b (by omega)]
  -- the reference's end
  have refE : nb_R nb_P 111 0 [(20, 603), (98, 0), (98, 0), (98, 0), (98, 0), (98, 0), (98, 0)] [] N1 = some ([], if MX.1 76 9 = 0 then nb_wr NX 607 5 (q + 1) else NX) := by
    refine refS _ (K28 _ (fun w3 => KR _ _ _ _ _ (fun w3' => ⟨fun _ => ?_, fun z => absurd f8 z⟩)))
    by_cases l9 : M9.1 76 9 = 0
    · exact nb_Hu r7 l9 _ _ _ _ (fun v3' v6' => nb_Hu x6 l9 _ _ _)
    · obtain ⟨e1, e2⟩ := nb_Hu x7 l9
      subst e1 e2
      rw [if_neg l9]
      exact nb_Hu r8 l9 _ _ _
  by_cases lX : MX.1 76 9 = 0
  case neg =>
    rw [if_neg lX] at refE
    exact ⟨_, N1, NX, clsE, s2, s5.1, refE, ⟨rX.1, Or.inr (rX.dd (by rw [lw]; exact lX))⟩, clX, mlX, fun z => absurd (lw ▸ z) lX⟩
  rw [if_pos lX] at refE
  obtain ⟨-, nX5, grX⟩ := nb_Hu x5 lX
  have kX : ∀ i, i < 185 → (i < 41 + 7 * q ∨ 41 + 7 * q + 7 ≤ i) → (i < 111 + 5 * q ∨ 111 + 5 * q + 5 ≤ i) → NX.1 607 i = N.1 607 i := fun i i0 i1 i2 => by rw [mq.2.2.2.2 i i0 i2, ro i i0 (by omega) i2, g3 i i0 (by omega) (by omega)]
  have kY : ∀ i, i < 185 → (i < 111 + 5 * q ∨ 111 + 5 * q + 5 ≤ i) → NX.1 607 i = N8.1 607 i := fun i i0 i2 => mq.2.2.2.2 i i0 i2
  have wX := rX.wg (i := 5) (v := q + 1) (by decide)
  refine ⟨_, N1, nb_wr NX 607 5 (q + 1), clsE, s2, s5.1, refE, ?_, clX, mlX.wr, fun _ => ?_⟩
  · have ee : ∀ i, (i = 3 ∨ i = 4) → (nb_wr NX 607 5 (q + 1)).1 607 i = N.1 607 i := fun i hi => by rw [nb_wr_1, if_neg (by omega), kX i (by omega) (by omega) (by omega)]
    have e5s : (nb_wr NX 607 5 (q + 1)).1 607 5 = q + 1 := by rw [nb_wr_1, if_pos ⟨rfl, rfl⟩]
    rw [ee 3 (by omega), ee 4 (by omega), e5s]
    exact wX
  · subst hqq
    refine hH.person (r0 := x) (r1 := b) (r2 := u1) (r3 := u2) (r4 := u3) (r5 := u4) e0 lt10 (fun a i0 i1 i2 i3 => cX a (by omega) i1 (by omega) i2 i3) (fun i hi => ?_) (fun i i0 i1 i2 i3 i4 => ?_) ?_ ?_ ⟨?_, ?_, ?_, ?_, ?_, ?_, ?_, ?_⟩ ⟨?_, ?_, ?_, ?_, ?_, ?_, ?_⟩ (fun i i0 i1 => ?_) (by omega)
    · rw [nb_wr_1, if_neg (by omega), cq.2.2.1 So (by omega) (by omega) (by omega) (by omega) (by omega), B1 So (by omega), SM8 So (Int.le_refl So) (by omega)]
    · rw [nb_wr_1, if_neg (by omega), kX i i1 i3 i4]
    · rw [nb_wr_1, if_pos ⟨rfl, rfl⟩]
    · rw [nb_wr_1, if_pos ⟨rfl, rfl⟩]
    · rw [cG]; exact p0
    · rw [cG]; exact p1
    · rw [cG]; exact p2
    · rw [cG]; exact p3
    · rw [cG]; exact p4
    · rw [cG]; exact p5
    · rw [cG, p6, SM8 _ (by omega) (by omega), hGq.2.1, hGq.2.2.1 (Int.le_refl _)]; rfl
    · rw [cG]; exact p7
    · rw [nb_wr_1, if_neg (by omega), kY _ (by omega) (by omega), ro _ (by omega) (by omega) (by omega)]; exact n0
    · rw [nb_wr_1, if_neg (by omega), kY _ (by omega) (by omega), ro _ (by omega) (by omega) (by omega), n1]; exact eb.symm
    · rw [nb_wr_1, if_neg (by omega), kY _ (by omega) (by omega), z2]; exact e1'.symm
    · rw [nb_wr_1, if_neg (by omega), kY _ (by omega) (by omega), z3]; exact e2'.symm
    · rw [nb_wr_1, if_neg (by omega), kY _ (by omega) (by omega), z4]; exact e3'.symm
    · rw [nb_wr_1, if_neg (by omega), kY _ (by omega) (by omega), z5]; exact e4'.symm
    · rw [nb_wr_1, if_neg (by omega), kY _ (by omega) (by omega), z6]
    · have g := grX i i0 i1
      rw [nb_wr_b (by omega), nb_wr_1, if_neg (by omega)]
      exact g
