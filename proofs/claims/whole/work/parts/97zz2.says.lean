/-! LINES: tellings, shelves -/
variable {So n d s p : Int} {tx : Int → Int} {cnt j : Nat} {E : Nat → Int} {M N : nb_M}
theorem rl_ph (h : pu_RL So tx n cnt E M N j d s p) : ∃ (x y : Int) (M1 N1 : nb_M), nb_R nb_P 241 0 [(13, 76), (0, 2), (98, 0)] [] M = some ([(0, x)], M1) ∧ nb_R nb_P 100 0 [(20, 603)] [] N = some ([(0, y)], N1) ∧ pu_RL So tx n cnt E M1 N1 j d s p ∧ pu_cf M M1 ∧ pu_mf N N1 ∧ (M1.1 76 9 = 0 → M1.1 76 7 = 1 ∧ M.1 76 9 = 0 ∧ x = y ∧ 0 ≤ x ∧ x < p) ∧ (M1.1 76 9 ≠ 0 → x = -1) := by
  have h' := h
  obtain ⟨⟨W, WN, hSo, h764, -⟩, -⟩ := h'
  obtain ⟨x, y, M1, N1, a1, a2, a3, a4, a5, a6, a7⟩ := rl_known (so := 2) (lo := 8) (hi := 17) (Or.inr ⟨rfl, rfl, rfl⟩) h
  refine ⟨x, nb_sub (nb_sub y 5) 3, M1, N1, a1, nb_Wq (w_m_personHere_0 WN (nb_Wp a2 ⟨y, rfl, a5.1, fun _ => ⟨rfl, rfl⟩⟩)), a3, a4, a5, fun z => ?_, fun z => (a7 z).1⟩
  obtain ⟨g1, g2, g3, g4, g5⟩ := a6 z
  rw [pu_sl_2] at g3
  have xp : x < p := by omega
  have p10 : p ≤ 10 := by
    obtain ⟨i, hi, hL⟩ := h.lv g2
    exact hL.2.2.2.2.2.2.2.2.2.2.1.2.2.2
  refine ⟨g1, g2, ?_, g4, xp⟩
  rw [nb_sub_eq (x := y) (by omega) (by omega), nb_sub_eq (by omega) (by omega)]
  omega
theorem rl_pp (h : pu_RL So tx n cnt E M N j d s p) : ∃ (x y : Int) (M1 M2 N2 : nb_M), nb_R nb_P 241 0 [(13, 76), (0, 2), (98, 0)] [] M = some ([(0, x)], M1) ∧ nb_R nb_P 225 0 [(13, 76)] [] M1 = some ([], M2) ∧ nb_R nb_P 101 0 [(20, 603), (98, 0)] [] N = some ([(0, y)], N2) ∧ pu_RL So tx n cnt E M2 N2 j d s p ∧ pu_cf M M1 ∧ pu_cf M M2 ∧ pu_mf N N2 ∧ (M2.1 76 9 = 0 → M.1 76 9 = 0 ∧ x = y ∧ 0 ≤ x ∧ x < p) := by
  have h' := h
  obtain ⟨⟨W, WN, hSo, h764, -⟩, -⟩ := h'
  obtain ⟨x, y, M1, N1, a1, a2, a3, a4, a5, a6, a7⟩ := rl_ph h
  obtain ⟨M2, N2, s1, s2, s3, s4, s5, s6, s7⟩ := rl_pass a3 (fun z => by have := (a6 z).1; omega)
  by_cases l : M1.1 76 9 = 0
  · obtain ⟨q1, q2⟩ := s2 l
    obtain ⟨g1, g2, g3, g4, g5⟩ := a6 l
    exact ⟨x, y, M1, M2, N2, a1, s1, nb_Wq (w_m_personPassed_0 WN (nb_Wp a2 ⟨y, rfl, a5.1, fun _ => nb_Wp q2 ⟨rfl, s6.1, fun _ => ⟨rfl, rfl⟩⟩, fun z => absurd q1 z⟩)), s4, a4, a4.tr s5, a5.tr s6, fun _ => ⟨g2, g3, g4, g5⟩⟩
  · obtain ⟨q1, q2, q3⟩ := s3 l
    subst q2 q3
    exact ⟨x, y, M2, M2, N2, a1, s1, nb_Wq (w_m_personPassed_0 WN (nb_Wp a2 ⟨y, rfl, a5.1, fun z => absurd z q1, fun _ _ => ⟨rfl, rfl⟩⟩)), s4, a4, a4, a5, fun z => absurd z l⟩
theorem rl_says {l2 y0 : Int} (h : pu_RL So tx n cnt E M N j (N.1 607 3) (N.1 607 4) (N.1 607 5)) (hl : M.1 76 9 = 0) (hk : M.1 76 7 ≠ 0 ∧ M.1 76 7 ≠ 6) (hy : nb_R nb_P 93 0 [(20, 603), (2, 6), (98, 0), (98, 0)] [] N = some ([(0, y0)], N)) (hy0 : y0 ≠ 0) (h0 : N.1 607 0 ≠ 0) (h2 : l2 ≠ 0 ↔ N.1 607 7 < 8) (hH : pu_HR M So (N.1 607)) : ∃ M1 N0 N1, nb_R nb_P 237 0 [(13, 76), (98, 0), (98, 0), (98, 0)] [] M = some ([], M1) ∧ nb_R nb_P 106 0 [(20, 603), (2, 6), (0, l2)] [] N = some ([(0, 1)], N0) ∧ nb_Lay N0 ∧ nb_R nb_P 113 0 [(20, 603), (98, 0), (98, 0)] [] N0 = some ([], N1) ∧ pu_LO So tx n cnt E M N M1 N1 j := by
  have h' := h
  obtain ⟨⟨W, WN, hSo, h764, -⟩, -⟩ := h'
  have hSu := hSo
  unfold nb_hs at hSu
  have H1 := hH.2.1
  have e0 : N.1 607 0 = 1 := by rcases hH.1 with q | q <;> omega
  have c15 := H1.2.2.2.2.1
  have r7 := H1.2.2.2.2.2.2.2.2.1
  obtain ⟨M1, N1, s1, s2, s3, s4, s5, s6⟩ := rl_begins (told := M.1 So 15) (room := 8) h hl hk hy hy0 (by rw [c15]; exact h2) h0
  have SM : ∀ a, So ≤ a → a < So + 36 → M1.1 a = M.1 a := fun a p0 p1 => s4.2.2.1 a (by omega) (by omega) (by omega) (by omega)
  have q4 := s3.1.2.2.2.1
  have e7 : N1.1 607 7 = N.1 607 7 := s5.2.2.2.2 7 (by decide)
  -- the end behind a fault
  have dend : ∀ (M6 : nb_M) (x u z : Int), nb_Lay M6 → M6.1 76 4 = So → M6.1 76 9 ≠ 0 → nb_W 237 9 [(13, 76), (0, x), (0, u), (0, z)] [] M6 (fun r M' => r = [] ∧ M' = M6) := fun M6 x u z w4 w5 w9 => w_rd_readTelling_9 w4 hSo w5 (nb_Wp (dd_step w4 hSo w5 w9) ⟨rfl, w4, w5, fun q => absurd q w9, fun _ _ => ⟨rfl, rfl⟩⟩)
  by_cases l1 : M1.1 76 9 = 0
  · have lt8 : N.1 607 7 < 8 := by have := s6 l1; omega
    have f1 : N1.1 603 13 = 0 := s3.ff.1 l1
    obtain ⟨x, y, M2, M3, N3, a1, a2, a3, a4, a5, a6, a7, a8⟩ := rl_pp s3
    have w3 := a4.wg (i := 161 + 3 * N1.1 607 7) (v := y) (by omega)
    obtain ⟨u, v, M4, M5, N5, b1, b2, b3, b4, b5, b6, b7, b8⟩ := rl_pp w3
    have w5 := b4.wg (i := 161 + 3 * N1.1 607 7 + 1) (v := v) (by omega)
    obtain ⟨M6, N6, g1, g2, g3, g4, g5⟩ := rl_expect (pu_tok_at 51 (by decide) (by decide)) (pu_tok_at 30 (by decide) (by decide)) (by decide +kernel) w5
    obtain ⟨z, w, M7, N7, k1, k2, k3, k4, k5, k6, k7⟩ := rl_ph g3
    have cf7 : pu_cf M M7 := (((s4.tr a6).tr b6).tr g4).tr k4
    have SM7 : ∀ a, So ≤ a → a < So + 36 → M7.1 a = M.1 a := fun a p0 p1 => cf7.2.2.1 a (by omega) (by omega) (by omega) (by omega)
    have ml7 : pu_ml N N7 := ((((s5.tr a7).ml.wr).tr b7.ml).wr).tr (g5.tr k5).ml
    -- what the reference has read
    have kk : ∀ i, 0 ≤ i → i < 185 → N7.1 607 i = if i = 161 + 3 * N.1 607 7 + 1 then v else if i = 161 + 3 * N.1 607 7 then y else N.1 607 i := fun i p0 p1 => by
      rw [k5.2.2.2.2 i p1, g5.2.2.2.2 i p1, nb_wr_1, e7]
      by_cases c1 : i = 161 + 3 * N.1 607 7 + 1
      · rw [if_pos ⟨rfl, c1⟩, if_pos c1]
      · rw [if_neg (fun z => c1 z.2), if_neg c1, b7.2.2.2.2 i p1, nb_wr_1, e7]
        by_cases c2 : i = 161 + 3 * N.1 607 7
        · rw [if_pos ⟨rfl, c2⟩, if_pos c2]
        · rw [if_neg (fun z => c2 z.2), if_neg c2, a7.2.2.2.2 i p1, s5.2.2.2.2 i p1]
    have ev : N7.1 607 (161 + 3 * N1.1 607 7 + 1) = v := by rw [e7, kk _ (by omega) (by omega), if_pos rfl]
    -- up to the last name
    have runC : ∀ M8 : nb_M, (z = u → nb_W 226 0 [(13, 76), (0, 3)] [] M7 (fun r M32 => r = [] ∧ nb_Lay M32 ∧ M32.1 76 4 = So ∧ nb_W 237 9 [(13, 76), (0, x), (0, u), (0, z)] [] M32 (fun r M' => r = [] ∧ M' = M8))) → (z ≠ u → nb_W 237 9 [(13, 76), (0, x), (0, u), (0, z)] [] M7 (fun r M' => r = [] ∧ M' = M8)) → nb_R nb_P 237 0 [(13, 76), (98, 0), (98, 0), (98, 0)] [] M = some ([], M8) := fun M8 hz hn => nb_Wq (w_rd_readTelling_0 W hSo h764 ⟨by omega, by omega, nb_Wp s1 ⟨rfl, s4.1, q4, nb_Wp a1 ⟨x, rfl, a5.1, a5.2.2.2.trans q4, nb_Wp a2 ⟨rfl, a6.1, a4.1.2.2.2.1, nb_Wp b1 ⟨u, rfl, b5.1, b5.2.2.2.trans a4.1.2.2.2.1, nb_Wp b2 ⟨rfl, b6.1, b4.1.2.2.2.1, nb_Wp g1 ⟨rfl, g4.1, g3.1.2.2.2.1, nb_Wp k1 ⟨z, rfl, k4.1, k3.1.2.2.2.1, hz, hn⟩⟩⟩⟩⟩⟩⟩⟩)
    by_cases l7 : M7.1 76 9 = 0
    · obtain ⟨o1, o2, o3, o4, o5⟩ := k6 l7
      have l5 : M5.1 76 9 = 0 := by
        by_cases q : M5.1 76 9 = 0
        · exact q
        · exfalso
          have e := g1.symm.trans (dd_expect (pu_tok_at 51 (by decide) (by decide)) b6.1 hSo b4.1.2.2.2.1 q)
          simp only [Option.some.injEq, Prod.mk.injEq, true_and] at e
          rw [e] at o2
          exact q o2
      obtain ⟨l3, eu, u1, u2⟩ := b8 l5
      obtain ⟨-, ex, x1, x2⟩ := a8 l3
      subst eu ex o3
      have f7 : N7.1 603 13 = 0 := k3.ff.1 l7
      have refR : ∀ N9 : nb_M, (z = u → nb_W 92 0 [(20, 603), (0, 3), (0, N7.1 603 4)] [] N7 (fun r M33 => r = [] ∧ nb_Lay M33 ∧ (M33.1 603 13 = 0 → nb_W 91 0 [(20, 603), (98, 0), (98, 0), (98, 0)] [] M33 (fun r M37 => r = [] ∧ nb_Lay M37 ∧ (nb_Lay (nb_wr (nb_wr M37 607 (161 + 3 * (N1.1 607 7) + 2) z) 607 7 (nb_add (M37.1 607 7) 1)) → (([] : List nb_V) = [] ∧ (nb_wr (nb_wr M37 607 (161 + 3 * (N1.1 607 7) + 2) z) 607 7 (nb_add (M37.1 607 7) 1)) = N9)))) ∧ (M33.1 603 13 ≠ 0 → (nb_Lay M33 → (([] : List nb_V) = [] ∧ M33 = N9))))) → (z ≠ u → nb_W 91 0 [(20, 603), (98, 0), (98, 0), (98, 0)] [] N7 (fun r M51 => r = [] ∧ nb_Lay M51 ∧ (nb_Lay (nb_wr (nb_wr M51 607 (161 + 3 * (N1.1 607 7) + 2) z) 607 7 (nb_add (M51.1 607 7) 1)) → (([] : List nb_V) = [] ∧ (nb_wr (nb_wr M51 607 (161 + 3 * (N1.1 607 7) + 2) z) 607 7 (nb_add (M51.1 607 7) 1)) = N9)))) → nb_R nb_P 113 0 [(20, 603), (98, 0), (98, 0)] [] N1 = some ([], N9) := fun N9 hz hn => nb_Wq (w_m_saysLine_0 s5.1 ⟨fun _ => ⟨by omega, by omega, nb_Wp a3 ⟨x, rfl, a7.1, nb_Wp b3 ⟨u, rfl, b7.1, nb_Wp g2 ⟨rfl, g5.1, nb_Wp k2 ⟨z, rfl, k5.1, fun _ => ⟨fun q => hz (by rw [ev] at q; exact q), fun q => hn (by rw [ev] at q; exact q)⟩, fun q => absurd f7 q⟩⟩⟩⟩⟩, fun q => absurd f1 q⟩)
      by_cases c : z = u
      · obtain ⟨M8, N8, v1, v1b, v2, v3, v4, v5, v6, v7⟩ := rl_bad (f := 3) (by decide) k3
        have q8 := v5.2.2.2.trans k3.1.2.2.2.1
        exact ⟨M8, N1, N8, runC M8 (fun _ => nb_Wp v1 ⟨rfl, v5.1, q8, dend M8 x u z v5.1 q8 v4.1⟩) (fun q => absurd c q), s2, s5.1, refR N8 (fun _ => nb_Wp v2 ⟨rfl, v6.1, fun q => absurd q v7, fun _ _ => ⟨rfl, rfl⟩⟩) (fun q => absurd c q), ⟨v3, Or.inr v4⟩, (cf7.tr v5).cl hSo, ml7.tr v6.ml, fun q => absurd q v4.1⟩
      · obtain ⟨M8, N8, v1, v2, v3, v4, v5, v6, v7⟩ := rl_pass k3 (fun _ => by omega)
        obtain ⟨q1, q2⟩ := v2 l7
        have l8 := v7.2 l7
        have q8 := v4.1.2.2.2.1
        have cf8 : pu_cf M M8 := cf7.tr v5
        have SM8 : ∀ a, So ≤ a → a < So + 36 → M8.1 a = M.1 a := fun a p0 p1 => cf8.2.2.1 a (by omega) (by omega) (by omega) (by omega)
        have e15 : M8.1 So 15 = N.1 607 7 := by rw [SM8 So (by omega) (by omega)]; exact c15
        have k8 : ∀ i, 0 ≤ i → i < 185 → N8.1 607 i = if i = 161 + 3 * N.1 607 7 + 1 then u else if i = 161 + 3 * N.1 607 7 then x else N.1 607 i := fun i p0 p1 => by rw [v6.2.2.2.2 i p1, kk i p0 p1]
        have W1 : nb_Lay (nb_wr M8 (So + 17) (N.1 607 7) x) := v5.1.wr (fun w => nb_nh17 hSo)
        have W2 : nb_Lay (nb_wr (nb_wr M8 (So + 17) (N.1 607 7) x) (So + 18) (N.1 607 7) u) := W1.wr (fun w => nb_nh18 hSo)
        have W3 : nb_Lay (nb_wr (nb_wr (nb_wr M8 (So + 17) (N.1 607 7) x) (So + 18) (N.1 607 7) u) (So + 19) (N.1 607 7) z) := W2.wr (fun w => nb_nh19 hSo)
        have W4 : nb_Lay (nb_wr (nb_wr (nb_wr (nb_wr M8 (So + 17) (N.1 607 7) x) (So + 18) (N.1 607 7) u) (So + 19) (N.1 607 7) z) So 15 (N.1 607 7 + 1)) := W3.wr (fun w => nb_nhh hSo (by omega))
        have ad2 : nb_add (N.1 607 7) 1 = N.1 607 7 + 1 := nb_add_eq (by omega) (by omega)
        have e87 : N8.1 607 7 = N.1 607 7 := by rw [k8 7 (by decide) (by decide), if_neg (by omega), if_neg (by omega)]
        have ad1 : nb_add (N8.1 607 7) 1 = N.1 607 7 + 1 := by rw [e87]; exact ad2
        refine ⟨nb_wr (nb_wr (nb_wr (nb_wr M8 (So + 17) (N.1 607 7) x) (So + 18) (N.1 607 7) u) (So + 19) (N.1 607 7) z) So 15 (N.1 607 7 + 1), N1, nb_wr (nb_wr N8 607 (161 + 3 * N1.1 607 7 + 2) z) 607 7 (N.1 607 7 + 1), runC _ (fun q => absurd q c) (fun _ => w_rd_readTelling_9 k4.1 hSo k3.1.2.2.2.1 (nb_Wp v1 ⟨rfl, v5.1, q8, fun _ => ⟨fun _ => ⟨by omega, ?_⟩, fun q => absurd q (by omega)⟩, fun q => absurd l8 q⟩)), s2, s5.1, refR _ (fun q => absurd q c) (fun _ => nb_Wp q2 ⟨rfl, v6.1, ?_⟩), ?_, ?_, (ml7.tr v6.ml).wr.wr, fun _ => ?_⟩
        · rw [e15, ad2]
          exact fun _ => ⟨rfl, rfl⟩
        · rw [ad1]
          exact fun _ => ⟨rfl, rfl⟩
        · have e' : ∀ i, (i = 3 ∨ i = 4 ∨ i = 5) → (nb_wr (nb_wr N8 607 (161 + 3 * N1.1 607 7 + 2) z) 607 7 (N.1 607 7 + 1)).1 607 i = N.1 607 i := fun i hi => by
            rw [nb_wr_1, if_neg (by omega), nb_wr_1, if_neg (by omega), k8 i (by omega) (by omega), if_neg (by omega), if_neg (by omega)]
          rw [e' 3 (by omega), e' 4 (by omega), e' 5 (by omega)]
          exact ((((((v4.wg (i := 161 + 3 * N1.1 607 7 + 2) (v := z) (by omega)).wg (i := 7) (v := N.1 607 7 + 1) (by decide)).wh (by omega) W1).wh (by omega) W2).wh (by omega) W3).wh (by omega) W4)
        · exact ((((cf8.cl hSo).wr hSo (by omega) (by omega) W1).wr hSo (by omega) (by omega) W2).wr hSo (by omega) (by omega) W3).wr hSo (by omega) (by omega) W4
        · refine hH.says (x := x) (y := u) (z := z) e0 lt8 (fun a p0 p1 p2 p3 p4 => ?_) (fun i hi => ?_) (fun i hi => ⟨?_, ?_, ?_⟩) (fun i p0 p1 p2 p3 => ?_) ?_ ?_ ⟨?_, ?_, ?_⟩ ⟨?_, ?_, ?_⟩ (by omega)
          · rw [nb_wr_b (by omega), nb_wr_b (by omega), nb_wr_b (by omega), nb_wr_b (by omega)]; exact SM8 a (by omega) p1
          · rw [nb_wr_1, if_neg (by omega), nb_wr_b (by omega), nb_wr_b (by omega), nb_wr_b (by omega), SM8 So (by omega) (by omega)]
          · rw [nb_wr_b (by omega), nb_wr_b (by omega), nb_wr_b (by omega), nb_wr_1, if_neg (by omega), SM8 _ (by omega) (by omega)]
          · rw [nb_wr_b (by omega), nb_wr_b (by omega), nb_wr_1, if_neg (by omega), nb_wr_b (by omega), SM8 _ (by omega) (by omega)]
          · rw [nb_wr_b (by omega), nb_wr_1, if_neg (by omega), nb_wr_b (by omega), nb_wr_b (by omega), SM8 _ (by omega) (by omega)]
          · rw [nb_wr_1, if_neg (by omega), nb_wr_1, if_neg (by omega), k8 i p0 p1, if_neg (by omega), if_neg (by omega)]
          · rw [nb_wr_1, if_pos ⟨rfl, rfl⟩]
          · rw [nb_wr_1, if_pos ⟨rfl, rfl⟩]
          · rw [nb_wr_b (by omega), nb_wr_b (by omega), nb_wr_b (by omega), nb_wr_1, if_pos ⟨rfl, rfl⟩]
          · rw [nb_wr_b (by omega), nb_wr_b (by omega), nb_wr_1, if_pos ⟨rfl, rfl⟩]
          · rw [nb_wr_b (by omega), nb_wr_1, if_pos ⟨rfl, rfl⟩]
          · rw [nb_wr_1, if_neg (by omega), nb_wr_1, if_neg (by omega), k8 _ (by omega) (by omega), if_neg (by omega), if_pos rfl]
          · rw [nb_wr_1, if_neg (by omega), nb_wr_1, if_neg (by omega), k8 _ (by omega) (by omega), if_pos rfl]
          · rw [nb_wr_1, if_neg (by omega), nb_wr_1, if_pos ⟨rfl, by omega⟩]
    · have f7 : N7.1 603 13 ≠ 0 := fun q => l7 (k3.ff.2 q)
      have q7 := k3.1.2.2.2.1
      exact ⟨M7, N1, N7, runC M7 (fun _ => nb_Wp (dd_fail k4.1 hSo q7 l7) ⟨rfl, k4.1, q7, dend M7 x u z k4.1 q7 l7⟩) (fun _ => dend M7 x u z k4.1 q7 l7), s2, s5.1, nb_Wq (w_m_saysLine_0 s5.1 ⟨fun _ => ⟨by omega, by omega, nb_Wp a3 ⟨y, rfl, a7.1, nb_Wp b3 ⟨v, rfl, b7.1, nb_Wp g2 ⟨rfl, g5.1, nb_Wp k2 ⟨w, rfl, k5.1, fun q => absurd q f7, fun _ _ => ⟨rfl, rfl⟩⟩⟩⟩⟩⟩, fun q => absurd f1 q⟩), ⟨k3.1, Or.inr (k3.dd l7)⟩, cf7.cl hSo, ml7, fun q => absurd q l7⟩
  · have f1 : N1.1 603 13 ≠ 0 := fun z => l1 (s3.ff.2 z)
    have hB := s3.1
    have h5 : 0 ≤ M1.1 76 5 ∧ M1.1 76 5 ≤ 18 := hB.2.2.2.2.2.2.2.2
    have dk := dd_known (so := 2) s4.1 hSo q4 h5 l1
    have ds := dd_step s4.1 hSo q4 l1
    have de := dd_expect (pu_tok_at 51 (by decide) (by decide)) s4.1 hSo q4 l1
    exact ⟨M1, N1, N1, nb_Wq (w_rd_readTelling_0 W hSo h764 ⟨by omega, by omega, nb_Wp s1 ⟨rfl, s4.1, q4, nb_Wp dk ⟨_, rfl, s4.1, q4, nb_Wp ds ⟨rfl, s4.1, q4, nb_Wp dk ⟨_, rfl, s4.1, q4, nb_Wp ds ⟨rfl, s4.1, q4, nb_Wp de ⟨rfl, s4.1, q4, nb_Wp dk ⟨_, rfl, s4.1, q4, fun _ => nb_Wp (dd_fail s4.1 hSo q4 l1) ⟨rfl, s4.1, q4, dend M1 _ _ _ s4.1 q4 l1⟩, fun q => absurd rfl q⟩⟩⟩⟩⟩⟩⟩⟩), s2, s5.1, nb_Wq (w_m_saysLine_0 s5.1 ⟨fun z => absurd z f1, fun _ _ => ⟨rfl, rfl⟩⟩), ⟨hB, Or.inr (s3.dd l1)⟩, s4.cl hSo, s5.ml, fun z => absurd z l1⟩
