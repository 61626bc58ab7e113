/-! NAMES told anew; rules and manners -/
variable {So n d s p : Int} {tx : Int → Int} {cnt j : Nat} {E : Nat → Int} {M N : nb_M}
/-- the reference writes a name down -/
theorem sp_m_newName {m : Int} {Q : List nb_V → nb_M → Prop} (WN : nb_Lay N) (hm : 0 ≤ m ∧ m < 18) (h8 : 1 ≤ N.1 603 8 ∧ N.1 603 8 ≤ 8) (H : ∀ Nw, pu_mf N Nw → Nw.1 603 = N.1 603 → Nw.1 604 = N.1 604 → Nw.1 605 = N.1 605 → (∀ q : Nat, (q : Int) < N.1 603 8 → Nw.1 607 (203 + 8 * m + q) = N.1 605 q) → Nw.1 607 (185 + m) = N.1 603 8 → (∀ i, i ≠ 185 + m → (i < 203 + 8 * m ∨ 203 + 8 * m + 8 ≤ i) → Nw.1 607 i = N.1 607 i) → nb_W 91 0 [(20, 603), (98, 0), (98, 0), (98, 0)] [] Nw (fun r M13 => r = [] ∧ nb_Lay M13 ∧ (nb_Lay M13 → Q [] M13))) : nb_W 98 10 [(20, 603), (0, m), (0, 0)] [] N Q := by
  suffices hl : ∀ (f q : Nat) (Nw : nb_M), (q : Int) + f = N.1 603 8 → pu_mf N Nw → Nw.1 603 = N.1 603 → Nw.1 604 = N.1 604 → Nw.1 605 = N.1 605 → (∀ i : Nat, i < q → Nw.1 607 (203 + 8 * m + i) = N.1 605 i) → (∀ i, (i < 203 + 8 * m ∨ 203 + 8 * m + 8 ≤ i) → Nw.1 607 i = N.1 607 i) → nb_W 98 10 [(20, 603), (0, m), (0, (q : Int))] [] Nw Q from hl (N.1 603 8).toNat 0 N (by omega) (pu_mf.id WN) rfl rfl rfl (fun i hi => absurd hi (by omega)) (fun _ _ => rfl)
  intro f
  induction f with
  | zero =>
    intro q Nw hq g1 g2 g3 g4 g5 g6
    refine w_m_newName_10 g1.1 ?_
    rw [g2, g4, nb_add_eq (x := (185 : Int)) (by omega) (by omega)]
    refine ⟨fun z => absurd z (by omega), fun _ => ⟨by omega, by omega, H _ (g1.nam (by omega)) ?_ ?_ ?_ (fun i hi => ?_) ?_ (fun i a b => ?_)⟩⟩
    · rw [nb_wr_b (by decide)]; exact g2
    · rw [nb_wr_b (by decide)]; exact g3
    · rw [nb_wr_b (by decide)]; exact g4
    · rw [nb_wr_1, if_neg (by omega)]; exact g5 i (by omega)
    · rw [nb_wr_1, if_pos ⟨rfl, rfl⟩]
    · rw [nb_wr_1, if_neg (by omega)]; exact g6 i b
  | succ f ih =>
    intro q Nw hq g1 g2 g3 g4 g5 g6
    refine w_m_newName_10 g1.1 ?_
    rw [g2, g4, nb_mul_eq (x := (8 : Int)) (by omega) (by omega), nb_add_eq (x := (203 : Int)) (by omega) (by omega), nb_add_eq (x := 203 + 8 * m) (by omega) (by omega), nb_add_eq (x := (q : Int)) (by omega) (by omega)]
    refine ⟨fun _ => ⟨by omega, by omega, by omega, by omega, ?_⟩, fun z => absurd z (by omega)⟩
    have g := ih (q + 1) (nb_wr Nw 607 (203 + 8 * m + q) (N.1 605 q)) (by omega) (g1.nam (by omega)) (by rw [nb_wr_b (by decide)]; exact g2) (by rw [nb_wr_b (by decide)]; exact g3) (by rw [nb_wr_b (by decide)]; exact g4) (fun i hi => by
      rw [nb_wr_1]
      by_cases c : i = q
      · subst c
        rw [if_pos ⟨rfl, rfl⟩]
      · rw [if_neg (by omega)]
        exact g5 i (by omega)) (fun i a => by
      rw [nb_wr_1, if_neg (by omega)]
      exact g6 i a)
    rw [show ((q + 1 : Nat) : Int) = (q : Int) + 1 by omega] at g
    exact g
/-- one more name -/
theorem pu_NR.more {Mw Nw : nb_M} {so nu m d' s' p' : Int} (h : pu_NR M N d s p) (hm : m = pu_sl so nu) (hb : (so = 0 ∧ nu = d ∧ d < 5 ∧ d' = d + 1 ∧ s' = s ∧ p' = p) ∨ (so = 1 ∧ nu = s ∧ s < 3 ∧ d' = d ∧ s' = s + 1 ∧ p' = p) ∨ (so = 2 ∧ nu = p ∧ p < 10 ∧ d' = d ∧ s' = s ∧ p' = p + 1)) (c8 : 1 ≤ N.1 603 8 ∧ N.1 603 8 ≤ 8) (abc : pu_abc (N.1 605) (N.1 603 8).toNat) (hv : M.1 76 8 = pu_wv (N.1 605) (N.1 603 8).toNat) (no : ∀ i : Nat, (i : Int) < d + s + p → M.1 81 i ≠ M.1 76 8) (w5 : Mw.1 76 5 = d + s + p + 1) (w1 : ∀ i, Mw.1 81 i = if i = d + s + p then M.1 76 8 else M.1 81 i) (w2 : ∀ i, Mw.1 82 i = if i = d + s + p then so else M.1 82 i) (w3 : ∀ i, Mw.1 83 i = if i = d + s + p then nu else M.1 83 i) (n1 : ∀ q : Nat, (q : Int) < N.1 603 8 → Nw.1 607 (203 + 8 * m + q) = N.1 605 q) (n2 : Nw.1 607 (185 + m) = N.1 603 8) (n3 : ∀ i, i ≠ 185 + m → (i < 203 + 8 * m ∨ 203 + 8 * m + 8 ≤ i) → Nw.1 607 i = N.1 607 i) : pu_NR Mw Nw d' s' p' := by
  obtain ⟨a1, a2, a3, a4, a5⟩ := h
  have m0 : 0 ≤ m ∧ m < 18 := by
    rcases hb with ⟨q, q2⟩ | ⟨q, q2⟩ | ⟨q, q2⟩
    · rw [q, pu_sl_0] at hm; omega
    · rw [q, pu_sl_1] at hm; omega
    · rw [q, pu_sl_2] at hm; omega
  have old : ∀ i : Nat, (i : Int) < d + s + p → (0 ≤ pu_sl (M.1 82 i) (M.1 83 i) ∧ pu_sl (M.1 82 i) (M.1 83 i) < 18) ∧ pu_sl (M.1 82 i) (M.1 83 i) ≠ m ∧ pu_sot (M.1 82 i) (M.1 83 i) d' s' p' := fun i hi => by
    have g := (a3 i hi).1
    unfold pu_sot at g ⊢
    rcases g with ⟨e, q⟩ | ⟨e, q⟩ | ⟨e, q⟩
    · rw [e, pu_sl_0]
      refine ⟨by omega, ?_, Or.inl ⟨rfl, by omega⟩⟩
      rcases hb with ⟨u, u2⟩ | ⟨u, u2⟩ | ⟨u, u2⟩
      · rw [u, pu_sl_0] at hm; omega
      · rw [u, pu_sl_1] at hm; omega
      · rw [u, pu_sl_2] at hm; omega
    · rw [e, pu_sl_1]
      refine ⟨by omega, ?_, Or.inr (Or.inl ⟨rfl, by omega⟩)⟩
      rcases hb with ⟨u, u2⟩ | ⟨u, u2⟩ | ⟨u, u2⟩
      · rw [u, pu_sl_0] at hm; omega
      · rw [u, pu_sl_1] at hm; omega
      · rw [u, pu_sl_2] at hm; omega
    · rw [e, pu_sl_2]
      refine ⟨by omega, ?_, Or.inr (Or.inr ⟨rfl, by omega⟩)⟩
      rcases hb with ⟨u, u2⟩ | ⟨u, u2⟩ | ⟨u, u2⟩
      · rw [u, pu_sl_0] at hm; omega
      · rw [u, pu_sl_1] at hm; omega
      · rw [u, pu_sl_2] at hm; omega
  have o81 : ∀ i : Nat, (i : Int) < d + s + p → Mw.1 81 i = M.1 81 i := fun i hi => by rw [w1, if_neg (by omega)]
  have o82 : ∀ i : Nat, (i : Int) < d + s + p → Mw.1 82 i = M.1 82 i := fun i hi => by rw [w2, if_neg (by omega)]
  have o83 : ∀ i : Nat, (i : Int) < d + s + p → Mw.1 83 i = M.1 83 i := fun i hi => by rw [w3, if_neg (by omega)]
  have sum : d' + s' + p' = d + s + p + 1 := by omega
  refine ⟨by omega, by omega, fun i hi => ?_, fun a b hab hb' => ?_, fun m' p0 p1 hm' => ?_⟩
  · by_cases c : (i : Int) = d + s + p
    · rw [w1, w2, w3, if_pos c, if_pos c, if_pos c, ← hm, n2]
      have el : ∀ q : Nat, q < (N.1 603 8).toNat → pu_nl (Nw.1 607) m q = N.1 605 q := fun q hq => n1 q (by omega)
      refine ⟨?_, c8, fun q hq => by rw [el q hq]; exact abc q hq, ?_⟩
      · unfold pu_sot
        omega
      · rw [hv]
        exact pu_wv_congr _ (fun q hq => (el q hq).symm)
    · have hi' : (i : Int) < d + s + p := by omega
      obtain ⟨s0, sm, so'⟩ := old i hi'
      have g := a3 i hi'
      rw [o81 i hi', o82 i hi', o83 i hi', n3 _ (by omega) (by omega)]
      have el : ∀ q : Nat, q < (N.1 607 (185 + pu_sl (M.1 82 i) (M.1 83 i))).toNat → pu_nl (Nw.1 607) (pu_sl (M.1 82 i) (M.1 83 i)) q = pu_nl (N.1 607) (pu_sl (M.1 82 i) (M.1 83 i)) q := fun q hq => n3 _ (by omega) (by omega)
      refine ⟨so', g.2.1, fun q hq => by rw [el q hq]; exact g.2.2.1 q hq, ?_⟩
      rw [g.2.2.2]
      exact pu_wv_congr _ (fun q hq => (el q hq).symm)
  · rw [o81 a (by omega)]
    by_cases c : (b : Int) = d + s + p
    · rw [w1, if_pos c]
      exact no a (by omega)
    · rw [o81 b (by omega)]
      exact a4 a b hab (by omega)
  · by_cases c : m' = m
    · refine ⟨(d + s + p).toNat, by omega, ?_⟩
      rw [w2, w3, if_pos (by omega), if_pos (by omega), c]
      exact hm.symm
    · rw [n3 _ (by omega) (by omega)] at hm'
      obtain ⟨i, i1, i2⟩ := a5 m' p0 p1 hm'
      exact ⟨i, by omega, by rw [o82 i i1, o83 i i1]; exact i2⟩
theorem rl_tellName {so nu m d' s' p' : Int} (h : pu_RL So tx n cnt E M N j d s p) (hb : M.1 76 9 = 0 → m = pu_sl so nu ∧ ((so = 0 ∧ nu = d ∧ d < 5 ∧ d' = d + 1 ∧ s' = s ∧ p' = p) ∨ (so = 1 ∧ nu = s ∧ s < 3 ∧ d' = d ∧ s' = s + 1 ∧ p' = p) ∨ (so = 2 ∧ nu = p ∧ p < 10 ∧ d' = d ∧ s' = s ∧ p' = p + 1))) : ∃ (M1 N1 : nb_M), nb_R nb_P 239 0 [(13, 76), (0, so), (0, nu)] [] M = some ([], M1) ∧ nb_R nb_P 98 0 [(20, 603), (0, m), (98, 0)] [] N = some ([], N1) ∧ pu_RL So tx n cnt E M1 N1 j d' s' p' ∧ pu_cf M M1 ∧ pu_mf N N1 ∧ (M1.1 76 9 = 0 → M.1 76 9 = 0) := by
  obtain ⟨hB, h⟩ := h
  have hB' := hB
  obtain ⟨W, WN, hSo, h764, hT, hn, htx, h3, h5⟩ := hB'
  rcases h with ⟨i, hi', hL⟩ | hD
  · have hL' := hL
    obtain ⟨l1, l2, l3, l4, l5, l6, l7, l8, l9, l10⟩ := hL'
    obtain ⟨hm, hc⟩ := hb l1
    have mn := sp_m_mustName hB hL
    have bad : ∀ f : Int, f ≠ 0 → ∃ (M1 N1 : nb_M), nb_W 226 0 [(13, 76), (0, f)] [] M (fun r M4 => r = [] ∧ nb_Lay M4 ∧ M4.1 76 4 = So ∧ nb_W 225 0 [(13, 76)] [] M4 (fun r M8 => r = [] ∧ nb_Lay M8 ∧ M8.1 76 4 = So ∧ (nb_Lay M8 → ([] : List nb_V) = [] ∧ M8 = M1))) ∧ nb_R nb_P 92 0 [(20, 603), (0, f), (0, N.1 603 4)] [] N = some ([], N1) ∧ pu_RL So tx n cnt E M1 N1 j d' s' p' ∧ pu_cf M M1 ∧ pu_mf N N1 ∧ N1.1 603 13 ≠ 0 := fun f hf => by
      obtain ⟨M1, N1, s1, s2, s3, s4, s5, s6⟩ := rl_fail hf hB hL
      have q4 := s5.2.2.2.trans h764
      exact ⟨M1, N1, nb_Wp s1 ⟨rfl, s5.1, q4, nb_Wp (dd_step s5.1 hSo q4 s4.1) ⟨rfl, s5.1, q4, fun _ => ⟨rfl, rfl⟩⟩⟩, s2, ⟨s3, Or.inr s4⟩, s5, s6, by have := s4.2.1; omega⟩
    by_cases k1 : M.1 76 7 = 1
    · obtain ⟨x, y, x1, y1, xy⟩ := rl_find hB hL k1
      have mn1 := mn.1 k1
      have rt : (1 ≤ N.1 603 8 ∧ N.1 603 8 ≤ 8) ∧ pu_abc (N.1 605) (N.1 603 8).toNat ∧ M.1 76 8 = pu_wv (N.1 605) (N.1 603 8).toNat := by
        rcases l8.2 with q | q | q | q | q | q <;> first | omega | (exact ⟨q.2.2.1, q.2.2.2.1, q.2.2.2.2.1⟩)
      rcases xy with ⟨e, e2, no⟩ | ⟨x0, xl, y0, ye, xs⟩
      · -- a new one
        have m0 : 0 ≤ m ∧ m < 18 := by
          have := l10.2.1
          rcases hc with ⟨q, q2⟩ | ⟨q, q2⟩ | ⟨q, q2⟩
          · rw [q, pu_sl_0] at hm; omega
          · rw [q, pu_sl_1] at hm; omega
          · rw [q, pu_sl_2] at hm; omega
        have nc := l10.1
        have nr := l10.2.1
        have nc18 : M.1 76 5 < 18 := by omega
        have hcf : pu_cf M (nb_wr (nb_wr (nb_wr (nb_wr M 81 (d + s + p) (M.1 76 8)) 82 (d + s + p) so) 83 (d + s + p) nu) 76 5 (d + s + p + 1)) := ((((pu_cf.id W).nam (by omega)).nam (by omega)).nam (by omega)).wr (by decide)
        generalize hMw : nb_wr (nb_wr (nb_wr (nb_wr M 81 (d + s + p) (M.1 76 8)) 82 (d + s + p) so) 83 (d + s + p) nu) 76 5 (d + s + p + 1) = Mw at hcf
        have w76 : ∀ i, i ≠ 5 → Mw.1 76 i = M.1 76 i := fun i hi => by rw [← hMw, nb_wr_1, if_neg (by omega), nb_wr_b (by decide), nb_wr_b (by decide), nb_wr_b (by decide)]
        have w5 : Mw.1 76 5 = d + s + p + 1 := by rw [← hMw, nb_wr_1, if_pos ⟨rfl, rfl⟩]
        have w1 : ∀ i, Mw.1 81 i = if i = d + s + p then M.1 76 8 else M.1 81 i := fun i => by
          rw [← hMw, nb_wr_b (by decide), nb_wr_b (by decide), nb_wr_b (by decide), nb_wr_1]
          by_cases c : i = d + s + p
          · rw [if_pos ⟨rfl, c⟩, if_pos c]
          · rw [if_neg (fun z => c z.2), if_neg c]
        have w2 : ∀ i, Mw.1 82 i = if i = d + s + p then so else M.1 82 i := fun i => by
          rw [← hMw, nb_wr_b (by decide), nb_wr_b (by decide), nb_wr_1, nb_wr_b (by decide)]
          by_cases c : i = d + s + p
          · rw [if_pos ⟨rfl, c⟩, if_pos c]
          · rw [if_neg (fun z => c z.2), if_neg c]
        have w3 : ∀ i, Mw.1 83 i = if i = d + s + p then nu else M.1 83 i := fun i => by
          rw [← hMw, nb_wr_b (by decide), nb_wr_1, nb_wr_b (by decide), nb_wr_b (by decide)]
          by_cases c : i = d + s + p
          · rw [if_pos ⟨rfl, c⟩, if_pos c]
          · rw [if_neg (fun z => c z.2), if_neg c]
        -- the step behind it, whatever the reference has written
        have go : ∀ Nw, pu_mf N Nw → Nw.1 603 = N.1 603 → Nw.1 605 = N.1 605 → pu_NR Mw Nw d' s' p' → ∃ M1 N1, nb_R nb_P 225 0 [(13, 76)] [] Mw = some ([], M1) ∧ nb_R nb_P 91 0 [(20, 603), (98, 0), (98, 0), (98, 0)] [] Nw = some ([], N1) ∧ pu_RL So tx n cnt E M1 N1 j d' s' p' ∧ pu_cf M M1 ∧ pu_mf N N1 := fun Nw g1 g2 g4 gN => by
          have c78 := hcf.2.2.1 78 (by decide) (by decide) (by decide) (by decide)
          have c79 := hcf.2.2.1 79 (by decide) (by decide) (by decide) (by decide)
          have c80 := hcf.2.2.1 80 (by decide) (by decide) (by decide) (by decide)
          have hLw : pu_Lv E cnt Mw Nw i d' s' p' := by
            refine ⟨(w76 9 (by decide)).trans l1, by rw [g2]; exact l2, (w76 6 (by decide)).trans l3, l4, by rw [w76 7 (by decide), c78]; exact l5, by rw [w76 8 (by decide), c80]; exact l6, fun z => by rw [c78]; exact l7 z, ?_, fun z => by rw [g2]; exact l9 z, gN⟩
            rw [c79, w76 7 (by decide), w76 8 (by decide)]
            unfold pu_rt at l8 ⊢
            rw [g2, g4]
            exact l8
          have hBw := hB.mv hcf g1 (by rw [w5]; omega)
          obtain ⟨M1, N1, s1, s2, s3, s4, s5, s6⟩ := rl_step hBw hLw (by rw [w76 7 (by decide)]; omega) (by rw [w76 7 (by decide)]; omega)
          exact ⟨M1, N1, s1, s2, ⟨s3, Or.inl ⟨i + 1, by omega, s4⟩⟩, hcf.tr s5, g1.tr s6⟩
        -- which name the reference writes
        have ref : ∃ Nw, pu_mf N Nw ∧ Nw.1 603 = N.1 603 ∧ Nw.1 605 = N.1 605 ∧ pu_NR Mw Nw d' s' p' ∧ ∀ N1, nb_Lay N1 → nb_R nb_P 91 0 [(20, 603), (98, 0), (98, 0), (98, 0)] [] Nw = some ([], N1) → nb_W 98 10 [(20, 603), (0, m), (0, 0)] [] N (fun r M' => r = [] ∧ M' = N1) := by
          have key : ∃ Nw, (pu_mf N Nw ∧ Nw.1 603 = N.1 603 ∧ Nw.1 604 = N.1 604 ∧ Nw.1 605 = N.1 605 ∧ (∀ q : Nat, (q : Int) < N.1 603 8 → Nw.1 607 (203 + 8 * m + q) = N.1 605 q) ∧ Nw.1 607 (185 + m) = N.1 603 8 ∧ ∀ i, i ≠ 185 + m → (i < 203 + 8 * m ∨ 203 + 8 * m + 8 ≤ i) → Nw.1 607 i = N.1 607 i) ∧ ∀ Q : List nb_V → nb_M → Prop, nb_W 91 0 [(20, 603), (98, 0), (98, 0), (98, 0)] [] Nw (fun r M13 => r = [] ∧ nb_Lay M13 ∧ (nb_Lay M13 → Q [] M13)) → nb_W 98 10 [(20, 603), (0, m), (0, 0)] [] N Q := by
            suffices hl : ∀ (f q : Nat) (Nw : nb_M), (q : Int) + f = N.1 603 8 → pu_mf N Nw → Nw.1 603 = N.1 603 → Nw.1 604 = N.1 604 → Nw.1 605 = N.1 605 → (∀ i : Nat, i < q → Nw.1 607 (203 + 8 * m + i) = N.1 605 i) → (∀ i, (i < 203 + 8 * m ∨ 203 + 8 * m + 8 ≤ i) → Nw.1 607 i = N.1 607 i) → ∃ Nz, (pu_mf N Nz ∧ Nz.1 603 = N.1 603 ∧ Nz.1 604 = N.1 604 ∧ Nz.1 605 = N.1 605 ∧ (∀ q : Nat, (q : Int) < N.1 603 8 → Nz.1 607 (203 + 8 * m + q) = N.1 605 q) ∧ Nz.1 607 (185 + m) = N.1 603 8 ∧ ∀ i, i ≠ 185 + m → (i < 203 + 8 * m ∨ 203 + 8 * m + 8 ≤ i) → Nz.1 607 i = N.1 607 i) ∧ ∀ Q : List nb_V → nb_M → Prop, nb_W 91 0 [(20, 603), (98, 0), (98, 0), (98, 0)] [] Nz (fun r M13 => r = [] ∧ nb_Lay M13 ∧ (nb_Lay M13 → Q [] M13)) → nb_W 98 10 [(20, 603), (0, m), (0, (q : Int))] [] Nw Q from hl (N.1 603 8).toNat 0 N (by omega) (pu_mf.id WN) rfl rfl rfl (fun i hi => absurd hi (by omega)) (fun _ _ => rfl)
            intro f
            induction f with
            | zero =>
              intro q Nw hq g1 g2 g3 g4 g5 g6
              refine ⟨nb_wr Nw 607 (185 + m) (N.1 603 8), ⟨g1.nam (by omega), ?_, ?_, ?_, fun i hi => ?_, ?_, fun i a b => ?_⟩, fun Q H => ?_⟩
              · rw [nb_wr_b (by decide)]; exact g2
              · rw [nb_wr_b (by decide)]; exact g3
              · rw [nb_wr_b (by decide)]; exact g4
              · rw [nb_wr_1, if_neg (by omega)]; exact g5 i (by omega)
              · rw [nb_wr_1, if_pos ⟨rfl, rfl⟩]
              · rw [nb_wr_1, if_neg (by omega)]; exact g6 i b
              · refine w_m_newName_10 g1.1 ?_
                rw [g2, g4, nb_add_eq (x := (185 : Int)) (by omega) (by omega)]
                exact ⟨fun z => absurd z (by omega), fun _ => ⟨by omega, by omega, H⟩⟩
            | succ f ih =>
              intro q Nw hq g1 g2 g3 g4 g5 g6
              obtain ⟨Nz, z1, z2⟩ := ih (q + 1) (nb_wr Nw 607 (203 + 8 * m + q) (N.1 605 q)) (by omega) (g1.nam (by omega)) (by rw [nb_wr_b (by decide)]; exact g2) (by rw [nb_wr_b (by decide)]; exact g3) (by rw [nb_wr_b (by decide)]; exact g4) (fun i hi => by
                rw [nb_wr_1]
                by_cases c : i = q
                · subst c
                  rw [if_pos ⟨rfl, rfl⟩]
                · rw [if_neg (by omega)]
                  exact g5 i (by omega)) (fun i a => by
                rw [nb_wr_1, if_neg (by omega)]
                exact g6 i a)
              refine ⟨Nz, z1, fun Q H => ?_⟩
              refine w_m_newName_10 g1.1 ?_
              rw [g2, g4, nb_mul_eq (x := (8 : Int)) (by omega) (by omega), nb_add_eq (x := (203 : Int)) (by omega) (by omega), nb_add_eq (x := 203 + 8 * m) (by omega) (by omega), nb_add_eq (x := (q : Int)) (by omega) (by omega)]
              have g := z2 Q H
              rw [show ((q + 1 : Nat) : Int) = (q : Int) + 1 by omega] at g
              exact ⟨fun _ => ⟨by omega, by omega, by omega, by omega, g⟩, fun z => absurd z (by omega)⟩
          obtain ⟨Nw, ⟨g1, g2, g3, g4, g5, g6, g7⟩, g8⟩ := key
          exact ⟨Nw, g1, g2, g4, l10.more hm hc rt.1 rt.2.1 rt.2.2 no w5 w1 w2 w3 g5 g6 g7, fun N1 WN1 hN1 => g8 _ (nb_Wp hN1 ⟨rfl, WN1, fun _ => ⟨rfl, rfl⟩⟩)⟩
        obtain ⟨Nw, g1, g2, g4, gN, gR⟩ := ref
        obtain ⟨M1, N1, s1, s2, s3, s4, s5⟩ := go Nw g1 g2 g4 gN
        refine ⟨M1, N1, nb_Wq (w_rd_tellName_0 W hSo h764 ⟨fun _ => nb_Wp x1 ⟨x, rfl, W, h764, fun _ => ⟨fun _ => ⟨fun _ => ⟨by omega, ?_⟩, fun z => absurd z (by omega)⟩, fun z => absurd l1 z⟩, fun z => absurd z (by omega)⟩, fun z => absurd k1 z⟩), nb_Wq (w_m_newName_0 WN ⟨fun _ => nb_Wp mn1 ⟨rfl, WN, fun _ => nb_Wp y1 ⟨y, rfl, WN, fun _ => ⟨fun _ => gR N1 s5.1 s2, fun z => absurd l2 z⟩, fun z => absurd z (by omega)⟩, fun z => absurd l2 z⟩, fun z => absurd l2 z⟩), s3, s4, s5, fun _ => l1⟩
        rw [nc, nb_add_eq (by omega) (by omega), hMw]
        exact nb_Wp s1 ⟨rfl, s4.1, s4.2.2.2.trans h764, fun _ => ⟨rfl, rfl⟩⟩
      · obtain ⟨M1, N1, b1, b2, b3, b4, b5, b6⟩ := bad 3 (by decide)
        exact ⟨M1, N1, nb_Wq (w_rd_tellName_0 W hSo h764 ⟨fun _ => nb_Wp x1 ⟨x, rfl, W, h764, fun z => absurd z (by omega), fun _ => b1⟩, fun z => absurd k1 z⟩), nb_Wq (w_m_newName_0 WN ⟨fun _ => nb_Wp mn1 ⟨rfl, WN, fun _ => nb_Wp y1 ⟨y, rfl, WN, fun z => absurd z (by omega), fun _ => nb_Wp b2 ⟨rfl, b5.1, fun z => absurd z b6, fun _ _ => ⟨rfl, rfl⟩⟩⟩, fun z => absurd l2 z⟩, fun z => absurd l2 z⟩), b3, b4, b5, fun _ => l1⟩
    · obtain ⟨M1, N1, b1, b2, b3, b4, b5, b6⟩ := bad 1 (by decide)
      exact ⟨M1, N1, nb_Wq (w_rd_tellName_0 W hSo h764 ⟨fun z => absurd z k1, fun _ => b1⟩), nb_Wq (w_m_newName_0 WN ⟨fun _ => nb_Wp (mn.2 k1 N1 b2 b5.1) ⟨rfl, b5.1, fun z => absurd z b6, fun _ _ => ⟨rfl, rfl⟩⟩, fun z => absurd l2 z⟩), b3, b4, b5, fun _ => l1⟩
  · have f1 : N.1 603 13 ≠ 0 := by have := hD.2.1; omega
    obtain ⟨x, x1, x2⟩ := sp_rd_find (v1 := (98, 0)) W hSo h764 h5
    have st := dd_step W hSo h764 hD.1
    have end1 : nb_W 225 0 [(13, 76)] [] M (fun r M28 => r = [] ∧ nb_Lay M28 ∧ M28.1 76 4 = So ∧ (nb_Lay M28 → ([] : List nb_V) = [] ∧ M28 = M)) := nb_Wp st ⟨rfl, W, h764, fun _ => ⟨rfl, rfl⟩⟩
    exact ⟨M, N, nb_Wq (w_rd_tellName_0 W hSo h764 ⟨fun _ => nb_Wp x1 ⟨x, rfl, W, h764, fun _ => ⟨fun z => absurd z hD.1, fun _ => end1⟩, fun _ => nb_Wp (dd_fail W hSo h764 hD.1) ⟨rfl, W, h764, end1⟩⟩, fun _ => nb_Wp (dd_fail W hSo h764 hD.1) ⟨rfl, W, h764, end1⟩⟩), nb_Wq (w_m_newName_0 WN ⟨fun z => absurd z f1, fun _ _ => ⟨rfl, rfl⟩⟩), ⟨hB, Or.inr hD⟩, pu_cf.id W, pu_mf.id WN, fun z => absurd z hD.1⟩
