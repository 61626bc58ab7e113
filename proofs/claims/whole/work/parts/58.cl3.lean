/-! CONTRACT: the class begins with someone -/
/-- what a scene keeps of the past -/
def pu_Gx (g pe R : Int → Int) (np p : Int) : Prop := (R (12 + 8 * p) = 2 → g 11 = R (12 + 8 * p + 4)) ∧ (R (12 + 8 * p) = 3 ∨ R (12 + 8 * p) = 4 → g 11 = R (12 + 8 * p + 7)) ∧ g 13 = pu_pa pe R p ∧ g 14 = pu_pu pe R np p
def pu_X (M : nb_M) (A np : Int) (pe R : Int → Int) : Prop := ∀ p, 0 ≤ p → p < np → pu_Gx (M.1 (A + 4 + p)) pe R np p
/-- the memory as a beginning leaves it, ahead of notePassed -/
def pu_ch (M : nb_M) (A s hd u t D P L : Int) : nb_M := nb_wr (nb_wr (nb_wr (nb_wr (nb_wr (nb_wr (nb_wr (nb_wr (nb_wr (nb_wr M (A + 4 + u) 8 2) (A + 4 + u) 9 t) (A + 4 + u) 11 t) (A + 4 + u) 12 s) (A + 4 + u) 10 D) (A + 14 + 2 * s) 2 P) (A + 14 + 2 * s) 7 u) ((A + 14 + 2 * s) + 1) hd D) (A + 3) L u) A 6 (L + 1)
theorem pu_ch_rows {M : nb_M} {A s hd u t D P L : Int} (hs : 0 ≤ s ∧ s ≤ 3) (hu : 0 ≤ u ∧ u ≤ 9) : (pu_ch M A s hd u t D P L).1 (A + 4 + u) = nb_ud (nb_ud (nb_ud (nb_ud (nb_ud (M.1 (A + 4 + u)) 8 2) 9 t) 11 t) 12 s) 10 D ∧ (pu_ch M A s hd u t D P L).1 (A + 14 + 2 * s) = nb_ud (nb_ud (M.1 (A + 14 + 2 * s)) 2 P) 7 u ∧ (pu_ch M A s hd u t D P L).1 (A + 14 + 2 * s + 1) = nb_ud (M.1 (A + 14 + 2 * s + 1)) hd D ∧ (pu_ch M A s hd u t D P L).1 (A + 3) = nb_ud (M.1 (A + 3)) L u ∧ (pu_ch M A s hd u t D P L).1 A = nb_ud (M.1 A) 6 (L + 1) ∧ ∀ a, a ≠ A → a ≠ A + 3 → a ≠ A + 4 + u → a ≠ A + 14 + 2 * s → a ≠ A + 14 + 2 * s + 1 → (pu_ch M A s hd u t D P L).1 a = M.1 a := by
  refine ⟨?_, ?_, ?_, ?_, ?_, fun a h1 h2 h3 h4 h5 => ?_⟩
  · unfold pu_ch
    rw [nb_wr_b (by omega), nb_wr_b (by omega), nb_wr_b (by omega), nb_wr_b (by omega), nb_wr_b (by omega), nb_wr_a, nb_wr_a, nb_wr_a, nb_wr_a, nb_wr_a]
  · unfold pu_ch
    rw [nb_wr_b (by omega), nb_wr_b (by omega), nb_wr_b (by omega), nb_wr_a, nb_wr_a, nb_wr_b (by omega), nb_wr_b (by omega), nb_wr_b (by omega), nb_wr_b (by omega), nb_wr_b (by omega)]
  · unfold pu_ch
    rw [nb_wr_b (by omega), nb_wr_b (by omega), nb_wr_a, nb_wr_b (by omega), nb_wr_b (by omega), nb_wr_b (by omega), nb_wr_b (by omega), nb_wr_b (by omega), nb_wr_b (by omega), nb_wr_b (by omega)]
  · unfold pu_ch
    rw [nb_wr_b (by omega), nb_wr_a, nb_wr_b (by omega), nb_wr_b (by omega), nb_wr_b (by omega), nb_wr_b (by omega), nb_wr_b (by omega), nb_wr_b (by omega), nb_wr_b (by omega), nb_wr_b (by omega)]
  · unfold pu_ch
    rw [nb_wr_a, nb_wr_b (by omega), nb_wr_b (by omega), nb_wr_b (by omega), nb_wr_b (by omega), nb_wr_b (by omega), nb_wr_b (by omega), nb_wr_b (by omega), nb_wr_b (by omega), nb_wr_b (by omega)]
  · unfold pu_ch
    rw [nb_wr_b h1, nb_wr_b h2, nb_wr_b h5, nb_wr_b h4, nb_wr_b h4, nb_wr_b h3, nb_wr_b h3, nb_wr_b h3, nb_wr_b h3, nb_wr_b h3]
theorem pu_ch_lay {M : nb_M} {A s hd u t D P L : Int} (W : nb_Lay M) (hA : nb_sc A) (hs : 0 ≤ s ∧ s ≤ 3) (hu : 0 ≤ u ∧ u ≤ 9) : nb_Lay (pu_ch M A s hd u t D P L) := by
  have g : ∀ j w, ¬ nb_rf (A + 4 + u) j w := fun j w => nb_nsg hA (by omega) (by omega)
  unfold pu_ch
  exact (((((((((W.wr (fun w => g 8 w)).wr (fun w => g 9 w)).wr (fun w => g 11 w)).wr (fun w => g 12 w)).wr (fun w => g 10 w)).wr (fun w => nb_nsv hA (by omega) (by omega) (by decide))).wr (fun w => nb_nsv hA (by omega) (by omega) (by decide))).wr (fun w => nb_nsf hA (by omega) (by omega))).wr (fun w => nb_nsr hA)).wr (fun w => nb_nss hA (by decide))
/-- how the staff's cells stand behind a beginning -/
theorem pu_bg_crew {r cr R : Int → Int} {t s h u : Int} (hs : 0 ≤ s ∧ s ≤ 3) (hh : 1 ≤ h ∧ h ≤ 2) (hu : 0 ≤ u ∧ u ≤ 9) (h1 : 0 ≤ R 1 ∧ R 1 ≤ 9) : (pu_bg r cr t s h u R (92 + 4 * s) = R (12 + 8 * u + 1) ∧ pu_bg r cr t s h u R (92 + 4 * s + h) = pu_dn r cr R t s u ∧ pu_bg r cr t s h u R (92 + 4 * s + (3 - h)) = R (92 + 4 * s + (3 - h)) ∧ pu_bg r cr t s h u R (92 + 4 * s + 3) = u + 1) ∧ ∀ q j, 0 ≤ q → q ≤ 3 → q ≠ s → 0 ≤ j → j < 4 → pu_bg r cr t s h u R (92 + 4 * q + j) = R (92 + 4 * q + j) := by
  refine ⟨⟨?_, ?_, ?_, ?_⟩, fun q j a b c d e => ?_⟩
  all_goals unfold pu_bg
  all_goals unfold nb_ud
  all_goals (repeat' split) <;> first | rfl | omega
theorem pu_ch_S {M : nb_M} {A np ns s hd u t : Int} {r cr pe R : Int → Int} (hns : ns ≤ 4) (hs : 0 ≤ s ∧ s < ns) (hh : 0 ≤ hd ∧ hd ≤ 1) (hu : 0 ≤ u ∧ u < np) (hnp : np ≤ 10) (h1 : 0 ≤ R 1 ∧ R 1 ≤ 9) (hS : pu_S M A np ns cr pe R) : pu_S (pu_ch M A s hd u t (pu_dn r cr R t s u) (R (12 + 8 * u + 1)) (R 1)) A np ns cr pe (pu_bg r cr t s (hd + 1) u R) := by
  obtain ⟨h4, h5, h6, h7, hG, hV⟩ := hS
  obtain ⟨r1, r2, r3, r4, r5, r6⟩ := pu_ch_rows (M := M) (A := A) (hd := hd) (t := t) (D := pu_dn r cr R t s u) (P := R (12 + 8 * u + 1)) (L := R 1) (s := s) (u := u) (by omega) (by omega)
  obtain ⟨w1, w2, w3⟩ := pu_bg_who (r := r) (cr := cr) (R := R) (t := t) (s := s) (h := hd + 1) (u := u) (by omega) (by omega) (by omega) h1
  obtain ⟨m1, m2⟩ := pu_bg_man (r := r) (cr := cr) (R := R) (t := t) (s := s) (h := hd + 1) (u := u) (by omega) (by omega) (by omega) h1
  obtain ⟨c1, c2⟩ := pu_bg_crew (r := r) (cr := cr) (R := R) (t := t) (s := s) (h := hd + 1) (u := u) (by omega) (by omega) (by omega) h1
  refine ⟨?_, ?_, ?_, fun k k0 k1 => ?_, fun p p0 p1 => ?_, fun q q0 q1 => ?_⟩
  · rw [r5, nb_ud_other (by decide)]; exact h4
  · rw [r5, nb_ud_other (by decide)]; exact h5
  · rw [r5, nb_ud_same, w1]
  · rw [r4]
    by_cases e : k = R 1
    · rw [e, nb_ud_same, w2]
    · rw [nb_ud_other e, w3 k k0 (by omega)]
      exact h7 k k0 (by omega)
  · have g := hG p p0 p1
    by_cases e : p = u
    · subst e
      obtain ⟨g0, g2, g3, g4, g5, g6, g7, g8, g9, g10, g12⟩ := g
      obtain ⟨n0, n1, n2, n3, n4, n5, n6, n7⟩ := m1
      unfold pu_G
      rw [r1, n0, n1, n2, n3, n4, n5, n6]
      refine ⟨g0, g2, g3, g4, g5, g6, g7, rfl, rfl, rfl, rfl⟩
    · rw [r6 _ (by omega) (by omega) (by omega) (by omega) (by omega)]
      have m0 := m2 p 0 p0 (by omega) e (by omega) (by omega)
      rw [Int.add_zero] at m0
      unfold pu_G
      rw [m0, m2 p 1 p0 (by omega) e (by omega) (by omega), m2 p 2 p0 (by omega) e (by omega) (by omega), m2 p 3 p0 (by omega) e (by omega) (by omega), m2 p 4 p0 (by omega) e (by omega) (by omega), m2 p 5 p0 (by omega) e (by omega) (by omega), m2 p 6 p0 (by omega) e (by omega) (by omega)]
      exact g
  · have v := hV q q0 q1
    by_cases e : q = s
    · subst e
      obtain ⟨v1, v2, v3, v4, v5, v6, v7, f0, f1⟩ := v
      obtain ⟨n0, n1, n2, n3⟩ := c1
      unfold pu_V
      rw [r2, r3, n0, n3]
      have hd01 : hd = 0 ∨ hd = 1 := by omega
      refine ⟨v1, rfl, v3, v4, v5, v6, ?_, ?_, ?_⟩
      · rw [nb_ud_same]
        omega
      · rcases hd01 with rfl | rfl
        · exact n1.symm
        · rw [nb_ud_other (by decide), f0]
          exact n2.symm
      · rcases hd01 with rfl | rfl
        · rw [nb_ud_other (by decide), f1]
          exact n2.symm
        · exact n1.symm
    · rw [r6 _ (by omega) (by omega) (by omega) (by omega) (by omega), r6 _ (by omega) (by omega) (by omega) (by omega) (by omega)]
      have m0 := c2 q 0 q0 (by omega) e (by omega) (by omega)
      rw [Int.add_zero] at m0
      unfold pu_V
      rw [m0, c2 q 1 q0 (by omega) e (by omega) (by omega), c2 q 2 q0 (by omega) e (by omega) (by omega), c2 q 3 q0 (by omega) e (by omega) (by omega)]
      exact v
theorem sp_sc_begin {M : nb_M} {A Ho np ns s hd u t : Int} {r cr pe R : Int → Int} {v5 v6 v7 : nb_V} (W : nb_Lay M) (hA : nb_sc A) (hHo : nb_hs Ho) (hAh : M.1 A 3 = Ho) (hr : pu_Rr r) (hh : pu_Ho M Ho r) (hc : pu_Rc cr) (hR : pu_Rw R) (hnp : np = r 5) (hns : ns ≤ 4) (hs : 0 ≤ s ∧ s < ns) (hd1 : 0 ≤ hd ∧ hd ≤ 1) (ht : t ≤ 9999) (hS : pu_S M A np ns cr pe R) (hX : pu_X M A np pe R) (c : pu_bgc r cr pe R np t s (hd + 1) u) (hl : R (92 + 4 * s + 3) ≤ np) (hpc : ∀ p, 0 ≤ p → p < np → pe (7 * p + 2) = r (41 + 7 * p + 2)) : nb_W 263 0 [(15, A), (0, s), (0, hd), (0, u), (0, t), v5, v6, v7] [] M (fun r' M' => r' = [] ∧ nb_Lay M' ∧ M'.2 = M.2 ∧ (∀ a i, a < A ∨ A + 22 ≤ a ∨ (a = A ∧ i ≠ 6) → M'.1 a i = M.1 a i) ∧ pu_S M' A np ns cr pe (pu_bg r cr t s (hd + 1) u R) ∧ pu_X M' A np pe (pu_bg r cr t s (hd + 1) u R)) := by
  have c' := c
  obtain ⟨-, hh1, hu, hnp2, h1, hw, ht0, -, -⟩ := c'
  have hS' := hS
  obtain ⟨h4, h5, h6, h7, hG, hV⟩ := hS'
  obtain ⟨g0, g2, g3, g4, g5, g6, g7, g8, g9, g10, g12⟩ := hG u hu.1 hu.2
  obtain ⟨v1, v2, v3, v4, v5', v6', v7', f0, f1⟩ := hV s hs.1 hs.2
  have q1 := hR.1 u hu.1 (by omega)
  have q2 := hR.2.1 s hs.1 (by omega)
  have q3 := (hc s hs.1 (by omega)).2.1
  have hf := pu_far_rg q2.1 q1.2.1
  have hm := pu_mul q3 hf
  have hb := pu_tb_rg hr (p := u) (by omega) (last := R (92 + 4 * s + 3) - 1)
  have he : (if 0 ≤ R (12 + 8 * u + 1) - R (92 + 4 * s) then R (12 + 8 * u + 1) - R (92 + 4 * s) else -(R (12 + 8 * u + 1) - R (92 + 4 * s))) = pu_far (R (92 + 4 * s)) (R (12 + 8 * u + 1)) := by
    unfold pu_far
    split <;> split <;> omega
  have hAu := hA
  have hHu := hHo
  unfold nb_sc at hAu
  unfold nb_hs at hHu
  refine w_sc_begin_0 W hA hHo hAh hr hh (by omega) hd1 (by omega) (by omega) ?_
  rw [v5', g3, v2, v7', h6, he]
  refine ⟨by omega, by omega, by omega, by omega, by omega, by omega, by omega, by omega, by omega, by omega, by omega, by omega, by omega, by omega, by omega, by omega, by omega, by omega, by omega, by omega, ?_⟩
  show nb_W 264 0 [(15, A), (0, u), (98, 0)] [] (pu_ch M A s hd u t (pu_dn r cr R t s u) (R (12 + 8 * u + 1)) (R 1)) _
  obtain ⟨r1, r2, r3, r4, r5, r6⟩ := pu_ch_rows (M := M) (A := A) (hd := hd) (t := t) (D := pu_dn r cr R t s u) (P := R (12 + 8 * u + 1)) (L := R 1) (s := s) (u := u) (by omega) (by omega)
  obtain ⟨m1, m2⟩ := pu_bg_man (r := r) (cr := cr) (R := R) (t := t) (s := s) (h := hd + 1) (u := u) (by omega) (by omega) (by omega) h1
  have hSc := pu_ch_S (r := r) (t := t) hns hs hd1 hu hnp2 h1 hS
  have hpa := fun q hq => pu_bg_pa (q := q) c hq
  have hpu := pu_bg_pu c
  have hLc := pu_ch_lay (hd := hd) (t := t) (D := pu_dn r cr R t s u) (P := R (12 + 8 * u + 1)) (L := R 1) W hA (s := s) (u := u) (by omega) (by omega)
  have hN2 : (pu_ch M A s hd u t (pu_dn r cr R t s u) (R (12 + 8 * u + 1)) (R 1)).2 = M.2 := rfl
  generalize pu_ch M A s hd u t (pu_dn r cr R t s u) (R (12 + 8 * u + 1)) (R 1) = N at *
  refine nb_W.imp (sp_sc_notePassed (np := np) (ns := ns) (u := u) (cr := cr) (pe := pe) (R := pu_bg r cr t s (hd + 1) u R) (r := r) hLc hA hHo (by rw [r5, nb_ud_other (by decide)]; exact hAh) (by omega) hu (by omega) hSc (fun p p0 p1 => by
    rw [r6 _ (by omega) (by omega) (by omega) (by omega) (by omega), hpc p p0 p1]
    exact (hh.2.2.2.2.1 p p0 (by omega)).1.2.2.1)) ?_
  rintro r' M' ⟨rfl, e2, e3, e4, e5, e6⟩
  have hL' : nb_Lay M' := hLc.mono (by rw [e2]) (fun a i w q => e3 a i (by
    by_cases h13 : i = 13 ∨ i = 14
    · by_cases ha : a < A + 4 ∨ A + 14 ≤ a
      · omega
      · exact absurd q (by
          have := nb_nsg (A := A) (i := a - A - 4) (j := i) (w := w) hA (by omega) (by omega)
          rw [show A + 4 + (a - A - 4) = a by omega] at this
          exact this)
    · omega))
  have hfr : ∀ a i, a < A ∨ A + 22 ≤ a ∨ (a = A ∧ i ≠ 6) → M'.1 a i = M.1 a i := fun a i h => by
    rw [e3 a i (by omega)]
    by_cases e : a = A
    · subst e
      rw [r5, nb_ud_other (by omega)]
    · rw [r6 a e (by omega) (by omega) (by omega) (by omega)]
  obtain ⟨k4, k5, k6, k7, kG, kV⟩ := hSc
  refine ⟨rfl, hL', ?_, rfl, hL', ?_, hfr, ⟨?_, ?_, ?_, fun k a b => ?_, fun p a b => ?_, fun q a b => ?_⟩, fun p a b => ?_⟩
  · rw [hfr A 3 (by omega)]; exact hAh
  · rw [e2]; exact hN2
  · rw [e3 _ _ (by omega)]; exact k4
  · rw [e3 _ _ (by omega)]; exact k5
  · rw [e3 _ _ (by omega)]; exact k6
  · rw [e3 _ _ (by omega)]; exact k7 k a b
  · have := kG p a b
    unfold pu_G at *
    rw [e3 _ 0 (by omega), e3 _ 2 (by omega), e3 _ 3 (by omega), e3 _ 4 (by omega), e3 _ 5 (by omega), e3 _ 6 (by omega), e3 _ 7 (by omega), e3 _ 8 (by omega), e3 _ 9 (by omega), e3 _ 10 (by omega), e3 _ 12 (by omega)]
    exact this
  · have := kV q a b
    rw [show M'.1 (A + 14 + 2 * q) = N.1 (A + 14 + 2 * q) from funext fun i => e3 _ i (by omega), show M'.1 (A + 14 + 2 * q + 1) = N.1 (A + 14 + 2 * q + 1) from funext fun i => e3 _ i (by omega)]
    exact this
  · obtain ⟨x1, x2, x3, x4⟩ := hX p a b
    obtain ⟨n0, n1, n2, n3, n4, n5, n6, n7⟩ := m1
    by_cases e : p = u
    · subst e
      have e11 : M'.1 (A + 4 + p) 11 = t := by rw [e3 _ 11 (by omega), r1]; rfl
      have e13 : N.1 (A + 4 + p) 13 = M.1 (A + 4 + p) 13 := by rw [r1]; rfl
      have e14 : N.1 (A + 4 + p) 14 = M.1 (A + 4 + p) 14 := by rw [r1]; rfl
      refine ⟨fun _ => e11.trans n4.symm, fun z => by omega, ?_, ?_⟩
      · rw [e4 p a b, hpa p ⟨a, b⟩, e13, x3]
      · rw [e6, hpu.1, e14, x4]
        have hbg := (c.2.2.2.2.2.2.2.1.1 p a b).2.1 hw
        rw [show pu_pu pe R np p = 0 from if_pos hbg.2.1]
    · have hrow := r6 (A + 4 + p) (by omega) (by omega) (by omega) (by omega) (by omega)
      have m0 := m2 p 0 a (by omega) e (by omega) (by omega)
      rw [Int.add_zero] at m0
      refine ⟨fun z => ?_, fun z => ?_, ?_, ?_⟩
      · rw [e3 _ 11 (by omega), hrow, m2 p 4 a (by omega) e (by omega) (by omega)]
        exact x1 (m0 ▸ z)
      · rw [e3 _ 11 (by omega), hrow, m2 p 7 a (by omega) e (by omega) (by omega)]
        exact x2 (m0 ▸ z)
      · rw [e4 p a b, hpa p ⟨a, b⟩, hrow, x3]
      · rw [e5 p e, hrow, x4, hpu.2 p a b e]
