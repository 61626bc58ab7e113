/-! CALL: house -/
/-- the reference's head of the call -/
def pu_h5 (M : nb_M) : nb_M := nb_wr (nb_wr (nb_wr (nb_wr (nb_wr M 603 0 0) 603 11 0) 603 2 0) 603 9 0) 603 13 0
theorem pu_h5_603 {M : nb_M} (i : Int) : (pu_h5 M).1 603 i = if i = 13 then 0 else if i = 9 then 0 else if i = 2 then 0 else if i = 11 then 0 else if i = 0 then 0 else M.1 603 i := by
  unfold pu_h5
  simp [nb_wr_1]
theorem pu_h5_b {M : nb_M} {a : Int} (h : a ≠ 603) : (pu_h5 M).1 a = M.1 a := by
  unfold pu_h5
  rw [nb_wr_b h, nb_wr_b h, nb_wr_b h, nb_wr_b h, nb_wr_b h]
theorem pu_h5_lay {M : nb_M} (W : nb_Lay M) : nb_Lay (pu_h5 M) := ((((W.wr (fun w => nb_nlit (by decide) (by decide))).wr (fun w => nb_nlit (by decide) (by decide))).wr (fun w => nb_nlit (by decide) (by decide))).wr (fun w => nb_nlit (by decide) (by decide))).wr (fun w => nb_nlit (by decide) (by decide))
/-- both readers, for whatever the class leaves -/
theorem rl_both {Mp : nb_M} {So n : Int} {tx : Int → Int} (W : nb_Lay Mp) (hSo : nb_hs So) (hb : pu_by Mp tx n) (hn : 0 ≤ n ∧ n ≤ 1000) (gk : ∀ a, So + 20 ≤ a → a < So + 30 → pu_gk (Mp.1 a)) (n604 : Mp.1 604 = tx) : ∃ (x : Int) (Ma : nb_M), nb_R nb_P 224 0 [(13, 76), (4, 3), (0, n), (12, So), (98, 0)] [] Mp = some ([(0, x)], Ma) ∧ (nb_Lay Ma ∧ Ma.2 = Mp.2 ∧ (∀ a, (a < 76 ∨ 84 ≤ a) → (a < So ∨ So + 36 ≤ a) → Ma.1 a = Mp.1 a) ∧ ∀ a i, So + 20 ≤ a → a < So + 30 → 8 ≤ i → Ma.1 a i = Mp.1 a i) ∧ ∀ M1, nb_Lay M1 → M1.1 604 = tx → ∃ N1, (∀ Q, nb_W 105 30 [(20, 603), (0, n), (0, 347)] [] N1 Q → nb_W 105 9 [(20, 603), (0, n), (0, 0)] [] (pu_h5 M1) Q) ∧ (nb_Lay N1 ∧ N1.2 = M1.2 ∧ (∀ a, a ≠ 603 → a ≠ 605 → a ≠ 607 → N1.1 a = M1.1 a) ∧ ∀ i, (i < 3 ∨ i = 11 ∨ i = 12 ∨ 13 < i) → N1.1 603 i = (pu_h5 M1).1 603 i) ∧ pu_ph N1 ∧ pu_RE So Ma N1 x := by
  have all : ∀ M1, nb_Lay M1 → M1.1 604 = tx → ∃ x Ma N1, nb_R nb_P 224 0 [(13, 76), (4, 3), (0, n), (12, So), (98, 0)] [] Mp = some ([(0, x)], Ma) ∧ (∀ Q, nb_W 105 30 [(20, 603), (0, n), (0, 347)] [] N1 Q → nb_W 105 9 [(20, 603), (0, n), (0, 0)] [] (pu_h5 M1) Q) ∧ (nb_Lay Ma ∧ Ma.2 = Mp.2 ∧ (∀ a, (a < 76 ∨ 84 ≤ a) → (a < So ∨ So + 36 ≤ a) → Ma.1 a = Mp.1 a) ∧ ∀ a i, So + 20 ≤ a → a < So + 30 → 8 ≤ i → Ma.1 a i = Mp.1 a i) ∧ (nb_Lay N1 ∧ N1.2 = (pu_h5 M1).2 ∧ (∀ a, a ≠ 603 → a ≠ 605 → a ≠ 607 → N1.1 a = (pu_h5 M1).1 a) ∧ ∀ i, (i < 3 ∨ i = 11 ∨ i = 12 ∨ 13 < i) → N1.1 603 i = (pu_h5 M1).1 603 i) ∧ pu_ph N1 ∧ pu_RE So Ma N1 x := fun M1 W1 h1 =>
    rl_reads W (pu_h5_lay W1) hSo hb hn gk ((pu_h5_b (by decide)).trans h1) (by rw [pu_h5_603]; rfl) (by rw [pu_h5_603]; rfl)
  obtain ⟨x, Ma, N0, e1, -, f1, -⟩ := all Mp W n604
  refine ⟨x, Ma, e1, f1, fun M1 W1 h1 => ?_⟩
  obtain ⟨x', Ma', N1, g1, g2, g3, ⟨g4, g5, g6, g7⟩, g8, g9⟩ := all M1 W1 h1
  have e := e1.symm.trans g1
  injection e with e
  injection e with ea eb
  injection ea with ea _
  injection ea with _ ea
  subst ea eb
  exact ⟨N1, g2, ⟨g4, g5, fun a a0 a1 a2 => (g6 a a0 a1 a2).trans (pu_h5_b a0), g7⟩, g8, g9⟩
/-- the invariant behind a fault -/
theorem pu_I_fault {M Ma M1 N1 : nb_M} {k Ho So : Int} (hI : pu_I M k) (k0 : 0 ≤ k) (hx2 : M.1 2 2 = Ho) (hx3 : M.1 2 3 = So) (hs : (Ho = 4 ∧ So = 40) ∨ (Ho = 40 ∧ So = 4)) (fa : nb_Lay Ma ∧ Ma.2 = M.2 ∧ (∀ a, a ≠ 2 → (a < 76 ∨ 84 ≤ a) → (a < So ∨ So + 36 ≤ a) → Ma.1 a = M.1 a) ∧ (∀ i, i ≠ 1 → i ≠ 15 → Ma.1 2 i = M.1 2 i) ∧ Ma.1 2 1 = 0) (fg : ∀ a i, So + 20 ≤ a → a < So + 30 → 8 ≤ i → Ma.1 a i = M.1 a i) (e1 : M1 = nb_wr (nb_wr (nb_wr Ma 2 16 (Ma.1 76 9)) 2 17 (Ma.1 76 10)) 2 15 4) (hN : nb_Lay N1 ∧ N1.2 = M1.2 ∧ (∀ a, a ≠ 603 → a ≠ 605 → a ≠ 607 → N1.1 a = M1.1 a) ∧ ∀ i, (i < 3 ∨ i = 11 ∨ i = 12 ∨ 13 < i) → N1.1 603 i = (pu_h5 M1).1 603 i) (hD : pu_Dd Ma N1) (hL : nb_Lay (nb_wr N1 603 11 4)) : pu_I (nb_wr N1 603 11 4) (k + 1) ∧ (nb_wr N1 603 11 4).2 = M.2 := by
  obtain ⟨-, ⟨t1, t2, t3, t4, t5⟩, ⟨i1, i2, i3⟩, ⟨Ho', So', ⟨s1, s2, s3, s4, s5⟩, ⟨u1, u2, u3, u4⟩, ⟨m1, m2, m3⟩⟩, ⟨r1, r2, r3⟩, i7⟩ := hI
  have eH : Ho' = Ho := s2.symm.trans hx2
  have eS : So' = So := s3.symm.trans hx3
  subst eH eS
  obtain ⟨fa1, fa2, fa3, fa4, fa5⟩ := fa
  obtain ⟨n1, n2, n3, n4⟩ := hN
  have b1 : ∀ a, a ≠ 2 → M1.1 a = Ma.1 a := fun a h => by rw [e1, nb_wr_b h, nb_wr_b h, nb_wr_b h]
  have c1 : ∀ i, M1.1 2 i = if i = 15 then 4 else if i = 17 then Ma.1 76 10 else if i = 16 then Ma.1 76 9 else Ma.1 2 i := fun i => by rw [e1]; simp [nb_wr_1]
  have bN : ∀ a, a ≠ 603 → a ≠ 605 → a ≠ 607 → (nb_wr N1 603 11 4).1 a = M1.1 a := fun a h x y => by rw [nb_wr_b h]; exact n3 a h x y
  have bA : ∀ a, a ≠ 2 → a ≠ 603 → a ≠ 605 → a ≠ 607 → (a < 76 ∨ 84 ≤ a) → (a < So' ∨ So' + 36 ≤ a) → (nb_wr N1 603 11 4).1 a = M.1 a := fun a h x y z v w => by rw [bN a x y z, b1 a h]; exact fa3 a h v w
  have c2 : ∀ i, i ≠ 1 → i ≠ 15 → i ≠ 16 → i ≠ 17 → (nb_wr N1 603 11 4).1 2 i = M.1 2 i := fun i x y z w => by rw [bN 2 (by decide) (by decide) (by decide), c1, if_neg y, if_neg w, if_neg z]; exact fa4 i x y
  have c603 : ∀ i, i ≠ 11 → (i < 3 ∨ i = 12 ∨ 13 < i) → (nb_wr N1 603 11 4).1 603 i = (pu_h5 M1).1 603 i := fun i x y => by rw [nb_wr_1, if_neg (by omega)]; exact n4 i (by omega)
  have d603 : ∀ i, 13 < i → (nb_wr N1 603 11 4).1 603 i = M.1 603 i := fun i x => by
    rw [c603 i (by omega) (by omega), pu_h5_603, if_neg (by omega), if_neg (by omega), if_neg (by omega), if_neg (by omega), if_neg (by omega), b1 603 (by decide), fa3 603 (by decide) (by omega) (by omega)]
  have f2 : (nb_wr N1 603 11 4).1 603 2 = 0 := by rw [c603 2 (by decide) (by decide), pu_h5_603]; rfl
  have e606 := bA 606 (by decide) (by decide) (by decide) (by decide) (by decide) (by omega)
  have e608 := bA 608 (by decide) (by decide) (by decide) (by decide) (by decide) (by omega)
  have e610 := bA 610 (by decide) (by decide) (by decide) (by decide) (by decide) (by omega)
  have e611 := bA 611 (by decide) (by decide) (by decide) (by decide) (by decide) (by omega)
  have e612 := bA 612 (by decide) (by decide) (by decide) (by decide) (by decide) (by omega)
  have g21 := d603 21 (by decide)
  have g22 := d603 22 (by decide)
  have g14 := d603 14 (by decide)
  have f11 : (nb_wr N1 603 11 4).1 603 11 = 4 := by rw [nb_wr_1, if_pos ⟨rfl, rfl⟩]
  generalize hM2 : nb_wr N1 603 11 4 = M2 at *
  refine ⟨⟨hL, ⟨by omega, ?_, fun i a b => absurd b (by omega), fun i a b => ?_, fun a ha => ?_⟩, ⟨?_, ?_, ?_⟩, ⟨Ho', So', ⟨s1, ?_, ?_, ?_, ?_⟩, ⟨?_, ?_, ?_, ?_⟩, ⟨?_, ?_, ?_⟩⟩, ⟨?_, ?_, ?_⟩, ?_⟩, ?_⟩
  · rw [f2, bN 2 (by decide) (by decide) (by decide), c1, if_neg (by decide), if_neg (by decide), if_neg (by decide)]; exact fa5
  · rw [bA 141 (by decide) (by decide) (by decide) (by decide) (by decide) (by omega)]; exact t4 i a b
  · by_cases c : So' + 20 ≤ a ∧ a < So' + 30
    · refine (t5 a ha).of (fun i hi => ?_)
      rw [bN a (by omega) (by omega) (by omega), b1 a (by omega)]
      exact fg a i c.1 c.2 hi
    · rw [bA a (by omega) (by omega) (by omega) (by omega) (by omega) (by omega)]; exact t5 a ha
  · rw [e606]; exact i1
  · rw [e606, g14]; exact i2
  · rw [e606, e608, g21, g22]; exact i3
  · rw [c2 2 (by decide) (by decide) (by decide) (by decide)]; exact s2
  · rw [c2 3 (by decide) (by decide) (by decide) (by decide)]; exact s3
  · rw [e606]
    exact pu_Ho_congr s4 i1.1 (fun a i p q => by rw [bA a (by omega) (by omega) (by omega) (by omega) (by omega) (by omega)])
  · rw [e606, e608]
    exact pu_Sn_mono i1.1 s5.2.2.1.1.2.2.2.1.2 (by omega) (fun a p q => bA a (by omega) (by omega) (by omega) (by omega) (by omega) (by omega)) s5
  · rw [g21]; exact u1
  · rw [g21, c2 9 (by decide) (by decide) (by decide) (by decide)]; exact u2
  · rw [c2 8 (by decide) (by decide) (by decide) (by decide)]; exact u3
  · rw [g21, c2 8 (by decide) (by decide) (by decide) (by decide), e606, e610]
    intro j a b
    have h := u4 j a b
    exact pu_Sn_mono i1.1 h.2.2.1.1.2.2.2.1.2 (by omega) (fun a p q => bA a (by omega) (by omega) (by omega) (by omega) (by omega) (by omega)) h
  · rw [g22]; exact m1
  · rw [g22, c2 11 (by decide) (by decide) (by decide) (by decide)]; exact m2
  · rw [g22, e606, e611]
    intro j a b
    have h := m3 j a b
    exact pu_Sn_mono i1.1 h.2.2.1.1.2.2.2.1.2 (by omega) (fun a p q => bA a (by omega) (by omega) (by omega) (by omega) (by omega) (by omega)) h
  · rw [f11, bN 2 (by decide) (by decide) (by decide), c1]; rfl
  · rw [bN 2 (by decide) (by decide) (by decide), c1, if_neg (by decide), if_neg (by decide), if_pos rfl, ← hD.2.2.1, ← hM2, nb_wr_1, if_neg (by decide)]
  · intro _
    rw [bN 2 (by decide) (by decide) (by decide), c1, if_neg (by decide), if_pos rfl, ← hD.2.2.2, ← hM2, nb_wr_1, if_neg (by decide)]
  · unfold pu_I7 at i7 ⊢
    rw [e612]
    exact i7
  · rw [← hM2]
    show N1.2 = M.2
    rw [n2, e1]
    exact fa2
