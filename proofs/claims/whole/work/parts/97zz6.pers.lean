/-! LINES: a person -/
variable {So n d s p q : Int} {tx : Int → Int} {cnt j : Nat} {E : Nat → Int} {M N : nb_M}
theorem dd_p7 {x b : Int} (W : nb_Lay M) (hSo : nb_hs So) (h764 : M.1 76 4 = So) (hf : M.1 76 9 ≠ 0) : nb_W 233 7 [(13, 76), (0, x), (0, b), (98, 0), (98, 0), (98, 0), (98, 0), (98, 0)] [] M (fun r M' => r = [] ∧ M' = M) := by
  have dn : ∀ (kc : Nat) (lo hi : Int), 1 ≤ kc → kc ≤ 65 → nb_R nb_P 243 0 [(13, 76), (2, (kc : Int)), (0, lo), (0, hi)] [] M = some ([(0, nb_l2i (M.1 76 8))], M) := fun kc lo hi a b => dd_number (pu_tok_at kc a b) W hSo h764 hf
  exact w_rd_readPerson_7 W hSo h764 (nb_Wp (dn 46 _ _ (by decide) (by decide)) ⟨_, rfl, W, h764, nb_Wp (dn 41 _ _ (by decide) (by decide)) ⟨_, rfl, W, h764, nb_Wp (dn 47 _ _ (by decide) (by decide)) ⟨_, rfl, W, h764, nb_Wp (dn 48 _ _ (by decide) (by decide)) ⟨_, rfl, W, h764, nb_Wp (dd_expect (pu_tok_at 49 (by decide) (by decide)) W hSo h764 hf) ⟨rfl, W, h764, fun z => absurd z hf, fun _ _ => ⟨rfl, rfl⟩⟩⟩⟩⟩⟩)
/-- no orders yet -/
theorem sp_m_noord {v2 v5 v6 : nb_V} (WN : nb_Lay N) (hq : 0 ≤ q ∧ q < 10) : ∃ Nz : nb_M, (nb_Lay Nz ∧ Nz.2 = N.2 ∧ (∀ a, a ≠ 607 → Nz.1 a = N.1 a) ∧ (∀ i, 0 ≤ i → i < 5 → Nz.1 607 (111 + 5 * q + i) = 0) ∧ ∀ i, (i < 111 + 5 * q ∨ 111 + 5 * q + 5 ≤ i) → Nz.1 607 i = N.1 607 i) ∧ ∀ (v3 : nb_V) (Q : List nb_V → nb_M → Prop), (∀ v3' : nb_V, nb_W 95 0 [(20, 603), (2, 28)] [] Nz (fun r M7 => r = [] ∧ nb_Lay M7 ∧ (M7.1 603 13 = 0 → nb_W 111 46 [(20, 603), (0, q), v2, v3', (0, 0), (0, 1), v6] [] M7 Q) ∧ (M7.1 603 13 ≠ 0 → nb_W 111 46 [(20, 603), (0, q), v2, v3', (0, 0), (0, 0), v6] [] M7 Q))) → nb_W 111 38 [(20, 603), (0, q), v2, v3, (0, 0), v5, v6] [] N Q := by
  suffices hl : ∀ (f r : Nat) (Nw : nb_M), r + f = 5 → nb_Lay Nw → Nw.2 = N.2 → (∀ a, a ≠ 607 → Nw.1 a = N.1 a) → (∀ i : Int, 0 ≤ i → i < r → Nw.1 607 (111 + 5 * q + i) = 0) → (∀ i, (i < 111 + 5 * q ∨ 111 + 5 * q + 5 ≤ i) → Nw.1 607 i = N.1 607 i) → ∃ Nz : nb_M, (nb_Lay Nz ∧ Nz.2 = N.2 ∧ (∀ a, a ≠ 607 → Nz.1 a = N.1 a) ∧ (∀ i, 0 ≤ i → i < 5 → Nz.1 607 (111 + 5 * q + i) = 0) ∧ ∀ i, (i < 111 + 5 * q ∨ 111 + 5 * q + 5 ≤ i) → Nz.1 607 i = N.1 607 i) ∧ ∀ (v3 : nb_V) (Q : List nb_V → nb_M → Prop), (∀ v3' : nb_V, nb_W 95 0 [(20, 603), (2, 28)] [] Nz (fun r M7 => r = [] ∧ nb_Lay M7 ∧ (M7.1 603 13 = 0 → nb_W 111 46 [(20, 603), (0, q), v2, v3', (0, 0), (0, 1), v6] [] M7 Q) ∧ (M7.1 603 13 ≠ 0 → nb_W 111 46 [(20, 603), (0, q), v2, v3', (0, 0), (0, 0), v6] [] M7 Q))) → nb_W 111 38 [(20, 603), (0, q), v2, v3, (0, (r : Int)), v5, v6] [] Nw Q from hl 5 0 N rfl WN rfl (fun _ _ => rfl) (fun i a b => absurd b (by omega)) (fun _ _ => rfl)
  intro f
  induction f with
  | zero =>
    intro r Nw hr g1 g2 g3 g4 g5
    refine ⟨Nw, ⟨g1, g2, g3, fun i a b => g4 i a (by omega), g5⟩, fun v3 Q K => ?_⟩
    exact w_m_personLine_38 g1 (by omega) (by omega) ⟨fun z => absurd z (by omega), fun _ => K (nb_clr v3)⟩
  | succ f ih =>
    intro r Nw hr g1 g2 g3 g4 g5
    obtain ⟨Nz, z1, z2⟩ := ih (r + 1) (nb_wr Nw 607 (111 + 5 * q + r) 0) (by omega) (g1.wr (fun w => nb_nnum (by decide) (by decide))) g2 (fun a ha => by rw [nb_wr_b ha]; exact g3 a ha) (fun i a b => by
      rw [nb_wr_1]
      by_cases c : i = r
      · rw [if_pos ⟨rfl, by omega⟩]
      · rw [if_neg (by omega)]
        exact g4 i a (by omega)) (fun i a => by
      rw [nb_wr_1, if_neg (by omega)]
      exact g5 i a)
    refine ⟨Nz, z1, fun v3 Q K => ?_⟩
    have g := z2 (nb_clr v3) Q K
    rw [show ((r + 1 : Nat) : Int) = (r : Int) + 1 by omega] at g
    exact w_m_personLine_38 g1 (by omega) (by omega) ⟨fun _ => g, fun z => absurd z (by omega)⟩
/-- a person's numbers -/
theorem rl_pe5 {L B : Int} (h : pu_RL So tx n cnt E M N j d s p) (hq : 0 ≤ q ∧ q < 10) (hB : M.1 So 10 = B ∧ N.1 607 2 = B) (hC : ∀ M' : nb_M, M'.1 So 9 = M.1 So 9 → nb_sub (M'.1 So 9) 1 = L) (hR : ∀ N' : nb_M, N'.1 607 1 = N.1 607 1 → nb_sub (N'.1 607 1) 1 = L) : ∃ (u1 u2 u3 u4 v1 v2 v3 v4 : Int) (M1 M2 M3 M4 M5 N5 : nb_M), (nb_R nb_P 243 0 [(13, 76), (2, 46), (0, 0), (0, M.1 So 10)] [] M = some ([(0, u1)], M1) ∧ nb_R nb_P 243 0 [(13, 76), (2, 41), (0, 0), (0, nb_sub (M1.1 So 9) 1)] [] M1 = some ([(0, u2)], M2) ∧ nb_R nb_P 243 0 [(13, 76), (2, 47), (0, 0), (0, 600)] [] M2 = some ([(0, u3)], M3) ∧ nb_R nb_P 243 0 [(13, 76), (2, 48), (0, 0), (0, 99)] [] M3 = some ([(0, u4)], M4) ∧ nb_R nb_P 242 0 [(13, 76), (2, 49)] [] M4 = some ([], M5)) ∧ (pu_cf M M1 ∧ pu_cf M M2 ∧ pu_cf M M3 ∧ pu_cf M M4 ∧ pu_cf M M5) ∧ (∀ (w3 w4 w5 w6 : nb_V) (Q : List nb_V → nb_M → Prop), (∀ w3' : nb_V, (N5.1 603 13 = 0 → nb_W 111 46 [(20, 603), (0, q), (0, 41 + 7 * q), w3', (0, 0), (0, 1), w6] [] N5 Q) ∧ (N5.1 603 13 ≠ 0 → nb_W 111 46 [(20, 603), (0, q), (0, 41 + 7 * q), w3', (0, 0), (0, 0), w6] [] N5 Q)) → nb_W 111 28 [(20, 603), (0, q), (0, 41 + 7 * q), w3, w4, w5, w6] [] N Q) ∧ pu_RL So tx n cnt E M5 N5 j d s p ∧ pu_ml N N5 ∧ (∀ i, i < 185 → (i < 41 + 7 * q + 2 ∨ 41 + 7 * q + 7 ≤ i) → (i < 111 + 5 * q ∨ 111 + 5 * q + 5 ≤ i) → N5.1 607 i = N.1 607 i) ∧ (N5.1 607 (41 + 7 * q + 2) = v1 ∧ N5.1 607 (41 + 7 * q + 3) = v2 ∧ N5.1 607 (41 + 7 * q + 4) = v3 ∧ N5.1 607 (41 + 7 * q + 5) = v4 ∧ N5.1 607 (41 + 7 * q + 6) = 0) ∧ (∀ i, 0 ≤ i → i < 5 → N5.1 607 (111 + 5 * q + i) = 0) ∧ (M5.1 76 9 = 0 → M.1 76 9 = 0 ∧ (u1 = v1 ∧ 0 ≤ u1 ∧ u1 ≤ B) ∧ (u2 = v2 ∧ 0 ≤ u2 ∧ u2 ≤ L) ∧ (u3 = v3 ∧ 0 ≤ u3 ∧ u3 ≤ 600) ∧ u4 = v4 ∧ 0 ≤ u4 ∧ u4 ≤ 99) := by
  have h' := h
  obtain ⟨⟨W, WN, hSo, h764, -⟩, -⟩ := h'
  obtain ⟨u1, v1, M1, N1, a1, a2, a3, a4, a5, a6⟩ := rl_number (lo := 0) (hi := M.1 So 10) (lo2 := 0) (hi2 := N.1 607 2) (pu_tok_at 46 (by decide) (by decide)) (pu_tok_at 25 (by decide) (by decide)) (by decide +kernel) h (fun _ => ⟨rfl, by rw [hB.1, hB.2]⟩)
  replace a6 := nb_Hw a6
  have w1 := a3.wg (i := 41 + 7 * q + 2) (v := v1) (by omega)
  have s9 : M1.1 So 9 = M.1 So 9 := by rw [a4.so hSo (Int.le_refl So) (by omega)]
  have l1 : N1.1 607 1 = N.1 607 1 := a5.2.2.2.2 1 (by decide)
  obtain ⟨u2, v2, M2, N2, b1, b2, b3, b4, b5, b6⟩ := rl_number (lo := 0) (hi := nb_sub (M1.1 So 9) 1) (lo2 := 0) (hi2 := nb_sub (N1.1 607 1) 1) (pu_tok_at 41 (by decide) (by decide)) (pu_tok_at 17 (by decide) (by decide)) (by decide +kernel) w1 (fun _ => ⟨rfl, by rw [hC M1 s9, hR N1 l1]⟩)
  replace b6 := nb_Hw b6
  have w2 := b3.wg (i := 41 + 7 * q + 3) (v := v2) (by omega)
  obtain ⟨u3, v3, M3, N3, c1, c2, c3, c4, c5, c6⟩ := rl_number (lo := 0) (hi := 600) (lo2 := 0) (hi2 := 600) (pu_tok_at 47 (by decide) (by decide)) (pu_tok_at 26 (by decide) (by decide)) (by decide +kernel) w2 (fun _ => ⟨rfl, rfl⟩)
  replace c6 := nb_Hw c6
  have w3 := c3.wg (i := 41 + 7 * q + 4) (v := v3) (by omega)
  obtain ⟨u4, v4, M4, N4, g1, g2, g3, g4, g5, g6⟩ := rl_number (lo := 0) (hi := 99) (lo2 := 0) (hi2 := 99) (pu_tok_at 48 (by decide) (by decide)) (pu_tok_at 27 (by decide) (by decide)) (by decide +kernel) w3 (fun _ => ⟨rfl, rfl⟩)
  replace g6 := nb_Hw g6
  have w4 := (g3.wg (i := 41 + 7 * q + 5) (v := v4) (by omega)).wg (i := 41 + 7 * q + 6) (v := 0) (by omega)
  obtain ⟨Nz, ⟨z1, z2, z3, z4, z5⟩, zK⟩ := sp_m_noord (v2 := (0, 41 + 7 * q)) (v5 := (98, 0)) (v6 := (98, 0)) w4.1.2.1 hq
  have wz := w4.mh w4.1.1 z1 (fun _ _ => rfl) (z3 603 (by decide)) (z3 604 (by decide)) (z3 605 (by decide)) (fun i hi => z5 i (Or.inr (by omega)))
  obtain ⟨M5, N5, e1, e2, e3, e4, e5⟩ := rl_expect (pu_tok_at 49 (by decide) (by decide)) (pu_tok_at 28 (by decide) (by decide)) (by decide +kernel) wz
  have back : M5.1 76 9 = 0 → M4.1 76 9 = 0 := fun z => by
    by_cases y : M4.1 76 9 = 0
    · exact y
    · exfalso
      have e := e1.symm.trans (dd_expect (pu_tok_at 49 (by decide) (by decide)) g4.1 hSo g3.1.2.2.2.1 y)
      simp only [Option.some.injEq, Prod.mk.injEq, true_and] at e
      rw [e] at z
      exact y z
  replace back := nb_Hw back
  have ro : ∀ i, i < 185 → (i < 41 + 7 * q + 2 ∨ 41 + 7 * q + 7 ≤ i) → (i < 111 + 5 * q ∨ 111 + 5 * q + 5 ≤ i) → N5.1 607 i = N.1 607 i := fun i p0 p1 p2 => by
    rw [e5.2.2.2.2 i p0, z5 i p2, nb_wr_1, if_neg (by omega), nb_wr_1, if_neg (by omega), pu_wr_o g5 p0 (by omega), pu_wr_o c5 p0 (by omega), pu_wr_o b5 p0 (by omega), a5.2.2.2.2 i p0]
  refine ⟨u1, u2, u3, u4, v1, v2, v3, v4, M1, M2, M3, M4, M5, N5, ⟨a1, b1, c1, g1, e1⟩, ⟨a4, a4.tr b4, (a4.tr b4).tr c4, ((a4.tr b4).tr c4).tr g4, (((a4.tr b4).tr c4).tr g4).tr e4⟩, fun o3 o4 o5 o6 Q K => ?_, e3, ?_, ro, ⟨?_, ?_, ?_, ?_, ?_⟩, fun i p0 p1 => ?_, fun z => ?_⟩
  · obtain ⟨Nz2, ⟨y1, y2, y3, y4, y5⟩, yK⟩ := sp_m_noord (v2 := (0, 41 + 7 * q)) (v5 := o5) (v6 := o6) w4.1.2.1 hq
    have ez : Nz2 = Nz := by
      refine Prod.ext ?_ (y2.trans z2.symm)
      funext a
      by_cases c : a = 607
      · subst c
        funext i
        by_cases c2 : i < 111 + 5 * q ∨ 111 + 5 * q + 5 ≤ i
        · rw [y5 i c2, z5 i c2]
        · have g := y4 (i - (111 + 5 * q)) (by omega) (by omega)
          have g' := z4 (i - (111 + 5 * q)) (by omega) (by omega)
          rw [show 111 + 5 * q + (i - (111 + 5 * q)) = i by omega] at g g'
          rw [g, g']
      · rw [y3 a c, z3 a c]
    subst ez
    refine w_m_personLine_28 WN (by omega) (by omega) ?_
    exact nb_Wp a2 ⟨v1, rfl, a5.1, nb_Wp b2 ⟨v2, rfl, b5.1, nb_Wp c2 ⟨v3, rfl, c5.1, nb_Wp g2 ⟨v4, rfl, g5.1, yK _ Q (fun w3' => nb_Wp e2 ⟨rfl, e5.1, (K w3').1, (K w3').2⟩)⟩⟩⟩⟩
  · have m1 := ((((((a5.ml.wr).tr b5.ml).wr).tr c5.ml).wr).tr g5.ml).wr (i := 41 + 7 * q + 5) (v := v4) |>.wr (i := 41 + 7 * q + 6) (v := 0)
    have m2 : pu_ml (nb_wr (nb_wr N4 607 (41 + 7 * q + 5) v4) 607 (41 + 7 * q + 6) 0) Nz := ⟨z1, z2, fun a _ _ c => z3 a c, fun i _ => by rw [z3 603 (by decide)]⟩
    exact (m1.tr m2).tr e5.ml
  · rw [e5.2.2.2.2 _ (by omega), z5 _ (by omega), nb_wr_1, if_neg (by omega), nb_wr_1, if_neg (by omega), pu_wr_o g5 (by omega) (by omega), pu_wr_o c5 (by omega) (by omega), pu_wr_s b5 (by omega)]
  · rw [e5.2.2.2.2 _ (by omega), z5 _ (by omega), nb_wr_1, if_neg (by omega), nb_wr_1, if_neg (by omega), pu_wr_o g5 (by omega) (by omega), pu_wr_s c5 (by omega)]
  · rw [e5.2.2.2.2 _ (by omega), z5 _ (by omega), nb_wr_1, if_neg (by omega), nb_wr_1, if_neg (by omega), pu_wr_s g5 (by omega)]
  · rw [e5.2.2.2.2 _ (by omega), z5 _ (by omega), nb_wr_1, if_neg (by omega), nb_wr_1, if_pos ⟨rfl, rfl⟩]
  · rw [e5.2.2.2.2 _ (by omega), z5 _ (by omega), nb_wr_1, if_pos ⟨rfl, rfl⟩]
  · rw [e5.2.2.2.2 _ (by omega)]
    exact z4 i p0 p1
  · obtain ⟨l4, e4', y1, y2⟩ := nb_Hu g6 (nb_Hu back z)
    obtain ⟨l3, e3', y3, y4⟩ := nb_Hu c6 l4
    obtain ⟨l2, e2', y5, y6⟩ := nb_Hu b6 l3
    obtain ⟨l0, e1', y7, y8⟩ := nb_Hu a6 l2
    rw [hC M1 s9] at y6
    rw [hB.1] at y8
    exact ⟨l0, ⟨e1', y7, y8⟩, ⟨e2', y5, y6⟩, ⟨e3', y3, y4⟩, e4', y1, y2⟩
/-- the class writes a person down -/
theorem rl_peB {M5 : nb_M} {t x b u1 u2 u3 u4 : Int} (W5 : nb_Lay M5) (hSo : nb_hs So) (ht : 0 ≤ t ∧ t < 10) (h764 : M5.1 76 4 = So) (hr : (0 ≤ b ∧ b ≤ 99) ∧ 0 ≤ u1 ∧ u1 ≤ 600) : ∃ MB : nb_M, nb_R nb_P 216 0 [(11, So + 20 + t), (0, x), (0, b)] [] (nb_wr (nb_wr (nb_wr (nb_wr M5 (So + 20 + t) 2 u1) (So + 20 + t) 3 u2) (So + 20 + t) 4 u3) (So + 20 + t) 5 u4) = some ([], MB) ∧ (nb_Lay MB ∧ MB.1 76 4 = So ∧ MB.2 = M5.2) ∧ (∀ a, a ≠ So + 20 + t → MB.1 a = M5.1 a) ∧ (MB.1 (So + 20 + t) 0 = x ∧ MB.1 (So + 20 + t) 1 = b ∧ MB.1 (So + 20 + t) 2 = u1 ∧ MB.1 (So + 20 + t) 3 = u2 ∧ MB.1 (So + 20 + t) 4 = u3 ∧ MB.1 (So + 20 + t) 5 = u4 ∧ MB.1 (So + 20 + t) 6 = M5.1 (So + 20 + t) 6 ∧ MB.1 (So + 20 + t) 7 = if x = 1 then u1 - b else if x = 2 then u1 + b else u1) ∧ ∀ i, 8 ≤ i → MB.1 (So + 20 + t) i = M5.1 (So + 20 + t) i := by
  have hSu := hSo
  unfold nb_hs at hSu
  obtain ⟨G, hG⟩ : ∃ G, G = So + 20 + t := ⟨_, rfl⟩
  have G1 : G ≠ So ∧ G ≠ 76 ∧ G ≠ 0 := by omega
  have ng : ∀ i w, ¬ nb_rf G i w := fun i w => by rw [hG]; exact nb_nhg hSo ht.1 ht.2
  rw [← hG]
  have e2 : (nb_wr (nb_wr (nb_wr (nb_wr M5 G 2 u1) G 3 u2) G 4 u3) G 5 u4).1 G 2 = u1 := by simp [nb_wr_1]
  have wl : ∀ (N : nb_M) (i v : Int), nb_Lay N → nb_Lay (nb_wr N G i v) := fun N i v w => w.wr (fun w => ng i w)
  have W9 := wl _ 5 u4 (wl _ 4 u3 (wl _ 3 u2 (wl _ 2 u1 W5)))
  have key : nb_W 216 0 [(11, G), (0, x), (0, b)] [] (nb_wr (nb_wr (nb_wr (nb_wr M5 G 2 u1) G 3 u2) G 4 u3) G 5 u4) (fun r MB => r = [] ∧ (nb_Lay MB ∧ MB.1 76 4 = So ∧ MB.2 = M5.2) ∧ (∀ a, a ≠ G → MB.1 a = M5.1 a) ∧ (MB.1 G 0 = x ∧ MB.1 G 1 = b ∧ MB.1 G 2 = u1 ∧ MB.1 G 3 = u2 ∧ MB.1 G 4 = u3 ∧ MB.1 G 5 = u4 ∧ MB.1 G 6 = M5.1 G 6 ∧ MB.1 G 7 = if x = 1 then u1 - b else if x = 2 then u1 + b else u1) ∧ ∀ i, 8 ≤ i → MB.1 G i = M5.1 G i) := by
    refine w_g_behave_0 G1.2.2 ?_
    rw [e2]
    refine ⟨fun c => ⟨by omega, by omega, rfl, ⟨wl _ _ _ (wl _ _ _ (wl _ _ _ (wl _ _ _ W9))), ?_, rfl⟩, fun a ha => ?_, ⟨?_, ?_, ?_, ?_, ?_, ?_, ?_, ?_⟩, fun i hi => ?_⟩, fun c => ⟨fun c2 => ⟨by omega, by omega, rfl, ⟨wl _ _ _ (wl _ _ _ (wl _ _ _ (wl _ _ _ W9))), ?_, rfl⟩, fun a ha => ?_, ⟨?_, ?_, ?_, ?_, ?_, ?_, ?_, ?_⟩, fun i hi => ?_⟩, fun c2 => ⟨rfl, ⟨wl _ _ _ (wl _ _ _ (wl _ _ _ W9)), ?_, rfl⟩, fun a ha => ?_, ⟨?_, ?_, ?_, ?_, ?_, ?_, ?_, ?_⟩, fun i hi => ?_⟩⟩⟩
    all_goals first
      | (rw [nb_wr_b G1.2.1.symm, nb_wr_b G1.2.1.symm, nb_wr_b G1.2.1.symm, nb_wr_b G1.2.1.symm, nb_wr_b G1.2.1.symm, nb_wr_b G1.2.1.symm, nb_wr_b G1.2.1.symm, nb_wr_b G1.2.1.symm]; exact h764)
      | (rw [nb_wr_b G1.2.1.symm, nb_wr_b G1.2.1.symm, nb_wr_b G1.2.1.symm, nb_wr_b G1.2.1.symm, nb_wr_b G1.2.1.symm, nb_wr_b G1.2.1.symm, nb_wr_b G1.2.1.symm]; exact h764)
      | (rw [nb_wr_b ha, nb_wr_b ha, nb_wr_b ha, nb_wr_b ha, nb_wr_b ha, nb_wr_b ha, nb_wr_b ha, nb_wr_b ha]; done)
      | (rw [nb_wr_b ha, nb_wr_b ha, nb_wr_b ha, nb_wr_b ha, nb_wr_b ha, nb_wr_b ha, nb_wr_b ha]; done)
      | (simp [nb_wr_1, c]; done)
      | (simp [nb_wr_1, c, c2]; done)
      | (simp only [nb_wr_1, true_and]; rw [if_neg (by omega), if_neg (by omega), if_neg (by omega), if_neg (by omega), if_neg (by omega), if_neg (by omega), if_neg (by omega), if_neg (by omega)])
      | (simp only [nb_wr_1, true_and]; rw [if_neg (by omega), if_neg (by omega), if_neg (by omega), if_neg (by omega), if_neg (by omega), if_neg (by omega), if_neg (by omega)])
  obtain ⟨r, MB, e, hr', g⟩ := key
  subst hr'
  exact ⟨MB, e, g⟩
