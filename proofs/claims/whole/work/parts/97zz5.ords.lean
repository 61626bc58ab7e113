/-! LINES: a person's orders -/
/-- the orders so far, by both -/
def pu_gr (M N : nb_M) (So q d : Int) : Prop := ∀ j, 0 ≤ j → j < 5 → M.1 (So + 5 + q) j = N.1 607 (111 + 5 * q + j) ∧ (0 ≤ N.1 607 (111 + 5 * q + j) ∧ N.1 607 (111 + 5 * q + j) ≤ 9) ∧ (d ≤ j → N.1 607 (111 + 5 * q + j) = 0)
def pu_cq (So q : Int) (M M' : nb_M) : Prop := nb_Lay M' ∧ M'.2 = M.2 ∧ (∀ a, a ≠ 76 → a ≠ 81 → a ≠ 82 → a ≠ 83 → a ≠ So + 5 + q → M'.1 a = M.1 a) ∧ M'.1 76 4 = M.1 76 4
def pu_mq (q : Int) (N N' : nb_M) : Prop := nb_Lay N' ∧ N'.2 = N.2 ∧ (∀ a, a ≠ 603 → a ≠ 605 → a ≠ 607 → N'.1 a = N.1 a) ∧ (∀ i, (i < 4 ∨ i = 11 ∨ i = 12 ∨ 13 < i) → N'.1 603 i = N.1 603 i) ∧ ∀ j, j < 185 → (j < 111 + 5 * q ∨ 111 + 5 * q + 5 ≤ j) → N'.1 607 j = N.1 607 j
theorem pu_cf.cq {So q : Int} {M M1 : nb_M} (h : pu_cf M M1) : pu_cq So q M M1 := ⟨h.1, h.2.1, fun a x y z w _ => h.2.2.1 a x y z w, h.2.2.2⟩
theorem pu_mf.mq {q : Int} {M M1 : nb_M} (h : pu_mf M M1) : pu_mq q M M1 := ⟨h.1, h.2.1, h.2.2.1, h.2.2.2.1.1, fun j p0 _ => h.2.2.2.2 j p0⟩
theorem pu_cq.tr {So q : Int} {M M1 M2 : nb_M} (h : pu_cq So q M M1) (g : pu_cq So q M1 M2) : pu_cq So q M M2 := ⟨g.1, g.2.1.trans h.2.1, fun a x y z w t => (g.2.2.1 a x y z w t).trans (h.2.2.1 a x y z w t), g.2.2.2.trans h.2.2.2⟩
theorem pu_mq.tr {q : Int} {M M1 M2 : nb_M} (h : pu_mq q M M1) (g : pu_mq q M1 M2) : pu_mq q M M2 := ⟨g.1, g.2.1.trans h.2.1, fun a x y z => (g.2.2.1 a x y z).trans (h.2.2.1 a x y z), fun i hi => (g.2.2.2.1 i hi).trans (h.2.2.2.1 i hi), fun j p0 p1 => (g.2.2.2.2 j p0 p1).trans (h.2.2.2.2 j p0 p1)⟩
theorem pu_gr.keep {M N M1 N1 : nb_M} {So q d : Int} (hSo : nb_hs So) (hq : 0 ≤ q ∧ q < 10) (h : pu_gr M N So q d) (c : pu_cf M M1) (m : pu_mf N N1) : pu_gr M1 N1 So q d := fun j p0 p1 => by
  unfold nb_hs at hSo
  rw [c.2.2.1 (So + 5 + q) (by omega) (by omega) (by omega) (by omega), m.2.2.2.2 _ (by omega)]
  exact h j p0 p1
variable {So n d s p q : Int} {tx : Int → Int} {cnt j : Nat} {E : Nat → Int} {M N : nb_M}
/-- one order: the class's ended, the reference's up to the comma, or ended too -/
theorem rl_order {room many : Int} (h : pu_RL So tx n cnt E M N j d s p) (hq : 0 ≤ q ∧ q < 10) (hm : (room = 0 ↔ many = 3) ∧ 0 ≤ many ∧ many ≤ 3) (hl : M.1 76 9 = 0) (hg : pu_gr M N So q d) : ∃ (M1 N1 : nb_M), nb_R nb_P 235 0 [(13, 76), (3, So + 5 + q), (0, room), (98, 0)] [] M = some ([], M1) ∧ pu_RL So tx n cnt E M1 N1 j d s p ∧ pu_cq So q M M1 ∧ pu_mq q N N1 ∧ (M1.1 76 9 = 0 → room ≠ 0 ∧ pu_gr M1 N1 So q d) ∧ (M1.1 76 9 = 0 → ∀ (v2 v3 v6 : nb_V) (Q : List nb_V → nb_M → Prop), (∀ v3' v6' : nb_V, nb_W 104 0 [(20, 603)] [] N1 (fun r M40 => ∃ x39 : Int, r = [(0, x39)] ∧ nb_Lay M40 ∧ nb_W 111 46 [(20, 603), (0, q), v2, v3', (0, many + 1), (0, x39), v6'] [] M40 Q)) → nb_W 111 46 [(20, 603), (0, q), v2, v3, (0, many), (0, 1), v6] [] N Q) ∧ (M1.1 76 9 ≠ 0 → ∀ v2 v3 v6 : nb_V, nb_W 111 46 [(20, 603), (0, q), v2, v3, (0, many), (0, 1), v6] [] N (fun r M' => r = [] ∧ M' = N1)) := by
  have h' := h
  obtain ⟨⟨W, WN, hSo, h764, -⟩, -⟩ := h'
  have hSu := hSo
  unfold nb_hs at hSu
  obtain ⟨x, y, M1, N1, a1, a2, a3, a4, a5, a6, a7⟩ := rl_known (so := 0) (lo := 0) (hi := 4) (Or.inl ⟨rfl, rfl, rfl⟩) h
  have q4 := a3.1.2.2.2.1
  by_cases l1 : M1.1 76 9 = 0
  case neg =>
    obtain ⟨ex, ey⟩ := a7 l1
    have f1 : N1.1 603 13 ≠ 0 := fun z => l1 (a3.ff.2 z)
    exact ⟨M1, N1, nb_Wq (w_rd_readOrder_0 W hSo h764 hq.1 hq.2 (nb_Wp a1 ⟨x, rfl, a4.1, q4, fun _ _ => ⟨rfl, rfl⟩, fun z => absurd z (by omega)⟩)), a3, a4.cq, a5.mq, fun z => absurd z l1, fun z => absurd z l1, fun _ v2 v3 v6 => w_m_personLine_46 WN (by omega) ⟨fun z => absurd z (by decide), fun _ => nb_Wp a2 ⟨y, rfl, a5.1, fun z => absurd z f1, fun _ _ => ⟨rfl, rfl⟩⟩⟩⟩
  obtain ⟨k1, -, ey, x0, hx⟩ := a6 l1
  have ey2 : x = y := by rw [ey, pu_sl_0]
  clear ey
  subst ey2
  have xd : x < d := by omega
  have d5 : d ≤ 5 := by
    obtain ⟨i, hi, hL⟩ := h.lv hl
    exact hL.2.2.2.2.2.2.2.2.2.2.1.1.2
  clear hx a6 a7
  have f1 : N1.1 603 13 = 0 := a3.ff.1 l1
  have ix : nb_add (111 + 5 * q) x = 111 + 5 * q + x := nb_add_eq (by omega) (by omega)
  have hg1 := hg.keep hSo hq a4 a5
  have gx := hg1 x x0 (by omega)
  -- behind a fault: what the class writes down counts for nothing
  have ended : ∀ (f : Int), f ≠ 0 → ∃ (M2 N2 : nb_M), (nb_W 226 0 [(13, 76), (0, f)] [] M1 (fun r M8 => r = [] ∧ nb_Lay M8 ∧ M8.1 76 4 = So ∧ nb_W 225 0 [(13, 76)] [] M8 (fun r M12 => r = [] ∧ nb_Lay M12 ∧ M12.1 76 4 = So ∧ nb_W 244 0 [(13, 76), (0, 1), (0, 9), (98, 0)] [] M12 (fun r M16 => ∃ x15 : Int, r = [(0, x15)] ∧ nb_Lay M16 ∧ M16.1 76 4 = So ∧ (nb_Lay (nb_wr M16 (So + 5 + q) x x15) → ([] : List nb_V) = [] ∧ (nb_wr M16 (So + 5 + q) x x15) = M2))))) ∧ nb_R nb_P 92 0 [(20, 603), (0, f), (0, N1.1 603 4)] [] N1 = some ([], N2) ∧ N2.1 603 13 ≠ 0 ∧ pu_RL So tx n cnt E M2 N2 j d s p ∧ pu_cq So q M M2 ∧ pu_mq q N N2 ∧ pu_mf N1 N2 ∧ M2.1 76 9 ≠ 0 := fun f hf => by
    obtain ⟨M2, N2, v1, v1b, v2, v3, v4, v5, v6, v7⟩ := rl_bad hf a3
    have q5 := v5.2.2.2.trans q4
    have dw := dd_whole (lo := 1) (hi := 9) (v3 := (98, 0)) v5.1 hSo q5 v4.1
    have W1 : nb_Lay (nb_wr M2 (So + 5 + q) x (nb_l2i (M2.1 76 8))) := v5.1.wr (fun w => nb_nhl hSo hq.1 hq.2)
    have r0 : pu_RL So tx n cnt E M2 N2 j d s p := ⟨v3, Or.inr v4⟩
    refine ⟨nb_wr M2 (So + 5 + q) x (nb_l2i (M2.1 76 8)), N2, nb_Wp v1 ⟨rfl, v5.1, q5, nb_Wp v1b ⟨rfl, v5.1, q5, nb_Wp dw ⟨_, rfl, v5.1, q5, fun _ => ⟨rfl, rfl⟩⟩⟩⟩, v2, v7, r0.wh (by omega) W1, ?_, (a5.tr v6).mq, v6, ?_⟩
    · have c := (a4.tr v5).cq (So := So) (q := q)
      refine ⟨W1, c.2.1, fun a p0 p1 p2 p3 p5 => ?_, ?_⟩
      · rw [nb_wr_b p5]; exact c.2.2.1 a p0 p1 p2 p3 p5
      · rw [nb_wr_b (by omega)]; exact c.2.2.2
    · rw [nb_wr_b (by omega)]; exact v4.1
  by_cases c1 : 0 < M1.1 (So + 5 + q) x
  · -- a drink told again
    obtain ⟨M2, N2, e1, e2, e3, e4, e5, e6, e7, e8⟩ := ended 3 (by decide)
    refine ⟨M2, N2, nb_Wq (w_rd_readOrder_0 W hSo h764 hq.1 hq.2 (nb_Wp a1 ⟨x, rfl, a4.1, q4, fun z => absurd z (by omega), fun _ => ⟨fun _ => ⟨fun _ => e1, fun z => absurd c1 (by omega)⟩, fun z => absurd z (by omega)⟩⟩)), e4, e5, e6, fun z => absurd z e8, fun z => absurd z e8, fun _ v2 v3 v6 => w_m_personLine_46 WN (by omega) ⟨fun z => absurd z (by decide), fun _ => nb_Wp a2 ⟨x, rfl, a5.1, fun _ => ?_, fun z => absurd f1 z⟩⟩⟩
    rw [ix]
    exact ⟨by omega, by omega, fun _ => nb_Wp e2 ⟨rfl, e7.1, fun z => absurd z e3, fun _ _ => ⟨rfl, rfl⟩⟩, fun z => absurd c1 (by omega)⟩
  by_cases c2 : room = 0
  · -- a fourth order
    obtain ⟨M2, N2, e1, e2, e3, e4, e5, e6, e7, e8⟩ := ended 5 (by decide)
    have m3 := hm.1.1 c2
    refine ⟨M2, N2, nb_Wq (w_rd_readOrder_0 W hSo h764 hq.1 hq.2 (nb_Wp a1 ⟨x, rfl, a4.1, q4, fun z => absurd z (by omega), fun _ => ⟨fun _ => ⟨fun z => absurd z c1, fun _ => ⟨fun _ => e1, fun z => absurd c2 z⟩⟩, fun z => absurd z (by omega)⟩⟩)), e4, e5, e6, fun z => absurd z e8, fun z => absurd z e8, fun _ v2 v3 v6 => w_m_personLine_46 WN (by omega) ⟨fun z => absurd z (by decide), fun _ => nb_Wp a2 ⟨x, rfl, a5.1, fun _ => ?_, fun z => absurd f1 z⟩⟩⟩
    rw [ix]
    exact ⟨by omega, by omega, fun z => absurd z (by omega), fun _ => ⟨fun _ => nb_Wp e2 ⟨rfl, e7.1, fun z => absurd z e3, fun _ _ => ⟨rfl, rfl⟩⟩, fun z => absurd m3 z⟩⟩
  · -- an order
    have m3 : many ≠ 3 := fun z => c2 (hm.1.2 z)
    obtain ⟨M2, N2, v1, v2, v3, v4, v5, v6, v7⟩ := rl_pass a3 (fun _ => by omega)
    obtain ⟨q1, q2⟩ := v2 l1
    obtain ⟨u, v, M3, N3, b1, b2, b3, b4, b5, b6⟩ := rl_whole (lo := 1) (hi := 9) (lo2 := 1) (hi2 := 9) v4 (fun _ => ⟨rfl, rfl⟩)
    have q43 := b3.1.2.2.2.1
    have W1 : nb_Lay (nb_wr M3 (So + 5 + q) x u) := b4.1.wr (fun w => nb_nhl hSo hq.1 hq.2)
    have rr := (b3.wh (a := So + 5 + q) (i := x) (v := u) (by omega) W1).wg (i := 111 + 5 * q + x) (v := v) (by omega)
    have hg3 := hg1.keep hSo hq (v5.tr b4) (v6.tr b5)
    have ad : nb_add many 1 = many + 1 := nb_add_eq (by omega) (by omega)
    have mq : pu_mq q N (nb_wr N3 607 (111 + 5 * q + x) v) := by
      have c := ((a5.tr v6).tr b5).mq (q := q)
      refine ⟨c.1.wr (fun w => nb_nnum (by decide) (by decide)), c.2.1, fun a p0 p1 p2 => ?_, fun i hi => ?_, fun i p0 p1 => ?_⟩
      · rw [nb_wr_b p2]; exact c.2.2.1 a p0 p1 p2
      · rw [nb_wr_b (by decide)]; exact c.2.2.2.1 i hi
      · rw [nb_wr_1, if_neg (by omega)]; exact c.2.2.2.2 i p0 p1
    have cq : pu_cq So q M (nb_wr M3 (So + 5 + q) x u) := by
      have c := ((a4.tr v5).tr b4).cq (So := So) (q := q)
      refine ⟨W1, c.2.1, fun a p0 p1 p2 p3 p5 => ?_, ?_⟩
      · rw [nb_wr_b p5]; exact c.2.2.1 a p0 p1 p2 p3 p5
      · rw [nb_wr_b (by omega)]; exact c.2.2.2
    have lw : (nb_wr M3 (So + 5 + q) x u).1 76 9 = M3.1 76 9 := by rw [nb_wr_b (by omega)]
    have go : ∀ (v2 v3 v6 : nb_V) (Q : List nb_V → nb_M → Prop), (∀ v3' v6' : nb_V, nb_W 104 0 [(20, 603)] [] (nb_wr N3 607 (111 + 5 * q + x) v) (fun r M40 => ∃ x39 : Int, r = [(0, x39)] ∧ nb_Lay M40 ∧ nb_W 111 46 [(20, 603), (0, q), v2, v3', (0, many + 1), (0, x39), v6'] [] M40 Q)) → nb_W 111 46 [(20, 603), (0, q), v2, v3, (0, many), (0, 1), v6] [] N Q := fun v2 v3 v6 Q K => by
      refine w_m_personLine_46 WN (by omega) ⟨fun z => absurd z (by decide), fun _ => nb_Wp a2 ⟨x, rfl, a5.1, fun _ => ?_, fun z => absurd f1 z⟩⟩
      rw [ix, ad]
      exact ⟨by omega, by omega, fun z => absurd z (by omega), fun _ => ⟨fun z => absurd z m3, fun _ => nb_Wp q2 ⟨rfl, ‹pu_mf N1 N2›.1, nb_Wp b2 ⟨v, rfl, b5.1, K (nb_clr v3) (0, x)⟩⟩⟩⟩
    refine ⟨nb_wr M3 (So + 5 + q) x u, nb_wr N3 607 (111 + 5 * q + x) v, nb_Wq (w_rd_readOrder_0 W hSo h764 hq.1 hq.2 (nb_Wp a1 ⟨x, rfl, a4.1, q4, fun z => absurd z (by omega), fun _ => ⟨fun _ => ⟨fun z => absurd z c1, fun _ => ⟨fun z => absurd z c2, fun _ => nb_Wp v1 ⟨rfl, v5.1, v4.1.2.2.2.1, nb_Wp b1 ⟨u, rfl, b4.1, q43, fun _ => ⟨rfl, rfl⟩⟩⟩⟩⟩, fun z => absurd z (by omega)⟩⟩)), rr, cq, mq, fun l3 => ⟨c2, fun i p0 p1 => ?_⟩, fun _ => go, fun l3 v2 v3 v6 => ?_⟩
    · rw [lw] at l3
      obtain ⟨ev, u1, u2⟩ := b6 l3
      have g := hg3 i p0 p1
      rw [nb_wr_1, nb_wr_1]
      by_cases c : i = x
      · rw [if_pos ⟨rfl, c⟩, if_pos ⟨rfl, by omega⟩]
        exact ⟨ev, by omega, fun z => absurd z (by omega)⟩
      · rw [if_neg (fun z => c z.2), if_neg (fun z => c (by omega))]
        exact g
    · rw [lw] at l3
      have f3 : N3.1 603 13 ≠ 0 := fun z => l3 (b3.ff.2 z)
      have fw : (nb_wr N3 607 (111 + 5 * q + x) v).1 603 13 ≠ 0 := by rw [nb_wr_b (by decide)]; exact f3
      refine go v2 v3 v6 _ (fun v3' v6' => ?_)
      refine w_m_comma_0 mq.1 ⟨fun z => absurd z fw, fun _ hL' => ⟨0, rfl, hL', ?_⟩⟩
      exact w_m_personLine_46 mq.1 (by omega) ⟨fun _ => ⟨fun z => absurd z fw, fun _ _ => ⟨rfl, rfl⟩⟩, fun z => absurd rfl z⟩
/-- the orders behind the first one -/
theorem rl_orders (hq : 0 ≤ q ∧ q < 10) : ∀ (f r : Nat) (M N : nb_M), r + f = 4 → 1 ≤ r → pu_RL So tx n cnt E M N j d s p → (M.1 76 9 = 0 → r ≤ 3 ∧ N.1 607 5 = q ∧ pu_gr M N So q d) → ∃ (M1 N1 : nb_M), nb_W 234 2 [(13, 76), (3, So + 5 + q), (0, (r : Int))] [] M (fun r' M' => r' = [] ∧ M' = M1) ∧ pu_RL So tx n cnt E M1 N1 j d s p ∧ pu_cq So q M M1 ∧ pu_mq q N N1 ∧ (M1.1 76 9 = 0 → M.1 76 9 = 0 ∧ N1.1 607 5 = q ∧ pu_gr M1 N1 So q d) ∧ (M.1 76 9 = 0 → ∀ v2 v3 v6 : nb_V, nb_W 104 0 [(20, 603)] [] N (fun r' M40 => ∃ x39 : Int, r' = [(0, x39)] ∧ nb_Lay M40 ∧ nb_W 111 46 [(20, 603), (0, q), v2, v3, (0, (r : Int)), (0, x39), v6] [] M40 (fun r' M' => r' = [] ∧ M' = if M1.1 76 9 = 0 then nb_wr N1 607 5 (q + 1) else N1))) ∧ (M.1 76 9 ≠ 0 → M1 = M ∧ N1 = N) := by
  intro f
  induction f with
  | zero =>
    intro r M N hr r1 h hl
    have h' := h
    obtain ⟨⟨W, WN, hSo, h764, -⟩, -⟩ := h'
    have l : M.1 76 9 ≠ 0 := fun z => by have := (hl z).1; omega
    exact ⟨M, N, w_rd_readOrders_2 W hSo h764 hq.1 hq.2 ⟨fun _ _ => ⟨rfl, rfl⟩, fun z => absurd z (by omega)⟩, h, (pu_cf.id W).cq, (pu_mf.id WN).mq, fun z => absurd z l, fun z => absurd z l, fun _ => ⟨rfl, rfl⟩⟩
  | succ f ih =>
    intro r M N hr r1 h hl
    have h' := h
    obtain ⟨⟨W, WN, hSo, h764, -⟩, -⟩ := h'
    have hSu := hSo
    unfold nb_hs at hSu
    by_cases l : M.1 76 9 = 0
    case neg =>
      exact ⟨M, N, w_rd_readOrders_2 W hSo h764 hq.1 hq.2 ⟨fun _ _ => ⟨rfl, rfl⟩, fun _ => ⟨fun z => absurd z l, fun _ _ => ⟨rfl, rfl⟩⟩⟩, h, (pu_cf.id W).cq, (pu_mf.id WN).mq, fun z => absurd z l, fun z => absurd z l, fun _ => ⟨rfl, rfl⟩⟩
    obtain ⟨r3, n5, hg⟩ := hl l
    have f0 : N.1 603 13 = 0 := h.ff.1 l
    obtain ⟨i, hi, hL⟩ := h.lv l
    have rt := hL.2.2.2.2.2.2.2.1.2
    by_cases c : M.1 76 7 = 5
    case neg =>
      have t44 : N.1 603 6 ≠ 44 := by rcases rt with a | a | a | a | a | a <;> omega
      refine ⟨M, N, w_rd_readOrders_2 W hSo h764 hq.1 hq.2 ⟨fun z => absurd z (by omega), fun _ => ⟨fun _ => ⟨fun z => absurd z c, fun _ _ => ⟨rfl, rfl⟩⟩, fun z => absurd l z⟩⟩, h, (pu_cf.id W).cq, (pu_mf.id WN).mq, fun _ => ⟨l, n5, hg⟩, fun _ v2 v3 v6 => ?_, fun z => absurd l z⟩
      refine w_m_comma_0 WN ⟨fun _ => ⟨fun z => absurd z t44, fun _ _ => ⟨0, rfl, WN, ?_⟩⟩, fun z => absurd f0 z⟩
      refine w_m_personLine_46 WN (by omega) ⟨fun _ => ⟨fun _ => ?_, fun z => absurd f0 z⟩, fun z => absurd rfl z⟩
      rw [n5, if_pos l]
      exact ⟨by omega, by omega, fun _ => ⟨rfl, rfl⟩⟩
    have t44 : N.1 603 6 = 44 := by rcases rt with a | a | a | a | a | a <;> omega
    obtain ⟨M2, N2, v1, v2', v3', v4, v5, v6', v7⟩ := rl_pass h (fun _ => by omega)
    obtain ⟨q1, q2⟩ := v2' l
    have l2 : M2.1 76 9 = 0 := v7.2 l
    have q42 := v4.1.2.2.2.1
    obtain ⟨room, hroom⟩ : ∃ room : Int, (room = 0 ↔ (r : Int) = 3) ∧ (room = 0 ∨ room = 1) := by
      by_cases e : (r : Int) = 3
      · exact ⟨0, ⟨fun _ => e, fun _ => rfl⟩, Or.inl rfl⟩
      · exact ⟨1, ⟨fun z => absurd z (by decide), fun z => absurd z e⟩, Or.inr rfl⟩
    obtain ⟨M3, N3, o1, o2, o3, o4, o5, o6, o7⟩ := rl_order (room := room) (many := r) v4 hq ⟨hroom.1, by omega, by omega⟩ l2 (hg.keep hSo hq v5 v6')
    have n53 : N3.1 607 5 = q := by rw [o4.2.2.2.2 5 (by decide) (by omega), v6'.2.2.2.2 5 (by decide)]; exact n5
    obtain ⟨M4, N4, p1, p2, p3, p4, p5, p6, p7⟩ := ih (r + 1) M3 N3 (by omega) (by omega) o2 (fun z => ⟨by have := (o5 z).1; omega, n53, (o5 z).2⟩)
    have er : ((r + 1 : Nat) : Int) = (r : Int) + 1 := by omega
    rw [er] at p1 p6
    have adr : nb_add (r : Int) 1 = (r : Int) + 1 := nb_add_eq (by omega) (by omega)
    have q43 := o2.1.2.2.2.1
    refine ⟨M4, N4, w_rd_readOrders_2 W hSo h764 hq.1 hq.2 ⟨fun z => absurd z (by omega), fun _ => ⟨fun _ => ⟨fun _ => nb_Wp v1 ⟨rfl, v5.1, q42, ?_⟩, fun z => absurd c z⟩, fun z => absurd l z⟩⟩, p2, (v5.cq.tr o3).tr p3, (v6'.mq.tr o4).tr p4, fun z => ⟨l, (p5 z).2⟩, fun _ v2 v3 v6 => ?_, fun z => absurd l z⟩
    · rw [adr]
      rcases hroom.2 with e | e
      · subst e
        have e3 := hroom.1.1 rfl
        exact ⟨fun z => absurd z (by omega), fun _ => nb_Wp o1 ⟨rfl, o3.1, q43, p1⟩⟩
      · subst e
        have e3 : (r : Int) ≠ 3 := fun z => absurd (hroom.1.2 z) (by decide)
        exact ⟨fun _ => nb_Wp o1 ⟨rfl, o3.1, q43, p1⟩, fun z => absurd z (by omega)⟩
    · refine w_m_comma_0 WN ⟨fun _ => ⟨fun _ => nb_Wp q2 ⟨rfl, v6'.1, fun _ => ⟨1, rfl, v6'.1, ?_⟩⟩, fun z => absurd t44 z⟩, fun z => absurd f0 z⟩
      by_cases l3 : M3.1 76 9 = 0
      · exact o6 l3 _ _ _ _ (fun v3' v6' => p6 l3 _ _ _)
      · obtain ⟨e1, e2⟩ := p7 l3
        subst e1 e2
        rw [if_neg l3]
        exact o7 l3 _ _ _
