/-! line by line -/
variable {So n d s p : Int} {tx : Int → Int} {cnt : Nat} {E : Nat → Int}
theorem rl_loop {w1 w2 v1 v2 : nb_V} : ∀ (m j : Nat), j + m = cnt → ∀ (M N : nb_M) (v3 : nb_V), pu_RL So tx n cnt E M N j (N.1 607 3) (N.1 607 4) (N.1 607 5) → (M.1 76 9 = 0 → pu_HR M So (N.1 607)) → (∀ a, So + 20 ≤ a → a < So + 30 → pu_gk (M.1 a)) → ∃ x M1 N1, nb_R nb_P 224 11 [(13, 76), v1, v2, v3, (0, (m : Int))] [] M = some ([(0, x)], M1) ∧ (∀ Q, nb_W 105 30 [(20, 603), w1, w2] [] N1 Q → nb_W 105 16 [(20, 603), w1, w2] [] N Q) ∧ pu_cl So M M1 ∧ pu_ml N N1 ∧ pu_ph N1 ∧ pu_RE So M1 N1 x := by
  intro m
  induction m with
  | zero =>
    intro j hj M N v3 h hH gk
    have hB := h.1
    obtain ⟨W, WN, hSo, h764, -⟩ := hB
    obtain ⟨x, M1, N1, e1, e2, e3, e4, e5, e6, e7⟩ := rl_end (w1 := w1) (w2 := w2) h hH
    have hx : x = 0 ∨ x = 1 := by rcases e6 with ⟨q, -⟩ | ⟨q, -⟩ <;> omega
    refine ⟨x, M1, N1, ?_, fun Q g => ?_, e3.cl hSo, e4.ml, e5.2.2.2.2.2.2.2.1.2, e6⟩
    · refine nb_Wq (w_rd_reads_11 W hSo h764 ⟨fun z => absurd z (by omega), fun _ => nb_Wp e1 ⟨rfl, e3.1, e3.2.2.2.trans h764, fun q _ => ⟨?_, rfl⟩, fun q _ => ⟨?_, rfl⟩⟩⟩)
      · rw [e7.1 q]
      · rw [show x = 0 by rcases hx with y | y; exact y; exact absurd (e7.2 y) q]
    · refine w_m_house_16 WN ⟨fun z => ⟨fun q => ?_, fun _ => e2 Q g⟩, fun _ => e2 Q g⟩
      obtain ⟨i, hi, hL⟩ := h.lv (h.ff.2 z)
      have k4 := (rl_k4 hL.2.2.2.2.2.2.2.1).2 q
      have ic : i = cnt := by have := hL.2.2.2.1; omega
      have z0 := hL.2.2.2.2.2.2.1 ic
      have e7 := hL.2.2.2.2.1
      rw [ic, z0] at e7
      rw [e7] at k4
      exact absurd k4 (by decide)
  | succ m ih =>
    intro j hj M N v3 h hH gk
    have hB := h.1
    obtain ⟨W, WN, hSo, h764, -⟩ := hB
    by_cases c : M.1 76 9 = 0 ∧ M.1 76 7 = 4
    · -- one more line
      obtain ⟨c1, c2⟩ := c
      obtain ⟨i, hi, hL⟩ := h.lv c1
      have k4 := (rl_k4 hL.2.2.2.2.2.2.2.1).1 c2
      have l2 := hL.2.1
      obtain ⟨Ma, Na, s1, s2, s3, s4, s5, s6⟩ := rl_step h.1 hL (by omega) (by omega)
      have uSo := hSo
      unfold nb_hs at uSo
      have g3 := s6.2.2.2.2 3 (by decide)
      have g4 := s6.2.2.2.2 4 (by decide)
      have g5 := s6.2.2.2.2 5 (by decide)
      have hRa : pu_HR Ma So (Na.1 607) := (hH c1).congr (fun a a0 a1 => s5.2.2.1 a (by omega) (by omega) (by omega) (by omega)) (fun j _ j1 => s6.2.2.2.2 j j1)
      have gka : ∀ a, So + 20 ≤ a → a < So + 30 → pu_gk (Ma.1 a) := fun a a0 a1 => by
        rw [s5.2.2.1 a (by omega) (by omega) (by omega) (by omega)]
        exact gk a a0 a1
      have hRL : pu_RL So tx n cnt E Ma Na (j + 1) (Na.1 607 3) (Na.1 607 4) (Na.1 607 5) := by
        rw [g3, g4, g5]
        exact ⟨s3, Or.inl ⟨i + 1, by omega, s4⟩⟩
      obtain ⟨Mb, Nb, t1, t2, t3, t4, t5, t6⟩ := rl_line hRL s4.1 hRa gka
      have cl2 := (s5.cl hSo).tr t4
      obtain ⟨x, M1, N1, u1, u2, u3, u4, u5, u6⟩ := ih (j + 1) (by omega) Mb Nb (nb_clr v3) t3 t6 (fun a a0 a1 => (gk a a0 a1).of (fun k hk => cl2.2.2.2.2 a k a0 a1 hk))
      refine ⟨x, M1, N1, ?_, fun Q g => ?_, cl2.tr u3, (s6.ml.tr t5).tr u4, u5, u6⟩
      · refine nb_Wq (w_rd_reads_11 W hSo h764 ⟨fun _ => ⟨fun _ => ⟨fun _ => nb_Wp s1 ⟨rfl, s5.1, s5.2.2.2.trans h764, nb_Wp t1 ⟨rfl, t4.1, cl2.2.2.2.1.trans h764, ?_⟩⟩, fun z => absurd c2 z⟩, fun z => absurd c1 z⟩, fun z => absurd z (by omega)⟩)
        have c9 := h.1.ctn.2
        rw [nb_add_eq (by omega) (by omega), show ((m + 1 : Nat) : Int) + -1 = (m : Int) by omega]
        exact ⟨_, _, u1, rfl, rfl⟩
      · exact w_m_house_16 WN ⟨fun _ => ⟨fun _ => nb_Wp s2 ⟨rfl, s6.1, nb_Wp t2 ⟨rfl, t5.1, u2 Q g⟩⟩, fun z => absurd k4 z⟩, fun z => absurd l2 z⟩
    · obtain ⟨x, M1, N1, e1, e2, e3, e4, e5, e6, e7⟩ := rl_end (w1 := w1) (w2 := w2) h hH
      have hx : x = 0 ∨ x = 1 := by rcases e6 with ⟨q, -⟩ | ⟨q, -⟩ <;> omega
      refine ⟨x, M1, N1, ?_, fun Q g => ?_, e3.cl hSo, e4.ml, e5.2.2.2.2.2.2.2.1.2, e6⟩
      · have fin : nb_W 228 0 [(13, 76)] [] M (fun r M12 => r = [] ∧ nb_Lay M12 ∧ M12.1 76 4 = So ∧ (M12.1 76 9 = 0 → (nb_Lay M12 → ([(0, 1)] = [(0, x)] ∧ M12 = M1))) ∧ (M12.1 76 9 ≠ 0 → (nb_Lay M12 → ([(0, 0)] = [(0, x)] ∧ M12 = M1)))) := by
          refine nb_Wp e1 ⟨rfl, e3.1, e3.2.2.2.trans h764, fun q _ => ⟨?_, rfl⟩, fun q _ => ⟨?_, rfl⟩⟩
          · rw [e7.1 q]
          · rw [show x = 0 by rcases hx with y | y; exact y; exact absurd (e7.2 y) q]
        exact nb_Wq (w_rd_reads_11 W hSo h764 ⟨fun _ => ⟨fun z9 => ⟨fun z7 => absurd ⟨z9, z7⟩ c, fun _ => fin⟩, fun _ => fin⟩, fun _ => fin⟩)
      · refine w_m_house_16 WN ⟨fun z => ⟨fun q => ?_, fun _ => e2 Q g⟩, fun _ => e2 Q g⟩
        have z9 := h.ff.2 z
        obtain ⟨i, hi, hL⟩ := h.lv z9
        exact absurd ⟨z9, (rl_k4 hL.2.2.2.2.2.2.2.1).2 q⟩ c
/-- the reference's zeroes -/
theorem rl_zero {N : nb_M} {l1 : Int} {Q : List nb_V → nb_M → Prop} (W : nb_Lay N) (h : nb_W 105 9 [(20, 603), (0, l1), (0, 347)] [] (nb_up N 607 (fun j => if 0 ≤ j ∧ j < 347 then 0 else N.1 607 j)) Q) : nb_W 105 9 [(20, 603), (0, l1), (0, 0)] [] N Q := by
  have lp : ∀ (m k : Nat), k + m = 347 → nb_W 105 9 [(20, 603), (0, l1), (0, (k : Int))] [] (nb_up N 607 (fun j => if 0 ≤ j ∧ j < (k : Int) then 0 else N.1 607 j)) Q := by
    intro m
    induction m with
    | zero =>
      intro k hk
      have ek : k = 347 := by omega
      subst ek
      exact h
    | succ m ih =>
      intro k hk
      refine w_m_house_9 (W.up (fun i w => nb_nnum (by decide) (by decide))) (by omega) ⟨fun _ => ?_, fun z => absurd z (by omega)⟩
      have g := ih (k + 1) (by omega)
      rw [show ((k + 1 : Nat) : Int) = (k : Int) + 1 by omega] at g
      have e : nb_wr (nb_up N 607 (fun j => if 0 ≤ j ∧ j < (k : Int) then 0 else N.1 607 j)) 607 k 0 = nb_up N 607 (fun j => if 0 ≤ j ∧ j < (k : Int) + 1 then 0 else N.1 607 j) := by
        refine Prod.ext (funext fun a => funext fun j => ?_) rfl
        rw [nb_wr_1]
        by_cases ca : a = 607
        · subst ca
          rw [nb_up_same, nb_up_same]
          by_cases cj : j = k
          · rw [if_pos ⟨rfl, cj⟩, if_pos (by omega)]
          · rw [if_neg (by omega)]
            by_cases c2 : 0 ≤ j ∧ j < (k : Int)
            · rw [if_pos c2, if_pos (by omega)]
            · rw [if_neg c2, if_neg (by omega)]
        · rw [if_neg (by omega), nb_up_other ca, nb_up_other ca]
      rw [e]
      exact g
  have g := lp 347 0 rfl
  have e : (fun j : Int => if 0 ≤ j ∧ j < ((0 : Nat) : Int) then 0 else N.1 607 j) = N.1 607 := funext fun j => if_neg (by omega)
  rw [e, nb_up_id] at g
  exact g
theorem rl_reads {M N : nb_M} {v4 : nb_V} (W : nb_Lay M) (WN : nb_Lay N) (hSo : nb_hs So) (hb : pu_by M tx n) (hn : 0 ≤ n ∧ n ≤ 1000) (gk : ∀ a, So + 20 ≤ a → a < So + 30 → pu_gk (M.1 a)) (n604 : N.1 604 = tx) (n13 : N.1 603 13 = 0) (n9 : N.1 603 9 = 0) : ∃ x M1 N1, nb_R nb_P 224 0 [(13, 76), (4, 3), (0, n), (12, So), v4] [] M = some ([(0, x)], M1) ∧ (∀ Q, nb_W 105 30 [(20, 603), (0, n), (0, 347)] [] N1 Q → nb_W 105 9 [(20, 603), (0, n), (0, 0)] [] N Q) ∧ (nb_Lay M1 ∧ M1.2 = M.2 ∧ (∀ a, (a < 76 ∨ 84 ≤ a) → (a < So ∨ So + 36 ≤ a) → M1.1 a = M.1 a) ∧ ∀ a i, So + 20 ≤ a → a < So + 30 → 8 ≤ i → M1.1 a i = M.1 a i) ∧ (nb_Lay N1 ∧ N1.2 = N.2 ∧ (∀ a, a ≠ 603 → a ≠ 605 → a ≠ 607 → N1.1 a = N.1 a) ∧ ∀ i, (i < 3 ∨ i = 11 ∨ i = 12 ∨ 13 < i) → N1.1 603 i = N.1 603 i) ∧ pu_ph N1 ∧ pu_RE So M1 N1 x := by
  have uSo := hSo
  unfold nb_hs at uSo
  obtain ⟨r, Ma, ea, hr, fa, cnt, E, hT⟩ := sp_tk_part (v3 := (98, 0)) (v4 := (98, 0)) (v5 := (98, 0)) W hb hn
  subst hr
  obtain ⟨fa1, fa2, fa3⟩ := fa
  have hWb : nb_Lay (nb_wr Ma 76 4 So) := fa1.wr (fun w => nb_nlit (by decide) (by decide))
  obtain ⟨r, Mc, ec, hr, hc, hz⟩ := sp_h_empty (v1 := (98, 0)) hWb hSo
  subst hr
  obtain ⟨hc1, hc2, hc3, hc4⟩ := hc
  have Wd : nb_Lay (nb_wr (nb_wr (nb_wr (nb_wr (nb_wr (nb_wr Mc 76 5 0) 76 9 0) 76 10 (-1)) 76 6 0) 76 7 (Mc.1 78 0)) 76 8 (Mc.1 80 0)) := (((((hc1.wr (fun w => nb_nlit (by decide) (by decide))).wr (fun w => nb_nlit (by decide) (by decide))).wr (fun w => nb_nlit (by decide) (by decide))).wr (fun w => nb_nlit (by decide) (by decide))).wr (fun w => nb_nlit (by decide) (by decide))).wr (fun w => nb_nlit (by decide) (by decide))
  have d76 : ∀ j, (nb_wr (nb_wr (nb_wr (nb_wr (nb_wr (nb_wr Mc 76 5 0) 76 9 0) 76 10 (-1)) 76 6 0) 76 7 (Mc.1 78 0)) 76 8 (Mc.1 80 0)).1 76 j = if j = 8 then Mc.1 80 0 else if j = 7 then Mc.1 78 0 else if j = 6 then 0 else if j = 10 then -1 else if j = 9 then 0 else if j = 5 then 0 else Mc.1 76 j := fun j => by simp [nb_wr_1]
  have db : ∀ b, b ≠ 76 → (nb_wr (nb_wr (nb_wr (nb_wr (nb_wr (nb_wr Mc 76 5 0) 76 9 0) 76 10 (-1)) 76 6 0) 76 7 (Mc.1 78 0)) 76 8 (Mc.1 80 0)).1 b = Mc.1 b := fun b hbb => by rw [nb_wr_b hbb, nb_wr_b hbb, nb_wr_b hbb, nb_wr_b hbb, nb_wr_b hbb, nb_wr_b hbb]
  have d2 : (nb_wr (nb_wr (nb_wr (nb_wr (nb_wr (nb_wr Mc 76 5 0) 76 9 0) 76 10 (-1)) 76 6 0) 76 7 (Mc.1 78 0)) 76 8 (Mc.1 80 0)).2 = M.2 := hc2.trans fa2
  have pre := @w_rd_reads_0 n So v4 M
  generalize hMd : nb_wr (nb_wr (nb_wr (nb_wr (nb_wr (nb_wr Mc 76 5 0) 76 9 0) 76 10 (-1)) 76 6 0) 76 7 (Mc.1 78 0)) 76 8 (Mc.1 80 0) = Md at Wd d76 db d2
  have cT : ∀ b, 77 ≤ b → b < 81 → Md.1 b = Ma.1 b := fun b b0 b1 => by rw [db b (by omega), hc3 b (by omega), nb_wr_b (by omega)]
  have hTd : pu_TF Md tx n cnt E := by
    unfold pu_TF pu_TK at hT ⊢
    rw [cT 77 (by decide) (by decide), cT 78 (by decide) (by decide), cT 79 (by decide) (by decide), cT 80 (by decide) (by decide)]
    exact hT
  -- the reference
  have Wz : nb_Lay (nb_up N 607 (fun j => if 0 ≤ j ∧ j < 347 then 0 else N.1 607 j)) := WN.up (fun i w => nb_nnum (by decide) (by decide))
  have Wb : nb_Lay (nb_wr (nb_wr (nb_up N 607 (fun j => if 0 ≤ j ∧ j < 347 then 0 else N.1 607 j)) 603 3 n) 603 5 0) := (Wz.wr (fun w => nb_nlit (by decide) (by decide))).wr (fun w => nb_nlit (by decide) (by decide))
  have n603 : ∀ j, (nb_wr (nb_wr (nb_up N 607 (fun j => if 0 ≤ j ∧ j < 347 then 0 else N.1 607 j)) 603 3 n) 603 5 0).1 603 j = if j = 5 then 0 else if j = 3 then n else N.1 603 j := fun j => by simp [nb_wr_1, nb_up_1]
  have n607 : ∀ j, 0 ≤ j → j < 347 → (nb_wr (nb_wr (nb_up N 607 (fun j => if 0 ≤ j ∧ j < 347 then 0 else N.1 607 j)) 603 3 n) 603 5 0).1 607 j = 0 := fun j j0 j1 => by
    rw [nb_wr_b (by decide), nb_wr_b (by decide), nb_up_same]
    exact if_pos ⟨j0, j1⟩
  have nb : ∀ b, b ≠ 603 → b ≠ 607 → (nb_wr (nb_wr (nb_up N 607 (fun j => if 0 ≤ j ∧ j < 347 then 0 else N.1 607 j)) 603 3 n) 603 5 0).1 b = N.1 b := fun b b0 b1 => by rw [nb_wr_b b0, nb_wr_b b0, nb_up_other b1]
  have pren := @w_m_house_9 n 347 (nb_up N 607 (fun j => if 0 ≤ j ∧ j < 347 then 0 else N.1 607 j))
  have n2 : (nb_wr (nb_wr (nb_up N 607 (fun j => if 0 ≤ j ∧ j < 347 then 0 else N.1 607 j)) 603 3 n) 603 5 0).2 = N.2 := rfl
  generalize hNb : nb_wr (nb_wr (nb_up N 607 (fun j => if 0 ≤ j ∧ j < 347 then 0 else N.1 607 j)) 603 3 n) 603 5 0 = Nb at Wb n603 n607 nb n2 pren
  obtain ⟨Nc, en, nt, hRL⟩ := rl_init (So := So) (tx := tx) (n := n) (cnt := cnt) (E := E) Wd Wb hSo hTd ((d76 4).trans ((congrFun (hc3 76 (by omega)) 4).trans (by rw [nb_wr_1, if_pos ⟨rfl, rfl⟩]))) (d76 5) (d76 9) (d76 6) (by rw [d76 7, db 78 (by decide)]; rfl) (by rw [d76 8, db 80 (by decide)]; rfl) hn.2 ((nb 604 (by decide) (by decide)).trans n604) (n603 3) (n603 5) ((n603 13).trans n13) ((n603 9).trans n9) n607
  have c607 : Nc.1 607 = Nb.1 607 := nt.2.2.1 607 (by decide) (by decide)
  have zc : ∀ j, 0 ≤ j → j < 185 → Nc.1 607 j = 0 := fun j j0 j1 => by rw [c607]; exact n607 j j0 (by omega)
  have hRL2 : pu_RL So tx n cnt E Md Nc 0 (Nc.1 607 3) (Nc.1 607 4) (Nc.1 607 5) := by
    rw [zc 3 (by decide) (by decide), zc 4 (by decide) (by decide), zc 5 (by decide) (by decide)]
    exact hRL
  have hzd : pu_hz So Md 10 := by
    refine ⟨fun i a b => ?_, fun q q0 q1 => ⟨?_, fun j j0 j1 => ?_⟩⟩
    · rw [db So (by omega)]; exact hz.1 i a b
    · rw [db (So + 20 + q) (by omega)]; exact (hz.2 q q0 q1).1
    · rw [db (So + 5 + q) (by omega)]; exact (hz.2 q q0 q1).2 j j0 j1
  have hRd : pu_HR Md So (Nc.1 607) := pu_HR.zero hzd zc
  have gd : ∀ a i, So + 20 ≤ a → a < So + 30 → 8 ≤ i → Md.1 a i = M.1 a i := fun a i a0 a1 i0 => by
    rw [db a (by omega), hc4 a i a0 a1 (by omega), nb_wr_b (by omega), fa3 a (by omega) (by omega) (by omega) (by omega)]
  obtain ⟨Me, Ne, l1, l2, l3, l4, l5, l6⟩ := rl_line hRL2 (d76 9) hRd (fun a a0 a1 => (gk a a0 a1).of (fun i i0 => gd a i a0 a1 i0))
  obtain ⟨x, M1, N1, k1, k2, k3, k4, k5, k6⟩ := rl_loop (w1 := (0, n)) (w2 := (0, 347)) (v1 := (4, 3)) (v2 := (0, n)) cnt 0 (by omega) Me Ne (nb_clr (12, So)) l3 l6 (fun a a0 a1 => (gk a a0 a1).of (fun i i0 => (l4.2.2.2.2 a i a0 a1 i0).trans (gd a i a0 a1 i0)))
  have cl := l4.tr k3
  have ml := l5.tr k4
  refine ⟨x, M1, N1, nb_Wq (pre W hSo (nb_Wp ea ⟨rfl, fa1, nb_Wp ec ⟨rfl, hc1, ?_⟩⟩)), fun Q g => rl_zero WN (pren Wz (by omega) ⟨fun z => absurd z (by decide), fun _ => nb_Wp en ⟨rfl, nt.1, nb_Wp l2 ⟨rfl, l5.1, k2 Q g⟩⟩⟩), ⟨k3.1, cl.2.1.trans d2, fun a a0 a1 => ?_, fun a i a0 a1 i0 => (cl.2.2.2.2 a i a0 a1 i0).trans (gd a i a0 a1 i0)⟩, ⟨k4.1, ml.2.1.trans (nt.2.1.trans n2), fun a a0 a1 a2 => ?_, fun i hi => ?_⟩, k5, k6⟩
  · rw [hMd]
    refine nb_Wp l1 ⟨rfl, l4.1, ?_⟩
    rw [l3.1.ctn.1]
    exact ⟨_, _, k1, rfl, rfl⟩
  · rw [cl.2.2.1 a (by omega) (by omega) (by omega) (by omega) a1, db a (by omega), hc3 a a1, nb_wr_b (by omega), fa3 a (by omega) (by omega) (by omega) (by omega)]
  · rw [ml.2.2.1 a a0 a1 a2, nt.2.2.1 a a0 a1, nb a a0 a2]
  · rw [ml.2.2.2 i (by omega), nt.2.2.2 i (by omega), n603 i, if_neg (by omega), if_neg (by omega)]
