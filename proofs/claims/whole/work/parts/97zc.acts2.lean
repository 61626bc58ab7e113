/-! CALLS: moves, lets, calls, leaves; printed by wip/gen/req/p97zc.py -/
theorem nb_n88 {p j w : Int} (h : 0 ≤ p ∧ p < 10) : ¬ nb_rf (88 + p) j w := by
  have := nb_nsg (j := j) (w := w) nb_sc84 h.1 h.2
  rwa [show (84 : Int) + 4 + p = 88 + p by omega] at this
theorem pu_pair_a {c : Nat} {ca : List nb_V} {m : Nat} {ma : List nb_V} (h : ∀ (M : nb_M) (k : Int), pu_I M k → 0 ≤ k → k ≤ 512 → (∃ v tr : Int, (tr = 4 → M.1 603 11 = 4) ∧ nb_W c 0 ca [] M (fun r1 M1 => r1 = [(0, v)] ∧ pu_CQ M M1 tr) ∧ ∀ M1, pu_CQ M M1 tr → nb_W m 0 ma [] M1 (fun r2 M2 => r2 = [(0, v)] ∧ pu_MQ M1 M2 tr)) ∨ ∃ v : Int, nb_W c 0 ca [] M (fun r1 M1 => r1 = [(0, v)] ∧ (nb_Lay M1 ∧ pu_sm M1 M) ∧ nb_W m 0 ma [] M1 (fun r2 M2 => r2 = [(0, v)] ∧ pu_I M2 (k + 1) ∧ pu_sm M2 M))) : pu_pair c ca m ma := by
  intro M k hI h0 h1
  rcases h M k hI h0 h1 with ⟨v, tr, h4, hc, hm⟩ | ⟨v, hc⟩
  · refine nb_W.imp hc ?_
    rintro r1 M1 ⟨rfl, hq⟩
    refine ⟨⟨hq.1, hq.sm⟩, v, rfl, nb_W.imp (hm M1 hq) ?_⟩
    rintro r2 M2 ⟨rfl, hq2⟩
    exact ⟨rfl, pu_I_q hI hq hq2 h4, pu_sm_q hq hq2⟩
  · refine nb_W.imp hc ?_
    rintro r1 M1 ⟨rfl, hL, hm⟩
    exact ⟨hL, v, rfl, hm⟩
theorem pu_Sn.guests {N N' : nb_M} {Ho k k' : Int} {r R R' : Int → Int} (h : pu_Sn N 84 Ho r R k) (hr : pu_Rr r) (e : ∀ a i, 84 ≤ a → a < 106 → (a < 88 ∨ 98 ≤ a ∨ i = 11 ∨ i = 13 ∨ i = 14) → N'.1 a i = N.1 a i) (hG : ∀ p, 0 ≤ p → p < r 5 → pu_G (N'.1 (88 + p)) (pu_pe0 r) R' p) (ag : pu_ag R R') (eh : ∀ j, 92 ≤ j → R' j = R j) (hR' : pu_Rw R') (hs : ∀ p, 0 ≤ p → p ≤ 9 → R' (12 + 8 * p + 3) ≤ 1000 + k') : pu_Sn N' 84 Ho r R' k' := by
  obtain ⟨⟨a1, a2, a3, a4, a5, a6⟩, hX, hI, b4, b5, b6, b7, b8⟩ := h
  have n5 := hr.2.2.2.2.2.2.1
  have hR := hI.1
  have r1 := hR.2.2.2.1
  have e1 := ag.1 1 (by omega)
  refine ⟨⟨?_, ?_, ?_, fun k x y => ?_, fun p x y => ?_, fun s x y => ?_⟩, fun p x y => ?_, pu_Ib_ag n5.2 ag (fun _ _ _ => rfl) hR' (fun s x y => by rw [eh _ (by omega)]; exact hI.2.2.2 s x y) hI, ?_, ?_, ?_, ?_, hs⟩
  · rw [e 84 4 (by decide) (by decide) (by decide)]; exact a1
  · rw [e 84 5 (by decide) (by decide) (by decide)]; exact a2
  · rw [e 84 6 (by decide) (by decide) (by decide), e1]; exact a3
  · rw [e1] at y
    rw [e (84 + 3) k (by decide) (by decide) (by omega), ag.1 _ (by omega)]; exact a4 k x y
  · rw [show (84 : Int) + 4 + p = 88 + p by omega]
    exact hG p x y
  · have g := a6 s x y
    have n4 := hr.2.2.2.2.2.1
    unfold pu_V at g ⊢
    rw [eh (92 + 4 * s) (by omega), eh (92 + 4 * s + 1) (by omega), eh (92 + 4 * s + 2) (by omega), eh (92 + 4 * s + 3) (by omega)]
    rw [e (84 + 14 + 2 * s) 1 (by omega) (by omega) (by omega), e (84 + 14 + 2 * s) 2 (by omega) (by omega) (by omega), e (84 + 14 + 2 * s) 3 (by omega) (by omega) (by omega), e (84 + 14 + 2 * s) 4 (by omega) (by omega) (by omega), e (84 + 14 + 2 * s) 5 (by omega) (by omega) (by omega), e (84 + 14 + 2 * s) 6 (by omega) (by omega) (by omega), e (84 + 14 + 2 * s) 7 (by omega) (by omega) (by omega), e (84 + 14 + 2 * s + 1) 0 (by omega) (by omega) (by omega), e (84 + 14 + 2 * s + 1) 1 (by omega) (by omega) (by omega)]
    exact g
  · exact pu_Gx_ag n5.2 ⟨x, y⟩ hR ag (fun _ _ _ => rfl) (e _ 11 (by omega) (by omega) (by omega)) (e _ 13 (by omega) (by omega) (by omega)) (e _ 14 (by omega) (by omega) (by omega)) (hX p x y)
  · rw [e 84 3 (by decide) (by decide) (by decide)]; exact b4
  · rw [e 84 7 (by decide) (by decide) (by decide), ag.1 0 (by decide)]; exact b5
  · rw [e 84 8 (by decide) (by decide) (by decide)]; exact b6
  · rw [ag.1 0 (by decide)]; exact b7
theorem pu_MF.st {N N' : nb_M} {i v : Int} (h : pu_MF N N') : pu_MF N (nb_wr N' 608 i v) := by
  obtain ⟨h1, h2, h3, h4, h5⟩ := h
  refine ⟨h1.wr (fun w => nb_nrow (Or.inl rfl)), h2, pu_I7_wr h3 (by decide), fun a p q s t u v => ?_, fun i a b c d e f g x y => ?_⟩
  · rw [nb_wr_b q]; exact h4 a p q s t u v
  · rw [nb_wr_b (by decide)]; exact h5 i a b c d e f g x y
theorem sp_m_noteQ {N : nb_M} {U : Int} {v1 : nb_V} (W : nb_Lay N) (eU : N.1 603 21 = U) (hU : 0 ≤ U ∧ U ≤ 12) (h7 : pu_I7 N) : nb_W 200 0 [(20, 603), v1] [] (nb_wr (nb_wr N 603 0 0) 603 11 0) (fun r' N' => r' = [] ∧ pu_MF N N' ∧ N'.1 603 11 = 0 ∧ N'.1 603 21 = pu_kU U ∧ N'.1 603 22 = N.1 603 22 ∧ N'.1 608 = N.1 608 ∧ N'.1 611 = N.1 611 ∧ pu_UR (N.1 610) (N'.1 610) (N.1 608) U ∧ ∀ a, a ≠ 603 → a ≠ 610 → N'.1 a = N.1 a) := by
  have W2 : nb_Lay (nb_wr (nb_wr N 603 0 0) 603 11 0) := (W.wr (fun w => nb_nlit (by decide) (by decide))).wr (fun w => nb_nlit (by decide) (by decide))
  refine nb_W.imp (sp_m_note (U := U) W2 (by rw [nb_wr_1, if_neg (by omega), nb_wr_1, if_neg (by omega)]; exact eU) hU) ?_
  rintro r' N' ⟨rfl, l, e2, e21, eo, ea, ur⟩
  have ea' : ∀ a, a ≠ 603 → a ≠ 610 → N'.1 a = N.1 a := fun a p q => by rw [ea a p q, nb_wr_b p, nb_wr_b p]
  have eo' : ∀ i, i ≠ 0 → i ≠ 11 → i ≠ 21 → N'.1 603 i = N.1 603 i := fun i p q s => by rw [eo i s, nb_wr_1, if_neg (by omega), nb_wr_1, if_neg (by omega)]
  refine ⟨rfl, ⟨l, e2, ?_, fun a p q s t u v => ea' a p t, fun i a b c d e f g x y => eo' i a b c⟩, ?_, e21, eo' 22 (by decide) (by decide) (by decide), ea' 608 (by decide) (by decide), ea' 611 (by decide) (by decide), ?_, ea'⟩
  · unfold pu_I7
    rw [ea' 612 (by decide) (by decide)]
    exact h7
  · rw [eo 11 (by decide), nb_wr_1, if_pos ⟨rfl, rfl⟩]
  · rw [nb_wr_b (by decide), nb_wr_b (by decide), nb_wr_b (by decide), nb_wr_b (by decide)] at ur
    exact ur
theorem pu_act_fin {M N M2 : nb_M} {k Ho : Int} {R' : Int → Int} (h : pu_I M k) (hx2 : M.1 2 2 = Ho) (hop : 1 ≤ M.1 606 5) (c : pu_CF M N (pu_kB (M.1 603 21) (M.1 2 8))) (c15 : N.1 2 15 = 0) (c9 : N.1 2 9 = pu_kU (M.1 603 21)) (c8 : N.1 2 8 = pu_kO (M.1 603 21) (M.1 2 8)) (c11 : N.1 2 11 = M.1 2 11) (sB : pu_Sn N (pu_kB (M.1 603 21) (M.1 2 8)) Ho (M.1 606) (M.1 608) k) (s84 : pu_Sn N 84 Ho (M.1 606) R' (k + 1)) (m : pu_MF N M2) (m11 : M2.1 603 11 = 0) (m21 : M2.1 603 21 = pu_kU (M.1 603 21)) (m22 : M2.1 603 22 = N.1 603 22) (m611 : M2.1 611 = N.1 611) (ur : pu_UR (N.1 610) (M2.1 610) (N.1 608) (M.1 603 21)) (e8 : ∀ i, 0 ≤ i → i < 108 → M2.1 608 i = R' i) : pu_I M2 (k + 1) := by
  obtain ⟨b1, b2, b3⟩ := pu_kB_rg (U := M.1 603 21) (O := M.1 2 8)
  have hI := h
  obtain ⟨hL, ht, ⟨i1, i2, i3⟩, ⟨Ho', So, ⟨s1, s2, s3, s4, s5⟩, ⟨u1, u2, u3, u4⟩, ⟨v1, v2, v3⟩⟩, h6, i7⟩ := h
  have eH : Ho' = Ho := s2.symm.trans hx2
  subst eH
  have hr := i1.1
  rw [c.row (by omega) (by decide), c.row (by omega) (by decide)] at ur
  rw [c.row (by omega) (by decide)] at m22 m611
  have m6 : M2.1 606 = M.1 606 := (m.2.2.2.1 606 (by decide) (by decide) (by decide) (by decide) (by decide) (by decide)).trans (c.row (by omega) (by decide))
  have m2 : M2.1 2 = N.1 2 := m.2.2.2.1 2 (by decide) (by decide) (by decide) (by decide) (by decide) (by decide)
  have mlo : ∀ a, a < 603 → M2.1 a = N.1 a := fun a ha => m.2.2.2.1 a (by omega) (by omega) (by omega) (by omega) (by omega) (by omega)
  have kU1 : 1 ≤ pu_kU (M.1 603 21) ∧ pu_kU (M.1 603 21) ≤ 12 := by
    unfold pu_kU
    split <;> omega
  have kO1 : 0 ≤ pu_kO (M.1 603 21) (M.1 2 8) ∧ pu_kO (M.1 603 21) (M.1 2 8) < 12 := by
    unfold pu_kO
    split <;> omega
  refine pu_I_asm hI hx2 hop (by omega) c m ⟨by rw [m2, c15, m11], by rw [m11]; decide⟩ ?_ ⟨?_, ?_, ?_, fun j a b => ?_⟩ ⟨?_, ?_, fun j a b => ?_⟩
  · exact pu_Sn_congr hr e8 (pu_Sn_keep hr (Int.le_refl _) s84 (fun a i p q => by rw [mlo a (by omega)]))
  · rw [m21]; omega
  · rw [m2, m21]; exact c9
  · rw [m2, c8]; exact kO1
  · rw [m21] at b
    rw [m2, c8, m6]
    have hu := fun i p q => ur j i a b p q
    by_cases e : j = pu_kU (M.1 603 21) - 1
    · have eB : 273 + 22 * ((pu_kO (M.1 603 21) (M.1 2 8) + j) % 12) = pu_kB (M.1 603 21) (M.1 2 8) := by
        unfold pu_kB
        rw [e]
      rw [eB]
      exact pu_Sn_congr hr (fun i p q => (hu i p q).trans (if_pos e)) (pu_Sn_keep hr (by omega) sB (fun a i p q => by rw [mlo a (by omega)]))
    · by_cases e12 : M.1 603 21 = 12
      · have eU : pu_kU (M.1 603 21) = 12 := if_pos e12
        have eO : pu_kO (M.1 603 21) (M.1 2 8) = (M.1 2 8 + 1) % 12 := if_pos e12
        have g := u4 (j + 1) (by omega) (by omega)
        have eA : 273 + 22 * ((M.1 2 8 + (j + 1)) % 12) = 273 + 22 * ((pu_kO (M.1 603 21) (M.1 2 8) + j) % 12) := by
          rw [eO]
          omega
        rw [eA] at g
        refine pu_Sn_congr hr (fun i p q => (hu i p q).trans ((if_neg e).trans (if_pos e12))) (pu_Sn_keep hr (by omega) g (fun a i p q => ?_))
        rw [mlo a (by omega)]
        refine c.2.2.2 a i (by omega) (by omega) ?_
        unfold pu_kB
        rw [eU, eO] at *
        omega
      · have eU : pu_kU (M.1 603 21) = M.1 603 21 + 1 := if_neg e12
        have eO : pu_kO (M.1 603 21) (M.1 2 8) = M.1 2 8 := if_neg e12
        have g := u4 j a (by omega)
        rw [eO]
        refine pu_Sn_congr hr (fun i p q => (hu i p q).trans ((if_neg e).trans (if_neg e12))) (pu_Sn_keep hr (by omega) g (fun a i p q => ?_))
        rw [mlo a (by omega)]
        refine c.2.2.2 a i (by omega) (by omega) ?_
        unfold pu_kB
        rw [eU, eO]
        omega
  · rw [m22]; exact v1
  · rw [m2, c11, m22]; exact v2
  · rw [m22] at b
    rw [m6, m611]
    have g := v3 j a b
    refine pu_Sn_keep hr (by omega) g (fun a i p q => ?_)
    rw [mlo a (by omega)]
    refine c.2.2.2 a i (by omega) (by omega) ?_
    omega
theorem pu_Sn_place {N : nb_M} {Ho p v k : Int} {r R : Int → Int} (h : pu_Sn N 84 Ho r R k) (hr : pu_Rr r) (hp : 0 ≤ p ∧ p < r 5) (hv : 0 ≤ v ∧ v ≤ 19) : pu_Sn (nb_wr N (88 + p) 3 v) 84 Ho r (nb_ud R (12 + 8 * p + 1) v) (k + 1) := by
  have n5 := hr.2.2.2.2.2.2.1
  refine h.guests hr (fun a i _ _ c => by rw [nb_wr_1, if_neg (by omega)]) (fun q a b => ?_) (pu_ag.ud (by omega) (by omega)) (fun j _ => nb_ud_other (by omega)) (pu_Rw_man (by omega) (by omega) h.2.2.1.1) (fun q a b => ?_)
  · have g := h.1.2.2.2.2.1 q a b
    rw [show (84 : Int) + 4 + q = 88 + q by omega] at g
    obtain ⟨g0, g2, g3, g4, g5, g6, g7, g8, g9, g10, g12⟩ := g
    by_cases e : q = p
    · subst e
      refine ⟨?_, ?_, ?_, ?_, ?_, ?_, ?_, ?_, ?_, ?_, ?_⟩
      · rw [nb_wr_1, if_neg (by omega)]; exact g0
      · rw [nb_wr_1, if_neg (by omega)]; exact g2
      · rw [nb_wr_1, if_pos ⟨rfl, rfl⟩, nb_ud_same]
      · rw [nb_wr_1, if_neg (by omega)]; exact g4
      · rw [nb_wr_1, if_neg (by omega), nb_ud_other (by omega)]; exact g5
      · rw [nb_wr_1, if_neg (by omega)]; exact g6
      · rw [nb_wr_1, if_neg (by omega), nb_ud_other (by omega)]; exact g7
      · rw [nb_wr_1, if_neg (by omega), nb_ud_other (by omega)]; exact g8
      · rw [nb_wr_1, if_neg (by omega), nb_ud_other (by omega)]; exact g9
      · rw [nb_wr_1, if_neg (by omega), nb_ud_other (by omega)]; exact g10
      · rw [nb_wr_1, if_neg (by omega), nb_ud_other (by omega)]; exact g12
    · refine ⟨?_, ?_, ?_, ?_, ?_, ?_, ?_, ?_, ?_, ?_, ?_⟩
      · rw [nb_wr_1, if_neg (by omega)]; exact g0
      · rw [nb_wr_1, if_neg (by omega)]; exact g2
      · rw [nb_wr_1, if_neg (by omega), nb_ud_other (by omega)]; exact g3
      · rw [nb_wr_1, if_neg (by omega)]; exact g4
      · rw [nb_wr_1, if_neg (by omega), nb_ud_other (by omega)]; exact g5
      · rw [nb_wr_1, if_neg (by omega)]; exact g6
      · rw [nb_wr_1, if_neg (by omega), nb_ud_other (by omega)]; exact g7
      · rw [nb_wr_1, if_neg (by omega), nb_ud_other (by omega)]; exact g8
      · rw [nb_wr_1, if_neg (by omega), nb_ud_other (by omega)]; exact g9
      · rw [nb_wr_1, if_neg (by omega), nb_ud_other (by omega)]; exact g10
      · rw [nb_wr_1, if_neg (by omega), nb_ud_other (by omega)]; exact g12
  · have g := h.2.2.2.2.2.2.2 q a b
    rw [nb_ud_other (by omega)]
    omega

theorem pu_Sn_look {N : nb_M} {Ho p v k : Int} {r R : Int → Int} (h : pu_Sn N 84 Ho r R k) (hr : pu_Rr r) (hp : 0 ≤ p ∧ p < r 5) (hv : 0 ≤ v ∧ v ≤ 99) : pu_Sn (nb_wr N (88 + p) 5 v) 84 Ho r (nb_ud R (12 + 8 * p + 2) v) (k + 1) := by
  have n5 := hr.2.2.2.2.2.2.1
  refine h.guests hr (fun a i _ _ c => by rw [nb_wr_1, if_neg (by omega)]) (fun q a b => ?_) (pu_ag.ud (by omega) (by omega)) (fun j _ => nb_ud_other (by omega)) (pu_Rw_man (by omega) (by omega) h.2.2.1.1) (fun q a b => ?_)
  · have g := h.1.2.2.2.2.1 q a b
    rw [show (84 : Int) + 4 + q = 88 + q by omega] at g
    obtain ⟨g0, g2, g3, g4, g5, g6, g7, g8, g9, g10, g12⟩ := g
    by_cases e : q = p
    · subst e
      refine ⟨?_, ?_, ?_, ?_, ?_, ?_, ?_, ?_, ?_, ?_, ?_⟩
      · rw [nb_wr_1, if_neg (by omega)]; exact g0
      · rw [nb_wr_1, if_neg (by omega)]; exact g2
      · rw [nb_wr_1, if_neg (by omega), nb_ud_other (by omega)]; exact g3
      · rw [nb_wr_1, if_neg (by omega)]; exact g4
      · rw [nb_wr_1, if_pos ⟨rfl, rfl⟩, nb_ud_same]
      · rw [nb_wr_1, if_neg (by omega)]; exact g6
      · rw [nb_wr_1, if_neg (by omega), nb_ud_other (by omega)]; exact g7
      · rw [nb_wr_1, if_neg (by omega), nb_ud_other (by omega)]; exact g8
      · rw [nb_wr_1, if_neg (by omega), nb_ud_other (by omega)]; exact g9
      · rw [nb_wr_1, if_neg (by omega), nb_ud_other (by omega)]; exact g10
      · rw [nb_wr_1, if_neg (by omega), nb_ud_other (by omega)]; exact g12
    · refine ⟨?_, ?_, ?_, ?_, ?_, ?_, ?_, ?_, ?_, ?_, ?_⟩
      · rw [nb_wr_1, if_neg (by omega)]; exact g0
      · rw [nb_wr_1, if_neg (by omega)]; exact g2
      · rw [nb_wr_1, if_neg (by omega), nb_ud_other (by omega)]; exact g3
      · rw [nb_wr_1, if_neg (by omega)]; exact g4
      · rw [nb_wr_1, if_neg (by omega), nb_ud_other (by omega)]; exact g5
      · rw [nb_wr_1, if_neg (by omega)]; exact g6
      · rw [nb_wr_1, if_neg (by omega), nb_ud_other (by omega)]; exact g7
      · rw [nb_wr_1, if_neg (by omega), nb_ud_other (by omega)]; exact g8
      · rw [nb_wr_1, if_neg (by omega), nb_ud_other (by omega)]; exact g9
      · rw [nb_wr_1, if_neg (by omega), nb_ud_other (by omega)]; exact g10
      · rw [nb_wr_1, if_neg (by omega), nb_ud_other (by omega)]; exact g12
  · have g := h.2.2.2.2.2.2.2 q a b
    rw [nb_ud_other (by omega)]
    omega

theorem pu_Sn_says {N : nb_M} {Ho p v k : Int} {r R : Int → Int} (h : pu_Sn N 84 Ho r R k) (hr : pu_Rr r) (hp : 0 ≤ p ∧ p < r 5) (hv : -100000 ≤ v ∧ v ≤ 100000 ∧ v ≤ 1000 + (k + 1)) : pu_Sn (nb_wr N (88 + p) 7 v) 84 Ho r (nb_ud R (12 + 8 * p + 3) v) (k + 1) := by
  have n5 := hr.2.2.2.2.2.2.1
  refine h.guests hr (fun a i _ _ c => by rw [nb_wr_1, if_neg (by omega)]) (fun q a b => ?_) (pu_ag.ud (by omega) (by omega)) (fun j _ => nb_ud_other (by omega)) (pu_Rw_man (by omega) (by omega) h.2.2.1.1) (fun q a b => ?_)
  · have g := h.1.2.2.2.2.1 q a b
    rw [show (84 : Int) + 4 + q = 88 + q by omega] at g
    obtain ⟨g0, g2, g3, g4, g5, g6, g7, g8, g9, g10, g12⟩ := g
    by_cases e : q = p
    · subst e
      refine ⟨?_, ?_, ?_, ?_, ?_, ?_, ?_, ?_, ?_, ?_, ?_⟩
      · rw [nb_wr_1, if_neg (by omega)]; exact g0
      · rw [nb_wr_1, if_neg (by omega)]; exact g2
      · rw [nb_wr_1, if_neg (by omega), nb_ud_other (by omega)]; exact g3
      · rw [nb_wr_1, if_neg (by omega)]; exact g4
      · rw [nb_wr_1, if_neg (by omega), nb_ud_other (by omega)]; exact g5
      · rw [nb_wr_1, if_neg (by omega)]; exact g6
      · rw [nb_wr_1, if_pos ⟨rfl, rfl⟩, nb_ud_same]
      · rw [nb_wr_1, if_neg (by omega), nb_ud_other (by omega)]; exact g8
      · rw [nb_wr_1, if_neg (by omega), nb_ud_other (by omega)]; exact g9
      · rw [nb_wr_1, if_neg (by omega), nb_ud_other (by omega)]; exact g10
      · rw [nb_wr_1, if_neg (by omega), nb_ud_other (by omega)]; exact g12
    · refine ⟨?_, ?_, ?_, ?_, ?_, ?_, ?_, ?_, ?_, ?_, ?_⟩
      · rw [nb_wr_1, if_neg (by omega)]; exact g0
      · rw [nb_wr_1, if_neg (by omega)]; exact g2
      · rw [nb_wr_1, if_neg (by omega), nb_ud_other (by omega)]; exact g3
      · rw [nb_wr_1, if_neg (by omega)]; exact g4
      · rw [nb_wr_1, if_neg (by omega), nb_ud_other (by omega)]; exact g5
      · rw [nb_wr_1, if_neg (by omega)]; exact g6
      · rw [nb_wr_1, if_neg (by omega), nb_ud_other (by omega)]; exact g7
      · rw [nb_wr_1, if_neg (by omega), nb_ud_other (by omega)]; exact g8
      · rw [nb_wr_1, if_neg (by omega), nb_ud_other (by omega)]; exact g9
      · rw [nb_wr_1, if_neg (by omega), nb_ud_other (by omega)]; exact g10
      · rw [nb_wr_1, if_neg (by omega), nb_ud_other (by omega)]; exact g12
  · have g := h.2.2.2.2.2.2.2 q a b
    by_cases e : q = p
    · subst e
      rw [nb_ud_same]
      omega
    · rw [nb_ud_other (by omega)]
      omega

theorem pa_moves (p place : Int) : pu_pair 65 [(19, 2), (0, p), (0, place)] 202 [(20, 603), (0, p), (0, place)] := by
  apply pu_pair_a
  intro M k hI hk0 hk1
  obtain ⟨Ho, hHo, hx2, hx3, hh, hSn, hT, -, h7, hL⟩ := pu_I_at hI
  obtain ⟨k1, k2, k3, k4, k5, k6, k7, k8⟩ := pu_sta_ok hI
  have hr := hT.1
  have n5 := hr.2.2.2.2.2.2.1
  have n1 := hr.2.2.1
  have h14 := pu_house hI
  have o := hh.1
  have hU := hI.2.2.2.1
  obtain ⟨Ho', So', -, ⟨hU, -⟩, -⟩ := hU
  by_cases hp : 0 ≤ p ∧ p < M.1 606 5 ∧ 0 ≤ place ∧ place < M.1 606 1
  case neg =>
    refine Or.inl ⟨0, 1, fun h => absurd h (by decide), ?_, fun M1 hq => ?_⟩
    · refine w_c_moves_0 hL hHo hx2 ?_
      rw [o.2.2.2.2.1, o.1]
      repeat' (first | assumption | with_reducible apply And.intro | intro _)
      all_goals (first | omega | (exfalso; omega) | rfl | exact pu_CQ_g hL | exact pu_CQ.tr (pu_CQ_g hL) | exact pu_CQ.tr (pu_CQ.tr (pu_CQ_g hL)))
    · obtain ⟨b3, b6, b8, b9, b12, b13, h7', -⟩ := pu_CQ_ref hI hq
      refine w_m_moves_0 hq.1 ?_
      rw [b3, b6, b8]
      repeat' (first | assumption | with_reducible apply And.intro | intro _)
      all_goals (first | omega | (exfalso; omega) | rfl | exact pu_MQ_no h7' (by assumption))
  obtain ⟨⟨p8, p3, p5, p7, p6⟩, est, pk⟩ := pu_man_at hI (p := p) (by omega)
  have hpw := k3.1 p (by omega) (by omega)
  by_cases hw : M.1 608 (12 + 8 * p) = 1 ∧ M.1 608 (12 + 8 * p + 1) ≠ place
  case neg =>
    refine Or.inl ⟨0, 5, fun h => absurd h (by decide), ?_, fun M1 hq => ?_⟩
    · refine w_c_moves_0 hL hHo hx2 ?_
      rw [o.2.2.2.2.1, o.1, p8, p3]
      repeat' (first | assumption | with_reducible apply And.intro | intro _)
      all_goals (first | omega | (exfalso; omega) | rfl | exact pu_CQ_g hL | exact pu_CQ.tr (pu_CQ_g hL) | exact pu_CQ.tr (pu_CQ.tr (pu_CQ_g hL)))
    · obtain ⟨b3, b6, b8, b9, b12, b13, h7', -⟩ := pu_CQ_ref hI hq
      refine w_m_moves_0 hq.1 ?_
      rw [b3, b6, b8]
      repeat' (first | assumption | with_reducible apply And.intro | intro _)
      all_goals (first | omega | (exfalso; omega) | rfl | exact pu_MQ_no h7' (by assumption))
  have hop : 1 ≤ M.1 606 5 := by omega
  obtain ⟨kb1, kb2, kb3⟩ := pu_kB_rg (U := M.1 603 21) (O := M.1 2 8)
  refine Or.inr ⟨1, ?_⟩
  have hq0 : pu_CQ M (nb_wr (nb_wr M 2 15 0) 2 15 0) 0 := (pu_CQ_g hL).tr
  refine w_c_moves_0 hL hHo hx2 ?_
  rw [o.2.2.2.2.1, o.1, p8, p3]
  repeat' (first | assumption | with_reducible apply And.intro | intro _)
  all_goals try (first | omega | (exfalso; omega))
  refine nb_W.imp (sp_c_keep hI hx2 hq0) ?_
  rintro r' N ⟨rfl, cf, c15, c9, c8, c11, sB, s84⟩
  have c2 := cf.cell (a := 88 + p) (i := 3) (v := place) (by omega) (fun _ => nb_n88 (by omega))
  refine ⟨rfl, cf.1, cf.x2 hx2, by omega, fun hL' => ⟨rfl, ⟨hL', (c2.sm (by have := (pu_kB_rg (U := M.1 603 21) (O := M.1 2 8)).1; omega))⟩, ?_⟩⟩
  have b3 := c2.row (a := 603) (by omega) (by decide)
  have b6 := c2.row (a := 606) (by omega) (by decide)
  have b8 := c2.row (a := 608) (by omega) (by decide)
  have b12 := c2.row (a := 612) (by omega) (by decide)
  have h7' : pu_I7 (nb_wr N (88 + p) 3 place) := by
    unfold pu_I7
    rw [b12]
    exact h7
  refine w_m_moves_0 c2.1 ?_
  rw [b3, b6, b8]
  repeat' (first | assumption | with_reducible apply And.intro | intro _)
  all_goals try (first | omega | (exfalso; omega))
  refine nb_W.imp (sp_m_noteQ (U := M.1 603 21) c2.1 (by rw [b3]) hU h7') ?_
  rintro r' N3 ⟨rfl, mf, m11, m21, m22, m8, m611, ur, -⟩
  rw [b8] at m8
  refine ⟨rfl, mf.1, by omega, by omega, by omega, by omega, by omega, by omega, by omega, by omega, fun hL2 => ⟨rfl, ?_, ?_⟩⟩
  · refine pu_act_fin (R' := nb_ud (M.1 608) (12 + 8 * p + 1) place) hI hx2 hop c2 ?_ ?_ ?_ ?_ ?_ ?_ mf.st ?_ ?_ ?_ ?_ ?_ ?_
    · rw [nb_wr_b (by omega)]; exact c15
    · rw [nb_wr_b (by omega)]; exact c9
    · rw [nb_wr_b (by omega)]; exact c8
    · rw [nb_wr_b (by omega)]; exact c11
    · exact pu_Sn_keep hr (Int.le_refl k) sB (fun a i x y => by rw [nb_wr_b (by omega)])
    · exact pu_Sn_place s84 hr (by omega) (by omega)
    · rw [nb_wr_b (by decide)]; exact m11
    · rw [nb_wr_b (by decide)]; exact m21
    · rw [nb_wr_b (by decide)]; exact m22
    · rw [nb_wr_b (by decide)]; exact m611
    · rw [nb_wr_b (a := 608) (b := 610) (by decide)]; exact ur
    · intro i _ _
      rw [nb_wr_a, m8]
  · exact ⟨by rw [nb_wr_2, mf.2.1]; exact c2.2.1, by rw [nb_wr_b (by decide), mf.row1]; exact (c2.row1 (by have := (pu_kB_rg (U := M.1 603 21) (O := M.1 2 8)).1; omega))⟩

theorem pa_lets (p q : Int) : pu_pair 66 [(19, 2), (0, p), (0, q)] 203 [(20, 603), (0, p), (0, q)] := by
  apply pu_pair_a
  intro M k hI hk0 hk1
  obtain ⟨Ho, hHo, hx2, hx3, hh, hSn, hT, -, h7, hL⟩ := pu_I_at hI
  obtain ⟨k1, k2, k3, k4, k5, k6, k7, k8⟩ := pu_sta_ok hI
  have hr := hT.1
  have n5 := hr.2.2.2.2.2.2.1
  have n1 := hr.2.2.1
  have h14 := pu_house hI
  have o := hh.1
  have hU := hI.2.2.2.1
  obtain ⟨Ho', So', -, ⟨hU, -⟩, -⟩ := hU
  by_cases hp : 0 ≤ p ∧ p < M.1 606 5 ∧ 0 ≤ q ∧ q < M.1 606 5 ∧ p ≠ q
  case neg =>
    refine Or.inl ⟨0, 1, fun h => absurd h (by decide), ?_, fun M1 hq => ?_⟩
    · refine w_c_lets_0 hL hHo hx2 ?_
      rw [o.2.2.2.2.1]
      repeat' (first | assumption | with_reducible apply And.intro | intro _)
      all_goals (first | omega | (exfalso; omega) | rfl | exact pu_CQ_g hL | exact pu_CQ.tr (pu_CQ_g hL) | exact pu_CQ.tr (pu_CQ.tr (pu_CQ_g hL)))
    · obtain ⟨b3, b6, b8, b9, b12, b13, h7', -⟩ := pu_CQ_ref hI hq
      refine w_m_lets_0 hq.1 ?_
      rw [b3, b6, b8]
      repeat' (first | assumption | with_reducible apply And.intro | intro _)
      all_goals (first | omega | (exfalso; omega) | rfl | exact pu_MQ_no h7' (by assumption))
  obtain ⟨⟨p8, p3, p5, p7, p6⟩, est, pk⟩ := pu_man_at hI (p := p) (by omega)
  obtain ⟨⟨q8, q3, q5, q7, q6⟩, -, qk⟩ := pu_man_at hI (p := q) (by omega)
  have hqw := k3.1 q (by omega) (by omega)
  have hpw := k3.1 p (by omega) (by omega)
  by_cases hw : M.1 608 (12 + 8 * p) = 1 ∧ M.1 608 (12 + 8 * q) = 1 ∧ M.1 608 (12 + 8 * p + 3) ≤ M.1 608 (12 + 8 * q + 3)
  case neg =>
    refine Or.inl ⟨0, 5, fun h => absurd h (by decide), ?_, fun M1 hq => ?_⟩
    · refine w_c_lets_0 hL hHo hx2 ?_
      rw [o.2.2.2.2.1, p8, q8, p7, q7]
      repeat' (first | assumption | with_reducible apply And.intro | intro _)
      all_goals (first | omega | (exfalso; omega) | rfl | exact pu_CQ_g hL | exact pu_CQ.tr (pu_CQ_g hL) | exact pu_CQ.tr (pu_CQ.tr (pu_CQ_g hL)))
    · obtain ⟨b3, b6, b8, b9, b12, b13, h7', -⟩ := pu_CQ_ref hI hq
      refine w_m_lets_0 hq.1 ?_
      rw [b3, b6, b8]
      repeat' (first | assumption | with_reducible apply And.intro | intro _)
      all_goals (first | omega | (exfalso; omega) | rfl | exact pu_MQ_no h7' (by assumption))
  have hop : 1 ≤ M.1 606 5 := by omega
  obtain ⟨kb1, kb2, kb3⟩ := pu_kB_rg (U := M.1 603 21) (O := M.1 2 8)
  refine Or.inr ⟨1, ?_⟩
  have hq0 : pu_CQ M (nb_wr (nb_wr (nb_wr M 2 15 0) 2 15 0) 2 15 0) 0 := ((pu_CQ_g hL).tr).tr
  refine w_c_lets_0 hL hHo hx2 ?_
  rw [o.2.2.2.2.1, p8, q8, p7, q7]
  repeat' (first | assumption | with_reducible apply And.intro | intro _)
  all_goals try (first | omega | (exfalso; omega))
  refine nb_W.imp (sp_c_keep hI hx2 hq0) ?_
  rintro r' N ⟨rfl, cf, c15, c9, c8, c11, sB, s84⟩
  have gq := s84.1.2.2.2.2.1 q (by omega) (by omega)
  rw [show (84 : Int) + 4 + q = 88 + q by omega] at gq
  have gv : N.1 (88 + q) 7 = M.1 608 (12 + 8 * q + 3) := gq.2.2.2.2.2.2.1
  rw [gv]
  have c2 := cf.cell (a := 88 + p) (i := 7) (v := M.1 608 (12 + 8 * q + 3) + 1) (by omega) (fun _ => nb_n88 (by omega))
  refine ⟨rfl, cf.1, cf.x2 hx2, by omega, by omega, by omega, by omega, fun hL' => ⟨rfl, ⟨hL', (c2.sm (by have := (pu_kB_rg (U := M.1 603 21) (O := M.1 2 8)).1; omega))⟩, ?_⟩⟩
  have b3 := c2.row (a := 603) (by omega) (by decide)
  have b6 := c2.row (a := 606) (by omega) (by decide)
  have b8 := c2.row (a := 608) (by omega) (by decide)
  have b12 := c2.row (a := 612) (by omega) (by decide)
  have h7' : pu_I7 (nb_wr N (88 + p) 7 (M.1 608 (12 + 8 * q + 3) + 1)) := by
    unfold pu_I7
    rw [b12]
    exact h7
  refine w_m_lets_0 c2.1 ?_
  rw [b3, b6, b8]
  repeat' (first | assumption | with_reducible apply And.intro | intro _)
  all_goals try (first | omega | (exfalso; omega))
  refine nb_W.imp (sp_m_noteQ (U := M.1 603 21) c2.1 (by rw [b3]) hU h7') ?_
  rintro r' N3 ⟨rfl, mf, m11, m21, m22, m8, m611, ur, -⟩
  rw [b8] at m8
  rw [m8]
  refine ⟨rfl, mf.1, by omega, by omega, by omega, by omega, by omega, by omega, by omega, by omega, by omega, by omega, by omega, by omega, by omega, by omega, by omega, by omega, by omega, by omega, fun hL2 => ⟨rfl, ?_, ?_⟩⟩
  · refine pu_act_fin (R' := nb_ud (M.1 608) (12 + 8 * p + 3) (M.1 608 (12 + 8 * q + 3) + 1)) hI hx2 hop c2 ?_ ?_ ?_ ?_ ?_ ?_ mf.st ?_ ?_ ?_ ?_ ?_ ?_
    · rw [nb_wr_b (by omega)]; exact c15
    · rw [nb_wr_b (by omega)]; exact c9
    · rw [nb_wr_b (by omega)]; exact c8
    · rw [nb_wr_b (by omega)]; exact c11
    · exact pu_Sn_keep hr (Int.le_refl k) sB (fun a i x y => by rw [nb_wr_b (by omega)])
    · exact pu_Sn_says s84 hr (by omega) (by omega)
    · rw [nb_wr_b (by decide)]; exact m11
    · rw [nb_wr_b (by decide)]; exact m21
    · rw [nb_wr_b (by decide)]; exact m22
    · rw [nb_wr_b (by decide)]; exact m611
    · rw [nb_wr_b (a := 608) (b := 610) (by decide)]; exact ur
    · intro i _ _
      rw [nb_wr_a, m8]
  · exact ⟨by rw [nb_wr_2, mf.2.1]; exact c2.2.1, by rw [nb_wr_b (by decide), mf.row1]; exact (c2.row1 (by have := (pu_kB_rg (U := M.1 603 21) (O := M.1 2 8)).1; omega))⟩

theorem pa_calls (p : Int) : pu_pair 67 [(19, 2), (0, p), (98, 0)] 204 [(20, 603), (0, p), (98, 0)] := by
  apply pu_pair_a
  intro M k hI hk0 hk1
  obtain ⟨Ho, hHo, hx2, hx3, hh, hSn, hT, -, h7, hL⟩ := pu_I_at hI
  obtain ⟨k1, k2, k3, k4, k5, k6, k7, k8⟩ := pu_sta_ok hI
  have hr := hT.1
  have n5 := hr.2.2.2.2.2.2.1
  have n1 := hr.2.2.1
  have h14 := pu_house hI
  have o := hh.1
  have hU := hI.2.2.2.1
  obtain ⟨Ho', So', -, ⟨hU, -⟩, -⟩ := hU
  by_cases hp : 0 ≤ p ∧ p < M.1 606 5
  case neg =>
    refine Or.inl ⟨-1, 1, fun h => absurd h (by decide), ?_, fun M1 hq => ?_⟩
    · refine w_c_calls_0 hL hHo hx2 ?_
      rw [o.2.2.2.2.1]
      repeat' (first | assumption | with_reducible apply And.intro | intro _)
      all_goals (first | omega | (exfalso; omega) | rfl | exact pu_CQ_g hL | exact pu_CQ.tr (pu_CQ_g hL) | exact pu_CQ.tr (pu_CQ.tr (pu_CQ_g hL)))
    · obtain ⟨b3, b6, b8, b9, b12, b13, h7', -⟩ := pu_CQ_ref hI hq
      refine w_m_calls_0 hq.1 ?_
      rw [b3, b6, b8]
      repeat' (first | assumption | with_reducible apply And.intro | intro _)
      all_goals (first | omega | (exfalso; omega) | rfl | exact pu_MQ_no h7' (by assumption))
  obtain ⟨⟨p8, p3, p5, p7, p6⟩, est, pk⟩ := pu_man_at hI (p := p) (by omega)
  have hpw := k3.1 p (by omega) (by omega)
  by_cases hw : M.1 608 (12 + 8 * p) = 1
  case neg =>
    refine Or.inl ⟨-1, 5, fun h => absurd h (by decide), ?_, fun M1 hq => ?_⟩
    · refine w_c_calls_0 hL hHo hx2 ?_
      rw [o.2.2.2.2.1, p8]
      repeat' (first | assumption | with_reducible apply And.intro | intro _)
      all_goals (first | omega | (exfalso; omega) | rfl | exact pu_CQ_g hL | exact pu_CQ.tr (pu_CQ_g hL) | exact pu_CQ.tr (pu_CQ.tr (pu_CQ_g hL)))
    · obtain ⟨b3, b6, b8, b9, b12, b13, h7', -⟩ := pu_CQ_ref hI hq
      refine w_m_calls_0 hq.1 ?_
      rw [b3, b6, b8]
      repeat' (first | assumption | with_reducible apply And.intro | intro _)
      all_goals (first | omega | (exfalso; omega) | rfl | exact pu_MQ_no h7' (by assumption))
  have hop : 1 ≤ M.1 606 5 := by omega
  obtain ⟨kb1, kb2, kb3⟩ := pu_kB_rg (U := M.1 603 21) (O := M.1 2 8)
  refine Or.inr ⟨(if M.1 608 (12 + 8 * p + 2) + 5 < 99 then M.1 608 (12 + 8 * p + 2) + 5 else 99), ?_⟩
  have hq0 : pu_CQ M (nb_wr (nb_wr M 2 15 0) 2 15 0) 0 := (pu_CQ_g hL).tr
  refine w_c_calls_0 hL hHo hx2 ?_
  rw [o.2.2.2.2.1, p8]
  repeat' (first | assumption | with_reducible apply And.intro | intro _)
  all_goals try (first | omega | (exfalso; omega))
  refine nb_W.imp (sp_c_keep hI hx2 hq0) ?_
  rintro r' N ⟨rfl, cf, c15, c9, c8, c11, sB, s84⟩
  have gq := s84.1.2.2.2.2.1 p (by omega) (by omega)
  rw [show (84 : Int) + 4 + p = 88 + p by omega] at gq
  have gv : N.1 (88 + p) 5 = M.1 608 (12 + 8 * p + 2) := gq.2.2.2.2.1
  rw [gv]
  have hvr : 0 ≤ (if M.1 608 (12 + 8 * p + 2) + 5 < 99 then M.1 608 (12 + 8 * p + 2) + 5 else 99) ∧ (if M.1 608 (12 + 8 * p + 2) + 5 < 99 then M.1 608 (12 + 8 * p + 2) + 5 else 99) ≤ 99 := by split <;> omega
  have c2 := cf.cell (a := 88 + p) (i := 5) (v := (if M.1 608 (12 + 8 * p + 2) + 5 < 99 then M.1 608 (12 + 8 * p + 2) + 5 else 99)) (by omega) (fun _ => nb_n88 (by omega))
  refine ⟨rfl, cf.1, cf.x2 hx2, by omega, by omega, by omega, fun hL' => ⟨rfl, ⟨hL', (c2.sm (by have := (pu_kB_rg (U := M.1 603 21) (O := M.1 2 8)).1; omega))⟩, ?_⟩⟩
  have b3 := c2.row (a := 603) (by omega) (by decide)
  have b6 := c2.row (a := 606) (by omega) (by decide)
  have b8 := c2.row (a := 608) (by omega) (by decide)
  have b12 := c2.row (a := 612) (by omega) (by decide)
  have h7' : pu_I7 (nb_wr N (88 + p) 5 (if M.1 608 (12 + 8 * p + 2) + 5 < 99 then M.1 608 (12 + 8 * p + 2) + 5 else 99)) := by
    unfold pu_I7
    rw [b12]
    exact h7
  refine w_m_calls_0 c2.1 ?_
  rw [b3, b6, b8]
  repeat' (first | assumption | with_reducible apply And.intro | intro _)
  all_goals try (first | omega | (exfalso; omega))
  refine nb_W.imp (sp_m_noteQ (U := M.1 603 21) c2.1 (by rw [b3]) hU h7') ?_
  rintro r' N3 ⟨rfl, mf, m11, m21, m22, m8, m611, ur, -⟩
  rw [b8] at m8
  rw [m8]
  have fin : pu_I (nb_wr N3 608 (12 + 8 * p + 2) (if M.1 608 (12 + 8 * p + 2) + 5 < 99 then M.1 608 (12 + 8 * p + 2) + 5 else 99)) (k + 1) ∧ pu_sm (nb_wr N3 608 (12 + 8 * p + 2) (if M.1 608 (12 + 8 * p + 2) + 5 < 99 then M.1 608 (12 + 8 * p + 2) + 5 else 99)) M := by
    refine ⟨?_, ?_⟩
    · refine pu_act_fin (R' := nb_ud (M.1 608) (12 + 8 * p + 2) (if M.1 608 (12 + 8 * p + 2) + 5 < 99 then M.1 608 (12 + 8 * p + 2) + 5 else 99)) hI hx2 hop c2 ?_ ?_ ?_ ?_ ?_ ?_ mf.st ?_ ?_ ?_ ?_ ?_ ?_
      · rw [nb_wr_b (by omega)]; exact c15
      · rw [nb_wr_b (by omega)]; exact c9
      · rw [nb_wr_b (by omega)]; exact c8
      · rw [nb_wr_b (by omega)]; exact c11
      · exact pu_Sn_keep hr (Int.le_refl k) sB (fun a i x y => by rw [nb_wr_b (by omega)])
      · exact pu_Sn_look s84 hr (by omega) hvr
      · rw [nb_wr_b (by decide)]; exact m11
      · rw [nb_wr_b (by decide)]; exact m21
      · rw [nb_wr_b (by decide)]; exact m22
      · rw [nb_wr_b (by decide)]; exact m611
      · rw [nb_wr_b (a := 608) (b := 610) (by decide)]; exact ur
      · intro i _ _
        rw [nb_wr_a, m8]
    · exact ⟨by rw [nb_wr_2, mf.2.1]; exact c2.2.1, by rw [nb_wr_b (by decide), mf.row1]; exact (c2.row1 (by have := (pu_kB_rg (U := M.1 603 21) (O := M.1 2 8)).1; omega))⟩
  refine ⟨rfl, mf.1, by omega, by omega, by omega, by omega, by omega, by omega, by omega, by omega, by omega, by omega, fun z hL2 => ?_, fun z hL2 => ?_⟩
  · rw [if_neg (by omega)] at fin ⊢
    exact ⟨rfl, fin⟩
  · have e : (if M.1 608 (12 + 8 * p + 2) + 5 < 99 then M.1 608 (12 + 8 * p + 2) + 5 else 99) = M.1 608 (12 + 8 * p + 2) + 5 := by split <;> omega
    rw [e] at fin ⊢
    exact ⟨rfl, fin⟩

/-- he is gone -/
def pu_lv (R : Int → Int) (p : Int) : Int → Int := nb_ud (nb_ud R (12 + 8 * p) 5) (12 + 8 * p + 7) (R 0)
theorem pu_Sn_leave {N : nb_M} {Ho p k : Int} {r R : Int → Int} (h : pu_Sn N 84 Ho r R k) (hr : pu_Rr r) (hp : 0 ≤ p ∧ p < r 5) (hw : R (12 + 8 * p) = 1) : pu_Sn (nb_wr N (88 + p) 8 5) 84 Ho r (pu_lv R p) (k + 1) := by
  obtain ⟨⟨a1, a2, a3, a4, a5, a6⟩, hX, ⟨w1, w2, ⟨w3, w4⟩, w5⟩, b4, b5, b6, b7, b8⟩ := h
  have n5 := hr.2.2.2.2.2.2.1
  have n4 := hr.2.2.2.2.2.1
  have r0 := w1.2.2.1
  have r1 := w1.2.2.2.1
  have eo : ∀ j, j ≠ 12 + 8 * p → j ≠ 12 + 8 * p + 7 → pu_lv R p j = R j := fun j x y => by
    unfold pu_lv
    rw [nb_ud_other y, nb_ud_other x]
  have e0 : pu_lv R p (12 + 8 * p) = 5 := by
    unfold pu_lv
    rw [nb_ud_other (by omega), nb_ud_same]
  have e7 : pu_lv R p (12 + 8 * p + 7) = R 0 := by
    unfold pu_lv
    rw [nb_ud_same]
  have hbp := w3 p hp.1 hp.2
  obtain ⟨hb2, hb4, hb7⟩ := hbp.2.1 hw
  have eN : ∀ a i, (a ≠ 88 + p ∨ i ≠ 8) → (nb_wr N (88 + p) 8 5).1 a i = N.1 a i := fun a i x => by rw [nb_wr_1, if_neg (by omega)]
  have hwhat : pu_Rw (pu_lv R p) := by
    obtain ⟨c1, c2, c3, c4, c5⟩ := w1
    refine ⟨fun q h0 h9 => ?_, fun q h0 h3 => ?_, ?_, ?_, fun j h0 hk => ?_⟩
    · have g := c1 q h0 h9
      rw [eo (12 + 8 * q + 1) (by omega) (by omega), eo (12 + 8 * q + 2) (by omega) (by omega), eo (12 + 8 * q + 3) (by omega) (by omega), eo (12 + 8 * q + 4) (by omega) (by omega), eo (12 + 8 * q + 5) (by omega) (by omega), eo (12 + 8 * q + 6) (by omega) (by omega)]
      by_cases e : q = p
      · subst e
        rw [e0, e7]
        omega
      · rw [eo (12 + 8 * q) (by omega) (by omega), eo (12 + 8 * q + 7) (by omega) (by omega)]
        exact g
    · rw [eo (92 + 4 * q) (by omega) (by omega), eo (92 + 4 * q + 1) (by omega) (by omega), eo (92 + 4 * q + 2) (by omega) (by omega), eo (92 + 4 * q + 3) (by omega) (by omega)]
      exact c2 q h0 h3
    · rw [eo 0 (by omega) (by omega)]; exact c3
    · rw [eo 1 (by omega) (by omega)]; exact c4
    · rw [eo 1 (by omega) (by omega)] at hk
      rw [eo (2 + j) (by omega) (by omega)]
      exact c5 j h0 hk
  have hpas : ∀ q, 0 ≤ q → q < r 5 → ∀ n : Nat, (n : Int) ≤ R 1 → pu_pas (pu_pe0 r) (pu_lv R p) q n = pu_pas (pu_pe0 r) R q n := fun q q0 q1 n => by
    induction n with
    | zero => intro _; rfl
    | succ n ih =>
      intro hn
      have g := w4 n (by omega) (by omega)
      have gb := ((w3 _ g.1 g.2.1).2.2.1 g.2.2).2.1
      unfold pu_pas
      rw [ih (by omega), eo (2 + n) (by omega) (by omega), eo (12 + 8 * R (2 + n) + 4) (by omega) (by omega)]
      by_cases e : q = p
      · subst e
        rw [e7, hb7]
        have c : ∀ A : Prop, (A ∧ pu_pe0 r (7 * q + 2) ≤ R (12 + 8 * R (2 + n) + 4) ∧ ¬ (R 0 ≠ -2 ∧ R 0 ≤ R (12 + 8 * R (2 + n) + 4))) ↔ (A ∧ pu_pe0 r (7 * q + 2) ≤ R (12 + 8 * R (2 + n) + 4) ∧ ¬ ((-2 : Int) ≠ -2 ∧ (-2 : Int) ≤ R (12 + 8 * R (2 + n) + 4))) := fun A => by
          constructor
          · exact fun ⟨x, y, z⟩ => ⟨x, y, by omega⟩
          · exact fun ⟨x, y, z⟩ => ⟨x, y, by omega⟩
        simp only [c]
      · rw [eo (12 + 8 * q + 7) (by omega) (by omega)]
  have hpa : ∀ q, 0 ≤ q → q < r 5 → pu_pa (pu_pe0 r) (pu_lv R p) q = pu_pa (pu_pe0 r) R q := fun q q0 q1 => by
    unfold pu_pa
    rw [eo 1 (by omega) (by omega), hpas q q0 q1 _ (by omega)]
  refine ⟨⟨?_, ?_, ?_, fun j x y => ?_, fun q x y => ?_, fun s x y => ?_⟩, fun q x y => ?_, ⟨hwhat, ?_, ⟨fun q x y => ?_, fun j x y => ?_⟩, fun s x y => ?_⟩, ?_, ?_, ?_, ?_, fun q x y => ?_⟩
  · rw [eN _ _ (by omega)]; exact a1
  · rw [eN _ _ (by omega)]; exact a2
  · rw [eN _ _ (by omega), eo 1 (by omega) (by omega)]; exact a3
  · rw [eo 1 (by omega) (by omega)] at y
    rw [eN _ _ (by omega), eo (2 + j) (by omega) (by omega)]; exact a4 j x y
  · have g := a5 q x y
    unfold pu_G at g ⊢
    rw [eo (12 + 8 * q + 1) (by omega) (by omega), eo (12 + 8 * q + 2) (by omega) (by omega), eo (12 + 8 * q + 3) (by omega) (by omega), eo (12 + 8 * q + 4) (by omega) (by omega), eo (12 + 8 * q + 5) (by omega) (by omega), eo (12 + 8 * q + 6) (by omega) (by omega)]
    rw [eN _ 0 (by omega), eN _ 2 (by omega), eN _ 3 (by omega), eN _ 4 (by omega), eN _ 5 (by omega), eN _ 6 (by omega), eN _ 7 (by omega), eN _ 9 (by omega), eN _ 10 (by omega), eN _ 12 (by omega)]
    by_cases e : q = p
    · subst e
      rw [e0, show (84 : Int) + 4 + q = 88 + q by omega, nb_wr_1, if_pos ⟨rfl, rfl⟩]
      rw [show (84 : Int) + 4 + q = 88 + q by omega] at g
      exact ⟨g.1, g.2.1, g.2.2.1, g.2.2.2.1, g.2.2.2.2.1, g.2.2.2.2.2.1, g.2.2.2.2.2.2.1, rfl, g.2.2.2.2.2.2.2.2⟩
    · rw [eo (12 + 8 * q) (by omega) (by omega), eN _ 8 (by omega)]
      exact g
  · have g := a6 s x y
    unfold pu_V at g ⊢
    rw [eo (92 + 4 * s) (by omega) (by omega), eo (92 + 4 * s + 1) (by omega) (by omega), eo (92 + 4 * s + 2) (by omega) (by omega), eo (92 + 4 * s + 3) (by omega) (by omega)]
    rw [eN _ 1 (by omega), eN _ 2 (by omega), eN _ 3 (by omega), eN _ 4 (by omega), eN _ 5 (by omega), eN _ 6 (by omega), eN _ 7 (by omega), eN _ 0 (by omega), eN _ 1 (by omega)]
    exact g
  · have g := hX q x y
    unfold pu_Gx at g ⊢
    rw [hpa q x y, pu_pu_congr (R := R) (eo (12 + 8 * q + 4) (by omega) (by omega)) (fun q' x y => hpa q' x y), eN _ 11 (by omega), eN _ 13 (by omega), eN _ 14 (by omega), eo (12 + 8 * q + 4) (by omega) (by omega)]
    by_cases e : q = p
    · subst e
      rw [e0]
      exact ⟨fun z => absurd z (by decide), fun z => by omega, g.2.2⟩
    · rw [eo (12 + 8 * q) (by omega) (by omega), eo (12 + 8 * q + 7) (by omega) (by omega)]
      exact g
  · obtain ⟨n, hn⟩ : ∃ n : Nat, p = n := ⟨p.toNat, by omega⟩
    have g := pu_nb_ud (R := R) (R' := pu_lv R p) (p := n) (by rw [← hn]; exact Or.inr hw) (by rw [← hn, e0]; decide) (fun q hq => eo _ (by omega) (by omega)) 10
    unfold pu_Rk at w2 ⊢
    rw [eo 1 (by omega) (by omega), g]
    split <;> omega
  · have g := w3 q x y
    unfold pu_hb at g ⊢
    rw [eo 0 (by omega) (by omega), eo 1 (by omega) (by omega), eo (12 + 8 * q + 4) (by omega) (by omega)]
    by_cases e : q = p
    · subst e
      rw [e0, e7]
      exact ⟨fun z => absurd z (by decide), fun z => absurd z (by decide), fun z => absurd z (by decide), fun z => by omega, fun _ => ⟨hb4, by omega, by omega⟩⟩
    · rw [eo (12 + 8 * q) (by omega) (by omega), eo (12 + 8 * q + 7) (by omega) (by omega)]
      obtain ⟨g0, g1, g2, g3, g4⟩ := g
      refine ⟨g0, g1, fun z => ?_, g3, g4⟩
      obtain ⟨c1, c2, c3, j, k0, k1, k2⟩ := g2 z
      exact ⟨c1, c2, c3, j, k0, k1, by rw [eo (2 + j) (by omega) (by omega)]; exact k2⟩
  · rw [eo 1 (by omega) (by omega)] at y
    have g := w4 j x y
    have ne : R (2 + j) ≠ p := fun z => by
      rw [z] at g
      omega
    rw [eo (2 + j) (by omega) (by omega), eo _ (by omega) (by omega)]
    exact g
  · rw [eo _ (by omega) (by omega)]; exact w5 s x y
  · rw [eN _ _ (by omega)]; exact b4
  · rw [eN _ _ (by omega), eo 0 (by omega) (by omega)]; exact b5
  · rw [eN _ _ (by omega)]; exact b6
  · rw [eo 0 (by omega) (by omega)]; exact b7
  · have := b8 q x y
    rw [eo (12 + 8 * q + 3) (by omega) (by omega)]
    omega
theorem pa_leaves (p : Int) : pu_pair 68 [(19, 2), (0, p)] 205 [(20, 603), (0, p)] := by
  apply pu_pair_a
  intro M k hI hk0 hk1
  obtain ⟨Ho, hHo, hx2, hx3, hh, hSn, hT, -, h7, hL⟩ := pu_I_at hI
  obtain ⟨k1, k2, k3, k4, k5, k6, k7, k8⟩ := pu_sta_ok hI
  have hr := hT.1
  have n5 := hr.2.2.2.2.2.2.1
  have n1 := hr.2.2.1
  have h14 := pu_house hI
  have o := hh.1
  have hU := hI.2.2.2.1
  obtain ⟨Ho', So', -, ⟨hU, -⟩, -⟩ := hU
  by_cases hp : 0 ≤ p ∧ p < M.1 606 5
  case neg =>
    refine Or.inl ⟨0, 1, fun h => absurd h (by decide), ?_, fun M1 hq => ?_⟩
    · refine w_c_leaves_0 hL hHo hx2 ?_
      rw [o.2.2.2.2.1]
      repeat' (first | assumption | with_reducible apply And.intro | intro _)
      all_goals (first | omega | (exfalso; omega) | rfl | exact pu_CQ_g hL | exact pu_CQ.tr (pu_CQ_g hL) | exact pu_CQ.tr (pu_CQ.tr (pu_CQ_g hL)))
    · obtain ⟨b3, b6, b8, b9, b12, b13, h7', -⟩ := pu_CQ_ref hI hq
      refine w_m_leaves_0 hq.1 ?_
      rw [b3, b6, b8]
      repeat' (first | assumption | with_reducible apply And.intro | intro _)
      all_goals (first | omega | (exfalso; omega) | rfl | exact pu_MQ_no h7' (by assumption))
  obtain ⟨⟨p8, p3, p5, p7, p6⟩, est, pk⟩ := pu_man_at hI (p := p) (by omega)
  have hpw := k3.1 p (by omega) (by omega)
  by_cases hw : M.1 608 (12 + 8 * p) = 1
  case neg =>
    refine Or.inl ⟨0, 5, fun h => absurd h (by decide), ?_, fun M1 hq => ?_⟩
    · refine w_c_leaves_0 hL hHo hx2 ?_
      rw [o.2.2.2.2.1, p8]
      repeat' (first | assumption | with_reducible apply And.intro | intro _)
      all_goals (first | omega | (exfalso; omega) | rfl | exact pu_CQ_g hL | exact pu_CQ.tr (pu_CQ_g hL) | exact pu_CQ.tr (pu_CQ.tr (pu_CQ_g hL)))
    · obtain ⟨b3, b6, b8, b9, b12, b13, h7', -⟩ := pu_CQ_ref hI hq
      refine w_m_leaves_0 hq.1 ?_
      rw [b3, b6, b8]
      repeat' (first | assumption | with_reducible apply And.intro | intro _)
      all_goals (first | omega | (exfalso; omega) | rfl | exact pu_MQ_no h7' (by assumption))
  have hop : 1 ≤ M.1 606 5 := by omega
  obtain ⟨kb1, kb2, kb3⟩ := pu_kB_rg (U := M.1 603 21) (O := M.1 2 8)
  refine Or.inr ⟨1, ?_⟩
  have hq0 : pu_CQ M (nb_wr (nb_wr M 2 15 0) 2 15 0) 0 := (pu_CQ_g hL).tr
  refine w_c_leaves_0 hL hHo hx2 ?_
  rw [o.2.2.2.2.1, p8]
  repeat' (first | assumption | with_reducible apply And.intro | intro _)
  all_goals try (first | omega | (exfalso; omega))
  refine nb_W.imp (sp_c_keep hI hx2 hq0) ?_
  rintro r' N ⟨rfl, cf, c15, c9, c8, c11, sB, s84⟩
  have c2 := cf.cell (a := 88 + p) (i := 8) (v := 5) (by omega) (fun _ => nb_n88 (by omega))
  refine ⟨rfl, cf.1, cf.x2 hx2, by omega, fun hL' => ⟨rfl, ⟨hL', (c2.sm (by have := (pu_kB_rg (U := M.1 603 21) (O := M.1 2 8)).1; omega))⟩, ?_⟩⟩
  have b3 := c2.row (a := 603) (by omega) (by decide)
  have b6 := c2.row (a := 606) (by omega) (by decide)
  have b8 := c2.row (a := 608) (by omega) (by decide)
  have b12 := c2.row (a := 612) (by omega) (by decide)
  have h7' : pu_I7 (nb_wr N (88 + p) 8 5) := by
    unfold pu_I7
    rw [b12]
    exact h7
  refine w_m_leaves_0 c2.1 ?_
  rw [b3, b6, b8]
  repeat' (first | assumption | with_reducible apply And.intro | intro _)
  all_goals try (first | omega | (exfalso; omega))
  refine nb_W.imp (sp_m_noteQ (U := M.1 603 21) c2.1 (by rw [b3]) hU h7') ?_
  rintro r' N3 ⟨rfl, mf, m11, m21, m22, m8, m611, ur, -⟩
  rw [b8] at m8
  have e0 : (nb_wr N3 608 (12 + 8 * p) 5).1 608 0 = M.1 608 0 := by rw [nb_wr_1, if_neg (by omega), m8]
  rw [e0]
  refine ⟨rfl, mf.1, by omega, by omega, by omega, by omega, by omega, by omega, by omega, by omega, by omega, by omega, fun hL2 => ⟨rfl, ?_, ?_⟩⟩
  · refine pu_act_fin (R' := pu_lv (M.1 608) p) hI hx2 hop c2 ?_ ?_ ?_ ?_ ?_ ?_ mf.st.st ?_ ?_ ?_ ?_ ?_ ?_
    · rw [nb_wr_b (by omega)]; exact c15
    · rw [nb_wr_b (by omega)]; exact c9
    · rw [nb_wr_b (by omega)]; exact c8
    · rw [nb_wr_b (by omega)]; exact c11
    · exact pu_Sn_keep hr (Int.le_refl k) sB (fun a i x y => by rw [nb_wr_b (by omega)])
    · exact pu_Sn_leave s84 hr (by omega) (by omega)
    · rw [nb_wr_b (by decide), nb_wr_b (by decide)]; exact m11
    · rw [nb_wr_b (by decide), nb_wr_b (by decide)]; exact m21
    · rw [nb_wr_b (by decide), nb_wr_b (by decide)]; exact m22
    · rw [nb_wr_b (by decide), nb_wr_b (by decide)]; exact m611
    · rw [nb_wr_b (a := 608) (b := 610) (by decide), nb_wr_b (a := 608) (b := 610) (by decide)]; exact ur
    · intro i _ _
      rw [nb_wr_a, nb_wr_a, m8]
      rfl
  · exact ⟨by rw [nb_wr_2, nb_wr_2, mf.2.1]; exact c2.2.1, by rw [nb_wr_b (by decide), nb_wr_b (by decide), mf.row1]; exact (c2.row1 (by have := (pu_kB_rg (U := M.1 603 21) (O := M.1 2 8)).1; omega))⟩

