/-! CALL: hand, the reference's side -/
theorem pu_MM.crewC {M N : nb_M} {S C : Int → Int} (h : pu_MM M N S C) {i v : Int} : pu_MM M (nb_wr N 612 i v) S (nb_ud C i v) := by
  obtain ⟨h1, h2, h3, h4, h5, h6, h7, h8, h9⟩ := h
  refine ⟨h1.wr (fun w => nb_nnum (by decide) (by decide)), h2, ?_, ?_, fun a p q s t => ?_, fun j a b c d e f g => ?_, ?_, fun j hj => ?_, ?_⟩
  · rw [nb_wr_b (by decide)]; exact h3
  · rw [nb_wr_1, if_neg (by omega)]; exact h4
  · rw [nb_wr_b (by omega)]; exact h5 a p q s t
  · rw [nb_wr_1, if_neg (by omega)]; exact h6 j a b c d e f g
  · rw [nb_wr_b (by decide)]; exact h7
  · rw [nb_wr_a]
    unfold nb_ud
    rw [h8 j hj]
  · rw [nb_wr_b (by decide)]; exact h9
def pu_zs (S : Int → Int) (l : Int) : Nat → Int → Int
  | 0 => S
  | n + 1 => nb_ud (pu_zs S l n) (l + ((n : Int) + 1)) 0
def pu_zt (S : Int → Int) (l : Int) : Nat → Int → Int
  | 0 => S
  | n + 1 => nb_ud (pu_zt S l n) (l + (n : Int)) 0
theorem pu_zt_at {S : Int → Int} {l j : Int} : ∀ n : Nat, pu_zt S l n j = if l ≤ j ∧ j < l + n then 0 else S j
  | 0 => by
    rw [if_neg (by omega)]
    rfl
  | n + 1 => by
    have ih := pu_zt_at (S := S) (l := l) (j := j) n
    unfold pu_zt nb_ud
    rw [ih]
    (repeat' split) <;> first | rfl | omega
theorem pu_zs_sth {R : Int → Int} {ns v : Int} : pu_zs (nb_ud R (92 + 4 * ns) v) (92 + 4 * ns) 3 = pu_sth R ns v := by
  funext j
  show (nb_ud (nb_ud (nb_ud (nb_ud R (92 + 4 * ns) v) (92 + 4 * ns + (((0 : Nat) : Int) + 1)) 0) (92 + 4 * ns + (((1 : Nat) : Int) + 1)) 0) (92 + 4 * ns + (((2 : Nat) : Int) + 1)) 0) j = _
  simp only [pu_sth, nb_ud]
  (repeat' split) <;> first | rfl | omega
/-- of the reference's row what lies behind the staff's numbers doesn't count -/
theorem pu_I_608 {M N : nb_M} {k : Int} (h : pu_I M k) (hL : nb_Lay N) (e : ∀ a, a ≠ 608 → N.1 a = M.1 a) (lo : ∀ j, 0 ≤ j → j < 92 + 4 * M.1 606 4 → N.1 608 j = M.1 608 j) (hi : ∀ j, 92 + 4 * M.1 606 4 ≤ j → j < 108 → N.1 608 j = M.1 608 j ∨ N.1 608 j = 0) (hn : ∀ j, j < 0 → N.1 608 j = M.1 608 j) : pu_I N k := by
  obtain ⟨-, ht1, ⟨i1, i2, i3⟩, ⟨Ho, So, ⟨s1, s2, s3, s4, s5⟩, ⟨u1, u2, u3, u4⟩, ⟨m1, m2, m3⟩⟩, h6, h7⟩ := h
  have hr := i1.1
  have n5 := hr.2.2.2.2.2.2.1
  have n4 := hr.2.2.2.2.2.1
  have hHo : nb_hs Ho := by unfold nb_hs; omega
  have eS : ∀ {A k' : Int} {R : Int → Int}, nb_sc A → R 1 ≤ 10 → pu_Sn M A Ho (M.1 606) R k' → pu_Sn N A Ho (M.1 606) R k' := fun {A k' R} hA r1 q => by
    unfold nb_sc at hA
    exact pu_Sn_mono hr r1 (Int.le_refl k') (fun a p q => e a (by omega)) q
  refine ⟨hL, ?_, ⟨?_, ?_, fun z => ⟨fun j a b => ?_, ?_, ?_⟩⟩, ⟨Ho, So, ⟨s1, ?_, ?_, ?_, ?_⟩, ⟨?_, ?_, ?_, ?_⟩, ⟨?_, ?_, ?_⟩⟩, ?_, ?_⟩
  · unfold pu_I1
    rw [e 603 (by decide), e 604 (by decide), e 2 (by decide), e 3 (by decide), e 141 (by decide)]
    exact ⟨ht1.1, ht1.2.1, ht1.2.2.1, ht1.2.2.2.1, fun a ha => by rw [e a (by omega)]; exact ht1.2.2.2.2 a ha⟩
  · rw [e 606 (by decide)]; exact i1
  · rw [e 603 (by decide), e 606 (by decide)]; exact i2
  · rw [e 606 (by decide)] at z
    have g := (i3 z).1
    by_cases c : j < 92 + 4 * M.1 606 4
    · rw [lo j a c]; exact g j a b
    · rcases hi j (by omega) b with q | q
      · rw [q]; exact g j a b
      · exact q
  · rw [e 606 (by decide)] at z
    rw [e 603 (by decide)]; exact (i3 z).2.1
  · rw [e 606 (by decide)] at z
    rw [e 603 (by decide)]; exact (i3 z).2.2
  · rw [e 2 (by decide)]; exact s2
  · rw [e 2 (by decide)]; exact s3
  · rw [e 606 (by decide)]
    unfold nb_hs at hHo
    exact pu_Ho_congr s4 hr (fun a i p q => by rw [e a (by omega)])
  · rw [e 606 (by decide)]
    obtain ⟨a1, a2, a3, a4, a5, a6, a7, a8⟩ := s5
    have r1 := a3.1.2.2.2.1
    have ag : pu_ag (M.1 608) (N.1 608) := pu_ag.lo (fun j p q => lo j p (by omega)) hn
    have hw : pu_Rw (N.1 608) := pu_Rw_tail (ns := M.1 606 4) (by omega) a3.1 lo (fun s p q => by
      have g := a3.1.2.1 s (by omega) q
      have c0 := hi (92 + 4 * s) (by omega) (by omega)
      have c1 := hi (92 + 4 * s + 1) (by omega) (by omega)
      have c2 := hi (92 + 4 * s + 2) (by omega) (by omega)
      have c3 := hi (92 + 4 * s + 3) (by omega) (by omega)
      omega)
    refine ⟨⟨?_, ?_, ?_, fun j x y => ?_, fun p x y => ?_, fun s x y => ?_⟩, fun p x y => ?_, ?_, ?_, ?_, ?_, ?_, fun p x y => ?_⟩
    · rw [e 84 (by decide)]; exact a1.1
    · rw [e 84 (by decide)]; exact a1.2.1
    · rw [e 84 (by decide), lo 1 (by decide) (by omega)]; exact a1.2.2.1
    · rw [lo 1 (by decide) (by omega)] at y
      rw [e (84 + 3) (by decide), lo (2 + j) (by omega) (by omega)]; exact a1.2.2.2.1 j x y
    · have g := a1.2.2.2.2.1 p x y
      unfold pu_G at g ⊢
      rw [e (84 + 4 + p) (by omega), lo (12 + 8 * p) (by omega) (by omega), lo (12 + 8 * p + 1) (by omega) (by omega), lo (12 + 8 * p + 2) (by omega) (by omega), lo (12 + 8 * p + 3) (by omega) (by omega), lo (12 + 8 * p + 4) (by omega) (by omega), lo (12 + 8 * p + 5) (by omega) (by omega), lo (12 + 8 * p + 6) (by omega) (by omega)]
      exact g
    · have g := a1.2.2.2.2.2 s x y
      unfold pu_V at g ⊢
      rw [e (84 + 14 + 2 * s) (by omega), e (84 + 14 + 2 * s + 1) (by omega), lo (92 + 4 * s) (by omega) (by omega), lo (92 + 4 * s + 1) (by omega) (by omega), lo (92 + 4 * s + 2) (by omega) (by omega), lo (92 + 4 * s + 3) (by omega) (by omega)]
      exact g
    · exact pu_Gx_ag n5.2 ⟨x, y⟩ a3.1 ag (fun _ _ _ => rfl) (by rw [e _ (by omega)]) (by rw [e _ (by omega)]) (by rw [e _ (by omega)]) (a2 p x y)
    · exact pu_Ib_ag n5.2 ag (fun _ _ _ => rfl) hw (fun s x y => by rw [lo _ (by omega) (by omega)]; exact a3.2.2.2 s x y) a3
    · rw [e 84 (by decide)]; exact a4
    · rw [e 84 (by decide), lo 0 (by decide) (by omega)]; exact a5
    · rw [e 84 (by decide)]; exact a6
    · rw [lo 0 (by decide) (by omega)]; exact a7
    · rw [lo _ (by omega) (by omega)]; exact a8 p x y
  · rw [e 603 (by decide)]; exact u1
  · rw [e 603 (by decide), e 2 (by decide)]; exact u2
  · rw [e 2 (by decide)]; exact u3
  · rw [e 603 (by decide), e 2 (by decide), e 606 (by decide), e 610 (by decide)]
    intro j a b
    have g := u4 j a b
    exact eS (nb_scb (by omega) (by omega)) g.2.2.1.1.2.2.2.1.2 g
  · rw [e 603 (by decide)]; exact m1
  · rw [e 603 (by decide), e 2 (by decide)]; exact m2
  · rw [e 603 (by decide), e 606 (by decide), e 611 (by decide)]
    intro j a b
    have g := m3 j a b
    exact eS (nb_sci a (by omega)) g.2.2.1.1.2.2.2.1.2 g
  · unfold pu_I6
    rw [e 2 (by decide), e 603 (by decide)]; exact h6
  · unfold pu_I7
    rw [e 612 (by decide)]; exact h7
theorem pu_evH_CQ {M M1 : nb_M} {k tr : Int} (h : pu_I M k) (hq : pu_CQ M M1 tr) : pu_evH M1 = pu_evH M ∧ pu_ev M1 = pu_ev M := by
  obtain ⟨b3, b6, b8, b9, b12, b13, h7', c1, c2, c3⟩ := pu_CQ_ref h hq
  unfold pu_evH pu_ev
  rw [b6, c1, c2, c3]
  exact ⟨rfl, rfl⟩
theorem pa_hand : pu_pair 36 [(19, 2), (98, 0), (98, 0)] 164 [(20, 603), (98, 0), (98, 0), (98, 0), (98, 0)] := by
  intro M k hI hk0 hk1
  obtain ⟨Ho, hHo, hx2, hx3, hh, hSn, hT, -, h7, hL⟩ := pu_I_at hI
  obtain ⟨k1, k2, k3, k4, k5, k6, k7, k8⟩ := pu_sta_ok hI
  have hr := hT.1
  have n5 := hr.2.2.2.2.2.2.1
  have n4 := hr.2.2.2.2.2.1
  have n2 := hr.2.2.2.1
  have n1 := hr.2.2.1
  have h14 := pu_house hI
  have o := hh.1
  by_cases c : M.1 606 5 = 0
  case pos =>
    refine w_c_hand_0 hL hHo hx2 ?_
    rw [o.2.2.2.2.1]
    refine ⟨by omega, by omega, fun z => absurd z (by omega), fun _ hL' => ⟨⟨hL', (pu_CQ_g (t := 1) hL).sm⟩, -100, rfl, ?_⟩⟩
    have hq : pu_CQ M (nb_wr M 2 15 1) 1 := pu_CQ_g hL
    obtain ⟨b3, b6, b8, b9, b12, b13, h7', -⟩ := pu_CQ_ref hI hq
    refine w_m_hand_0 hq.1 ?_
    rw [b3]
    refine ⟨by omega, by omega, fun _ hL2 => ⟨rfl, pu_I_q hI hq (pu_MQ_no h7' hL2) (fun z => absurd z (by decide)), pu_sm_q hq (pu_MQ_no h7' hL2)⟩, fun z => absurd z (by omega)⟩
  have hhalf := pu_halfi n1
  have G1 : pu_Rw (pu_ev M) := (pu_eve_facts (ns := M.1 606 4) (bell := M.1 606 2) hr k5 (by omega) (by omega) k1 k2).1
  obtain ⟨w1, w2, w3⟩ := pu_sth_ok (ns := M.1 606 4) (v := nb_div (M.1 606 1) 2) n4 hhalf k1 k2
  have kc := pu_crh_Rc (cr := pu_cra M) n4 n1 k5
  have F1 : pu_Rw (pu_evH M) := (pu_eve_facts (ns := M.1 606 4 + 1) (bell := M.1 606 2) hr kc (by omega) (by omega) w1 w2).1
  have r1 := pu_sumv_rg (w := 0) hI G1 k6 (bell := M.1 606 2) (by omega)
  have r2 := pu_sumv_rg (w := 0) hI F1 k6 (bell := M.1 606 2) (by omega)
  refine w_c_hand_0 hL hHo hx2 ?_
  rw [o.2.2.2.2.1]
  refine ⟨by omega, by omega, fun _ => ?_, fun z => absurd z (by omega)⟩
  refine nb_W.imp (sp_c_evenQ hI (pu_CQ_g hL)) ?_
  rintro r' M2 ⟨rfl, c2, ⟨d3, d8⟩, S2⟩
  refine ⟨rfl, c2.1, c2.x2 hx2, nb_Wp (sp_c_totalQ hI c2 d3 d8 (by omega) k6 S2 (by decide)) ⟨_, rfl, c2.1, c2.x2 hx2, ?_⟩⟩
  refine nb_W.imp (sp_c_asNowQ hI c2) ?_
  rintro r' M3 ⟨rfl, c3, ⟨e3, e8, e7⟩, S3⟩
  refine ⟨rfl, c3.1, c3.x2 hx2, ?_⟩
  refine nb_W.imp (sp_sc_addHandQ hI c3 S3 e3) ?_
  rintro r' M4 ⟨rfl, c4, ⟨f3, f7, f8⟩, S4⟩
  refine ⟨rfl, c4.1, c4.x2 hx2, ?_⟩
  rw [f8, e8]
  have hs0 : pu_sth (pu_sta M) (M.1 606 4) (nb_div (M.1 606 1) 2) 0 = pu_sta M 0 := w3.1 0 (by decide)
  refine nb_W.imp (sp_c_runQ (x := M.1 606 2) hI c4 f3 (by rw [f7, hs0]; exact e7) kc k6 (by omega) S4 k7 (by omega)) ?_
  rintro r' M5 ⟨rfl, c5, g3, g8, S5, -⟩
  refine ⟨rfl, c5.1, c5.x2 hx2, nb_Wp (sp_c_totalQ (bell := M.1 606 2) hI c5 g3 (by rw [g8, f8]; exact e8) (by omega) k6 S5 (by decide)) ⟨pu_sum (M.1 606) (pu_pea M) (pu_evH M) (M.1 606 5) (M.1 606 2) 0, rfl, c5.1, c5.x2 hx2, by omega, by omega, fun _ => ⟨⟨c5.1, c5.sm⟩, _, rfl, ?_⟩⟩⟩
  -- the reference
  clear S2 S3 S4 S5 d3 d8 e3 e8 e7 f3 f7 f8 g3 g8 c2 c3 c4
  obtain ⟨b3, b6, b8, b9, b12, b13, h7', q1, q2, q3⟩ := pu_CQ_ref hI c5
  obtain ⟨v1, v2⟩ := pu_evH_CQ hI c5
  obtain ⟨f1, f2, f3, f4, f5⟩ := pu_RF_of hI c5
  have hI2 := hI
  rw [← v1] at F1
  rw [← v2] at G1
  rw [← q1, ← b6] at kc
  rw [← b6, ← q2, ← v1] at r2
  rw [← b6, ← q2, ← v2] at r1
  rw [← b6] at n1 n2 n4 n5 hhalf h14 c
  rw [← b3] at h14
  rw [← b6, ← q2, ← v1, ← v2]
  refine w_m_hand_0 c5.1 ?_
  refine ⟨by omega, by omega, fun z => absurd z (by omega), fun _ => ?_⟩
  refine sp_m_tellQ (pu_MM_g c5.1) (pu_RF_of hI c5) (fun N2 p2 e9 e25 e26 e12 e13 => ?_)
  refine nb_Wp (sp_m_sumOfQ p2 f1 f3 G1 e9 e13 e26 (by omega)) ⟨_, rfl, p2.1, ?_⟩
  rw [e25, p2.r]
  have pc := (((((p2.crewC (i := 6 * M5.1 606 4) (v := 3)).crewC (i := 6 * M5.1 606 4 + 1) (v := nb_div (M5.1 606 1) 2)).crewC (i := 6 * M5.1 606 4 + 2) (v := 0)).crewC (i := 6 * M5.1 606 4 + 3) (v := M5.1 606 1 - 1)).crewC (i := 6 * M5.1 606 4 + 4) (v := 1)).crewC (i := 6 * M5.1 606 4 + 5) (v := 1)
  have e12' : (nb_wr (nb_wr (nb_wr (nb_wr (nb_wr (nb_wr N2 612 (6 * M5.1 606 4) 3) 612 (6 * M5.1 606 4 + 1) (nb_div (M5.1 606 1) 2)) 612 (6 * M5.1 606 4 + 2) 0) 612 (6 * M5.1 606 4 + 3) (M5.1 606 1 - 1)) 612 (6 * M5.1 606 4 + 4) 1) 612 (6 * M5.1 606 4 + 5) 1).1 612 = pu_crh (pu_cra M5) (M5.1 606 4) (M5.1 606 1) := by
    rw [nb_wr_a, nb_wr_a, nb_wr_a, nb_wr_a, nb_wr_a, nb_wr_a, e12]
    rfl
  rw [e12', (pu_crh_at (cr := pu_cra M5) (ns := M5.1 606 4) (pl := M5.1 606 1)).1.2.1]
  have pf : ∀ i, (nb_wr (nb_wr (nb_wr (nb_wr (nb_wr (nb_wr N2 612 (6 * M5.1 606 4) 3) 612 (6 * M5.1 606 4 + 1) (nb_div (M5.1 606 1) 2)) 612 (6 * M5.1 606 4 + 2) 0) 612 (6 * M5.1 606 4 + 3) (M5.1 606 1 - 1)) 612 (6 * M5.1 606 4 + 4) 1) 612 (6 * M5.1 606 4 + 5) 1).1 603 i = N2.1 603 i := fun i => by
    rw [nb_wr_b (by decide), nb_wr_b (by decide), nb_wr_b (by decide), nb_wr_b (by decide), nb_wr_b (by decide), nb_wr_b (by decide)]
  have pp : (nb_wr (nb_wr (nb_wr (nb_wr (nb_wr (nb_wr N2 612 (6 * M5.1 606 4) 3) 612 (6 * M5.1 606 4 + 1) (nb_div (M5.1 606 1) 2)) 612 (6 * M5.1 606 4 + 2) 0) 612 (6 * M5.1 606 4 + 3) (M5.1 606 1 - 1)) 612 (6 * M5.1 606 4 + 4) 1) 612 (6 * M5.1 606 4 + 5) 1).1 613 = pu_pea M5 := by
    rw [nb_wr_b (by decide), nb_wr_b (by decide), nb_wr_b (by decide), nb_wr_b (by decide), nb_wr_b (by decide), nb_wr_b (by decide)]
    exact e13
  generalize nb_wr (nb_wr (nb_wr (nb_wr (nb_wr (nb_wr N2 612 (6 * M5.1 606 4) 3) 612 (6 * M5.1 606 4 + 1) (nb_div (M5.1 606 1) 2)) 612 (6 * M5.1 606 4 + 2) 0) 612 (6 * M5.1 606 4 + 3) (M5.1 606 1 - 1)) 612 (6 * M5.1 606 4 + 4) 1) 612 (6 * M5.1 606 4 + 5) 1 = N3 at *
  generalize hC : nb_ud (nb_ud (nb_ud (nb_ud (nb_ud (nb_ud (M5.1 612) (6 * M5.1 606 4) 3) (6 * M5.1 606 4 + 1) (nb_div (M5.1 606 1) 2)) (6 * M5.1 606 4 + 2) 0) (6 * M5.1 606 4 + 3) (M5.1 606 1 - 1)) (6 * M5.1 606 4 + 4) 1) (6 * M5.1 606 4 + 5) 1 = C at *
  have hC7 : (0 ≤ C 19 ∧ C 19 ≤ 19) ∧ (0 ≤ C 22 ∧ C 22 ≤ 9) ∧ (0 ≤ C 23 ∧ C 23 ≤ 2) := by
    have h7a := h7'
    unfold pu_I7 at h7a
    subst hC
    simp only [nb_ud]
    refine ⟨?_, ?_, ?_⟩ <;> ((repeat' split) <;> omega)
  repeat' (first | assumption | with_reducible apply And.intro | intro _)
  all_goals try omega
  generalize hx15 : pu_sum (M5.1 606) (pu_pea M5) (pu_ev M5) (M5.1 606 5) (M5.1 606 2) 0 = x15 at *
  have ps := pc.st (i := 92 + 4 * M5.1 606 4) (v := nb_div (M5.1 606 1) 2)
  -- the loop that lays the hand's numbers
  suffices hl : ∀ (n j : Nat), j + n = 3 → ∀ N, pu_MM M5 N (pu_zs (nb_ud (M5.1 608) (92 + 4 * M5.1 606 4) (nb_div (M5.1 606 1) 2)) (92 + 4 * M5.1 606 4) j) C → N.1 603 25 = M5.1 606 4 → N.1 603 26 = M5.1 606 2 → N.1 612 = pu_crh (pu_cra M5) (M5.1 606 4) (M5.1 606 1) → N.1 613 = pu_pea M5 → nb_W 164 14 [(20, 603), (0, x15), (0, 6 * M5.1 606 4), (0, 92 + 4 * M5.1 606 4), (0, (j : Int) + 1)] [] N (fun r2 M2 => r2 = [(0, pu_sum (M5.1 606) (pu_pea M5) (pu_evH M5) (M5.1 606 5) (M5.1 606 2) 0 - x15)] ∧ pu_I M2 (k + 1) ∧ pu_sm M2 M) from hl 3 0 rfl _ ps (by rw [nb_wr_b (by decide), pf]; exact e25) (by rw [nb_wr_b (by decide), pf]; exact e26) (by rw [nb_wr_b (by decide)]; exact e12') (by rw [nb_wr_b (by decide)]; exact pp)
  intro n
  induction n with
  | succ n ih =>
    intro j hj N q t25 t26 t12 t13
    refine w_m_hand_14 q.1 (by omega) (by omega) ⟨fun _ => ?_, fun z => absurd z (by omega)⟩
    exact ih (j + 1) (by omega) _ q.st (by rw [nb_wr_b (by decide)]; exact t25) (by rw [nb_wr_b (by decide)]; exact t26) (by rw [nb_wr_b (by decide)]; exact t12) (by rw [nb_wr_b (by decide)]; exact t13)
  | zero =>
    intro j hj N q t25 t26 t12 t13
    have j3 : j = 3 := by omega
    subst j3
    rw [pu_zs_sth] at q
    refine w_m_hand_14 q.1 (by omega) (by omega) ⟨fun z => absurd z (by omega), fun _ => ?_⟩
    rw [t25]
    refine ⟨by omega, by omega, ?_⟩
    obtain ⟨y1, y2, y3⟩ := pu_sth_ok (ns := M5.1 606 4) (v := nb_div (M5.1 606 1) 2) n4 hhalf f4 f5
    refine nb_W.imp (sp_m_eveningQ (ns := M5.1 606 4 + 1) (bell := M5.1 606 2) (cr := pu_crh (pu_cra M5) (M5.1 606 4) (M5.1 606 1)) (pe := pu_pea M5) (q.fld (by omega)) f1 kc f3 y1 y2 ?_ ?_ ?_ ?_ (by omega) (by omega)) ?_
    · rw [nb_wr_1, if_pos ⟨rfl, rfl⟩]
    · rw [nb_wr_1, if_neg (by omega)]; exact t26
    · rw [nb_wr_b (by decide)]; exact t12
    · rw [nb_wr_b (by decide)]; exact t13
    rintro r' N4 ⟨rfl, q4, u9, uo⟩
    have u9' : N4.1 609 = pu_evH M5 := by
      rw [u9]
      unfold pu_evH
      congr 1
      funext i
      simp only [pu_sta, pu_cpy, pu_sth, nb_ud]
      rw [show i - 0 + 0 = i by omega]
      (repeat' split) <;> first | rfl | omega
    have u13 : N4.1 613 = pu_pea M5 := by rw [uo 613 (by decide), nb_wr_b (by decide)]; exact t13
    have u26 : N4.1 603 26 = M5.1 606 2 := by rw [uo 603 (by decide), nb_wr_1, if_neg (by omega)]; exact t26
    refine ⟨rfl, q4.1, ?_⟩
    suffices hl : ∀ (n j : Nat), j + n = 4 → ∀ N, pu_MM M5 N (pu_zt (pu_sth (M5.1 608) (M5.1 606 4) (nb_div (M5.1 606 1) 2)) (92 + 4 * M5.1 606 4) j) C → N.1 609 = pu_evH M5 → N.1 613 = pu_pea M5 → N.1 603 26 = M5.1 606 2 → nb_W 164 20 [(20, 603), (0, x15), (0, 6 * M5.1 606 4), (0, 92 + 4 * M5.1 606 4), (0, (j : Int))] [] N (fun r2 M2 => r2 = [(0, pu_sum (M5.1 606) (pu_pea M5) (pu_evH M5) (M5.1 606 5) (M5.1 606 2) 0 - x15)] ∧ pu_I M2 (k + 1) ∧ pu_sm M2 M) from hl 4 0 rfl N4 q4 u9' u13 u26
    intro n
    induction n with
    | succ n ih =>
      intro j hj N q s9 s13 s26
      refine w_m_hand_20 q.1 (by omega) (by omega) ⟨fun _ => ?_, fun z => absurd z (by omega)⟩
      exact ih (j + 1) (by omega) _ q.st (by rw [nb_wr_b (by decide)]; exact s9) (by rw [nb_wr_b (by decide)]; exact s13) (by rw [nb_wr_b (by decide)]; exact s26)
    | zero =>
      intro j hj N q s9 s13 s26
      have j4 : j = 4 := by omega
      subst j4
      refine w_m_hand_20 q.1 (by omega) (by omega) ⟨fun z => absurd z (by omega), fun _ => ?_⟩
      refine nb_Wp (sp_m_sumOfQ q f1 f3 F1 s9 s13 s26 (by omega)) ⟨_, rfl, q.1, by omega, by omega, fun _ => ⟨rfl, ?_, ?_⟩⟩
      · -- as if the row were restored
        have hv : pu_MM M5 (nb_up N 608 (M5.1 608)) (M5.1 608) C := by
          obtain ⟨g1, g2, g3, g4, g5, g6, g7, g8, g9⟩ := q
          refine ⟨g1.up (fun i w => nb_nrow (Or.inl rfl)), g2, nb_up_same _ _ _, ?_, fun a p q s t => ?_, fun j a b c d e f g => ?_, ?_, ?_, ?_⟩
          · rw [nb_up_other (by decide)]; exact g4
          · rw [nb_up_other q]; exact g5 a p q s t
          · rw [nb_up_other (by decide)]; exact g6 j a b c d e f g
          · rw [nb_up_other (by decide)]; exact g7
          · rw [nb_up_other (by decide)]; exact g8
          · rw [nb_up_other (by decide)]; exact g9
        have hI3 := pu_I_q hI2 c5 (hv.mq hC7) (fun z => absurd z (by decide))
        have e6 : (nb_up N 608 (M5.1 608)).1 606 = M5.1 606 := by rw [nb_up_other (by decide)]; exact q.r
        refine pu_I_608 hI3 q.1 (fun a ha => (nb_up_other ha).symm) (fun j a b => ?_) (fun j a b => ?_) (fun j a => ?_)
        · rw [e6] at b
          rw [q.2.2.1, nb_up_same, pu_zt_at, if_neg (by omega), pu_sth_at.2 _ (by omega)]
        · rw [e6] at a
          rw [q.2.2.1, nb_up_same, pu_zt_at]
          split
          · exact Or.inr rfl
          · left
            rw [pu_sth_at.2 _ (by omega)]
        · rw [q.2.2.1, nb_up_same, pu_zt_at, if_neg (by omega), pu_sth_at.2 _ (by omega)]
      · exact ⟨by rw [q.2.1, c5.2.1], (q.2.2.2.2.1 1 (by decide) (by decide) (by decide) (by decide)).trans c5.row1⟩
