/-! THE STAGE, whatever a question has changed so far -/
def pu_St (M N : nb_M) (ns : Int) (cr pe R : Int → Int) : Prop := pu_S N 106 (M.1 606 5) ns cr pe R ∧ pu_X N 106 (M.1 606 5) pe R ∧ pu_Ib pe R (M.1 606 5) ns
theorem pu_CQ.stage {M N N' : nb_M} {tr : Int} (h : pu_CQ M N tr) (g : pu_fr N N' 106) : pu_CQ M N' tr := by
  obtain ⟨h1, h2, h3, h4⟩ := h
  obtain ⟨g1, g2, g3⟩ := g
  exact ⟨g1, g2.trans h2, (g3 2 15 (by omega)).trans h3, fun a i p q => (g3 a i (by omega)).trans (h4 a i p q)⟩
theorem pu_CQ.cell {M N : nb_M} {tr a i v : Int} (h : pu_CQ M N tr) (ha : 106 ≤ a ∧ a < 128) (hr : ∀ w, ¬ nb_rf a i w) : pu_CQ M (nb_wr N a i v) tr := by
  obtain ⟨h1, h2, h3, h4⟩ := h
  refine ⟨h1.wr hr, h2, ?_, fun b j p q => ?_⟩
  · rw [nb_wr_1, if_neg (by omega)]; exact h3
  · rw [nb_wr_1, if_neg (by omega)]; exact h4 b j p q
theorem pu_CQ.x2 {M N : nb_M} {tr Ho : Int} (h : pu_CQ M N tr) (hx : M.1 2 2 = Ho) : N.1 2 2 = Ho := (h.2.2.2 2 2 (Or.inr (by decide)) (Or.inl (by decide))).trans hx
theorem pu_CQ.ho {M N : nb_M} {tr Ho : Int} {r : Int → Int} (h : pu_CQ M N tr) (hHo : nb_hs Ho) (hr : pu_Rr r) (hh : pu_Ho M Ho r) : pu_Ho N Ho r := by
  unfold nb_hs at hHo
  exact pu_Ho_congr hh hr (fun a i p q => h.2.2.2 a i (Or.inl (by omega)) (by omega))
theorem pu_CQ_g {M : nb_M} {t : Int} (hL : nb_Lay M) : pu_CQ M (nb_wr M 2 15 t) t := pu_CQ_no (hL.wr (fun w => nb_nlit (by decide) (by decide)))
theorem pu_CQ.tr {M N : nb_M} {t t2 : Int} (h : pu_CQ M N t) : pu_CQ M (nb_wr N 2 15 t2) t2 := by
  obtain ⟨h1, h2, h3, h4⟩ := h
  refine ⟨h1.wr (fun w => nb_nlit (by decide) (by decide)), h2, ?_, fun a i p q => ?_⟩
  · rw [nb_wr_1, if_pos ⟨rfl, rfl⟩]
  · rw [nb_wr_1, if_neg (by omega)]; exact h4 a i p q
theorem sp_c_asNowQ {M N : nb_M} {k tr : Int} (h : pu_I M k) (hq : pu_CQ M N tr) : nb_W 23 0 [(19, 2)] [] N (fun r' M' => r' = [(15, 106)] ∧ pu_CQ M M' tr ∧ (M'.1 106 3 = M.1 2 2 ∧ M'.1 106 8 = M.1 606 2 ∧ M'.1 106 7 = pu_sta M 0) ∧ pu_St M M' (M.1 606 4) (pu_cra M) (pu_pea M) (pu_sta M)) := by
  obtain ⟨hL, ht1, ⟨i1, i2, i3⟩, ⟨Ho, So, ⟨s1, s2, s3, s4, s5⟩, hu, hm⟩, h6, h7⟩ := h
  have hr := i1.1
  have n5 := hr.2.2.2.2.2.2.1
  have n4 := hr.2.2.2.2.2.1
  have s5' := s5
  obtain ⟨a1, a2, a3, a4, a5, a6, a7, a8⟩ := s5'
  have hN := hq.1
  have e : ∀ a, 84 ≤ a → a < 106 → N.1 a = M.1 a := fun a p q => funext fun i => hq.2.2.2 a i (Or.inl (by omega)) (Or.inl q)
  refine w_c_asNow_0 hN ?_
  refine nb_W.imp (sp_sc_take (np := M.1 606 5) (ns := M.1 606 4) hN nb_sc106 nb_sc84 (by decide) (by rw [e 84 (by decide) (by decide)]; exact a1.1) (by rw [e 84 (by decide) (by decide)]; exact a1.2.1) n5 (by omega)) ?_
  rintro r' M1 ⟨rfl, hf, g1, g2, g3, g4, g5⟩
  have hS1 : pu_Sn M1 106 Ho (M.1 606) (M.1 608) k := by
    refine ⟨pu_S_take a3.1.2.2.2.1.2 a1 (fun j p q => (g1 j p q).trans (by rw [e _ (by decide) (by decide)])) (fun k p q => (g2 k p q).trans (by rw [e _ (by decide) (by decide)])) (fun p j a b c d => (g3 p j a b c d).trans (by rw [e _ (by omega) (by omega)])) (fun s j a b c d => (g4 s j a b c d).trans (by rw [e _ (by omega) (by omega)])) (fun s j a b c d => (g5 s j a b c d).trans (by rw [e _ (by omega) (by omega)])), pu_X_take a2 (fun p j a b c d => (g3 p j a b c d).trans (by rw [e _ (by omega) (by omega)])), a3, ?_, ?_, ?_, a7, a8⟩
    · rw [g1 3 (by decide) (by decide), e 84 (by decide) (by decide)]; exact a4
    · rw [g1 7 (by decide) (by decide), e 84 (by decide) (by decide)]; exact a5
    · rw [g1 8 (by decide) (by decide), e 84 (by decide) (by decide)]; exact a6
  obtain ⟨b1, b2, b3⟩ := pu_Sn_as (R' := pu_sta M) i1 hS1 (fun i a b => pu_cpy_in i a b)
  have hst0 : pu_sta M 0 = M.1 608 0 := pu_cpy_in 0 (by decide) (by decide)
  exact ⟨rfl, hf.1, rfl, hq.stage hf, ⟨by rw [hS1.2.2.2.1, s2], hS1.2.2.2.2.2.1, by rw [hst0]; exact hS1.2.2.2.2.1⟩, b1, b2, b3⟩
theorem sp_c_runQ {M M1 : nb_M} {k x ns tr : Int} {cr pe R : Int → Int} (h : pu_I M k) (hq : pu_CQ M M1 tr) (hA3 : M1.1 106 3 = M.1 2 2) (hA7 : M1.1 106 7 = R 0) (hc : pu_Rc cr) (hp : pu_Rp pe) (hns : 0 ≤ ns ∧ ns ≤ 4) (hS : pu_St M M1 ns cr pe R) (hpc : ∀ p, 0 ≤ p → p < M.1 606 5 → pe (7 * p + 2) = M.1 606 (41 + 7 * p + 2)) (hx : 0 ≤ x ∧ x ≤ 2000) : nb_W 257 0 [(15, 106), (0, x), (98, 0), (98, 0)] [] M1 (fun r' M2 => r' = [] ∧ pu_CQ M M2 tr ∧ M2.1 106 3 = M.1 2 2 ∧ M2.1 106 8 = M1.1 106 8 ∧ pu_St M M2 ns cr pe (pu_eve (M.1 606) cr pe ns x R) ∧ ∀ a i, 128 ≤ a → M2.1 a i = M1.1 a i) := by
  obtain ⟨hL, ht1, ⟨i1, i2, i3⟩, ⟨Ho, So, ⟨s1, s2, s3, s4, s5⟩, hu, hm⟩, h6, h7⟩ := h
  have hr := i1.1
  have hHo : nb_hs Ho := by unfold nb_hs; omega
  have hHo1 : pu_Ho M1 Ho (M.1 606) := hq.ho hHo hr s4
  refine nb_W.imp (sp_sc_runTo (np := M.1 606 5) (ns := ns) (last := x) (cr := cr) (pe := pe) (R := R) hq.1 nb_sc106 hHo (by rw [hA3, s2]) hr hHo1 hc hp rfl hns hx hA7 hS.1 hS.2.1 hS.2.2 hpc) ?_
  rintro r' M2 ⟨rfl, d1, d2, d3, d4, d5, d6, d7, d8⟩
  exact ⟨rfl, hq.stage ⟨d1, d2, fun a i p => d3 a i (by omega)⟩, (d3 106 3 (by decide)).trans hA3, d3 106 8 (by decide), ⟨d4, d5, d6⟩, fun a i p => d3 a i (by omega)⟩
theorem sp_c_totalQ {M N : nb_M} {k ns tr w bell : Int} {cr pe R : Int → Int} (h : pu_I M k) (hq : pu_CQ M N tr) (hA3 : N.1 106 3 = M.1 2 2) (h8 : N.1 106 8 = bell) (hb : 0 ≤ bell ∧ bell ≤ 9000) (hp : pu_Rp pe) (hS : pu_St M N ns cr pe R) (hw : 0 ≤ w ∧ w ≤ 5) : nb_R nb_P 268 0 [(15, 106), (0, w)] [] N = some ([(0, pu_sum (M.1 606) pe R (M.1 606 5) bell w)], N) := by
  obtain ⟨Ho, hHo, hx2, hx3, hh, hSn, hT, h14, h7, hL⟩ := pu_I_at h
  have hr := hT.1
  have n5 := hr.2.2.2.2.2.2.1
  rw [← pu_tot_sum hS.2.2.1 n5.2 hS.2.2.2.2.1 hw]
  exact sp_sc_total (v2 := (0, 0)) hq.1 nb_sc106 hHo (hA3.trans hx2) hr (hq.ho hHo hr hh) rfl hS.2.2.1 hp hS.1 hS.2.1 h8 hb
theorem sp_c_evenQ {M N : nb_M} {k tr : Int} (h : pu_I M k) (hq : pu_CQ M N tr) : nb_W 24 0 [(19, 2)] [] N (fun r' M' => r' = [(15, 106)] ∧ pu_CQ M M' tr ∧ (M'.1 106 3 = M.1 2 2 ∧ M'.1 106 8 = M.1 606 2) ∧ pu_St M M' (M.1 606 4) (pu_cra M) (pu_pea M) (pu_ev M)) := by
  have hI := h
  obtain ⟨hL, ht1, ⟨i1, i2, i3⟩, ⟨Ho, So, ⟨s1, s2, s3, s4, s5⟩, hu, hm⟩, h6, h7⟩ := h
  have hr := i1.1
  have n2 := hr.2.2.2.1
  have n4 := hr.2.2.2.2.2.1
  have hN := hq.1
  refine w_c_evening_0 hN ?_
  have hn5 := hr.2.2.2.2.2.2.1
  have s5' := s5
  obtain ⟨a1, a2, a3, a4, a5, a6, a7, a8⟩ := s5'
  have e : ∀ a, 84 ≤ a → a < 106 → N.1 a = M.1 a := fun a p q => funext fun i => hq.2.2.2 a i (Or.inl (by omega)) (Or.inl q)
  refine nb_W.imp (sp_sc_take (np := M.1 606 5) (ns := M.1 606 4) hN nb_sc106 nb_sc84 (by decide) (by rw [e 84 (by decide) (by decide)]; exact a1.1) (by rw [e 84 (by decide) (by decide)]; exact a1.2.1) hn5 (by omega)) ?_
  rintro r' M1 ⟨rfl, hf, g1, g2, g3, g4, g5⟩
  have hS1 : pu_Sn M1 106 Ho (M.1 606) (M.1 608) k := by
    refine ⟨pu_S_take a3.1.2.2.2.1.2 a1 (fun j p q => (g1 j p q).trans (by rw [e _ (by decide) (by decide)])) (fun k p q => (g2 k p q).trans (by rw [e _ (by decide) (by decide)])) (fun p j a b c d => (g3 p j a b c d).trans (by rw [e _ (by omega) (by omega)])) (fun s j a b c d => (g4 s j a b c d).trans (by rw [e _ (by omega) (by omega)])) (fun s j a b c d => (g5 s j a b c d).trans (by rw [e _ (by omega) (by omega)])), pu_X_take a2 (fun p j a b c d => (g3 p j a b c d).trans (by rw [e _ (by omega) (by omega)])), a3, ?_, ?_, ?_, a7, a8⟩
    · rw [g1 3 (by decide) (by decide), e 84 (by decide) (by decide)]; exact a4
    · rw [g1 7 (by decide) (by decide), e 84 (by decide) (by decide)]; exact a5
    · rw [g1 8 (by decide) (by decide), e 84 (by decide) (by decide)]; exact a6
  obtain ⟨b1, b2, b3⟩ := pu_Sn_as (R' := pu_sta M) i1 hS1 (fun i a b => pu_cpy_in i a b)
  have hst0 : pu_sta M 0 = M.1 608 0 := pu_cpy_in 0 (by decide) (by decide)
  refine ⟨rfl, hf.1, ?_⟩
  rw [hS1.2.2.2.2.2.1]
  refine nb_W.imp (sp_c_runQ hI (hq.stage hf) (by rw [hS1.2.2.2.1, s2]) (by rw [hst0]; exact hS1.2.2.2.2.1) (pu_cra_rg h7 i1) (pu_pea_rg i1) (by omega) ⟨b1, b2, b3⟩ (fun p p0 p1 => by rw [pu_pea_eq M (by omega) (by omega)]; exact congrArg (M.1 606) (by omega)) (by omega)) ?_
  rintro r' M2 ⟨rfl, d1, d2, d3, d4, d5⟩
  exact ⟨rfl, d1.1, rfl, d1, ⟨d2, d3.trans hS1.2.2.2.2.2.1⟩, d4⟩
/-! what leaves the past alone -/
def pu_ag (R R' : Int → Int) : Prop := (∀ j, j < 12 → R' j = R j) ∧ ∀ q, 0 ≤ q → q ≤ 9 → R' (12 + 8 * q) = R (12 + 8 * q) ∧ R' (12 + 8 * q + 4) = R (12 + 8 * q + 4) ∧ R' (12 + 8 * q + 5) = R (12 + 8 * q + 5) ∧ R' (12 + 8 * q + 6) = R (12 + 8 * q + 6) ∧ R' (12 + 8 * q + 7) = R (12 + 8 * q + 7)
theorem pu_ag.id (R : Int → Int) : pu_ag R R := ⟨fun _ _ => rfl, fun _ _ _ => ⟨rfl, rfl, rfl, rfl, rfl⟩⟩
theorem pu_ag.ud {R : Int → Int} {p i v : Int} (hp : 0 ≤ p ∧ p ≤ 9) (hi : 1 ≤ i ∧ i ≤ 3) : pu_ag R (nb_ud R (12 + 8 * p + i) v) := ⟨fun j hj => nb_ud_other (by omega), fun q _ _ => ⟨nb_ud_other (by omega), nb_ud_other (by omega), nb_ud_other (by omega), nb_ud_other (by omega), nb_ud_other (by omega)⟩⟩
theorem pu_ag.lo {R R' : Int → Int} (h : ∀ j, 0 ≤ j → j < 92 → R' j = R j) (h' : ∀ j, j < 0 → R' j = R j) : pu_ag R R' := ⟨fun j hj => if z : 0 ≤ j then h j z (by omega) else h' j (by omega), fun q _ _ => ⟨h _ (by omega) (by omega), h _ (by omega) (by omega), h _ (by omega) (by omega), h _ (by omega) (by omega), h _ (by omega) (by omega)⟩⟩
theorem pu_pas_ag {pe pe' R R' : Int → Int} {q : Int} (hq : 0 ≤ q ∧ q ≤ 9) (hR : pu_Rw R) (ag : pu_ag R R') (ap : ∀ q, 0 ≤ q → q ≤ 9 → pe' (7 * q + 2) = pe (7 * q + 2)) : ∀ n : Nat, (n : Int) ≤ R 1 → pu_pas pe' R' q n = pu_pas pe R q n := by
  intro n
  induction n with
  | zero => intro _; rfl
  | succ n ih =>
    intro hn
    have h1 := hR.2.2.2.1.2
    have hw := hR.2.2.2.2 n (by omega) (by omega)
    unfold pu_pas
    rw [ih (by omega), ag.1 (2 + n) (by omega), (ag.2 _ hw.1 hw.2).2.1, (ag.2 q hq.1 hq.2).2.2.2.2, ap q hq.1 hq.2, ap _ hw.1 hw.2]
theorem pu_pa_ag {pe pe' R R' : Int → Int} {q : Int} (hq : 0 ≤ q ∧ q ≤ 9) (hR : pu_Rw R) (ag : pu_ag R R') (ap : ∀ q, 0 ≤ q → q ≤ 9 → pe' (7 * q + 2) = pe (7 * q + 2)) : pu_pa pe' R' q = pu_pa pe R q := by
  have h1 := hR.2.2.2.1
  unfold pu_pa
  rw [ag.1 1 (by omega), pu_pas_ag hq hR ag ap _ (by omega)]
theorem pu_pus_ag {pe pe' R R' : Int → Int} {p : Int} (hp : 0 ≤ p ∧ p ≤ 9) (hR : pu_Rw R) (ag : pu_ag R R') (ap : ∀ q, 0 ≤ q → q ≤ 9 → pe' (7 * q + 2) = pe (7 * q + 2)) : ∀ n : Nat, n ≤ 10 → pu_pus pe' R' p n = pu_pus pe R p n := by
  intro n
  induction n with
  | zero => intro _; rfl
  | succ n ih =>
    intro hn
    unfold pu_pus
    rw [ih (by omega), ap p hp.1 hp.2, ap n (by omega) (by omega), pu_pa_ag (q := (n : Int)) (by omega) hR ag ap]
theorem pu_Gx_ag {g g' pe pe' R R' : Int → Int} {np p : Int} (hnp : np ≤ 10) (hp : 0 ≤ p ∧ p < np) (hR : pu_Rw R) (ag : pu_ag R R') (ap : ∀ q, 0 ≤ q → q ≤ 9 → pe' (7 * q + 2) = pe (7 * q + 2)) (e11 : g' 11 = g 11) (e13 : g' 13 = g 13) (e14 : g' 14 = g 14) (h : pu_Gx g pe R np p) : pu_Gx g' pe' R' np p := by
  have a := ag.2 p hp.1 (by omega)
  unfold pu_Gx pu_pu at h ⊢
  rw [e11, e13, e14, a.1, a.2.1, a.2.2.2.2, pu_pa_ag (by omega) hR ag ap, pu_pus_ag (by omega) hR ag ap _ (by omega)]
  exact h
theorem pu_Ib_ag {pe pe' R R' : Int → Int} {np ns ns' : Int} (hnp : np ≤ 10) (ag : pu_ag R R') (ap : ∀ q, 0 ≤ q → q ≤ 9 → pe' (7 * q + 2) = pe (7 * q + 2)) (hR' : pu_Rw R') (hl : ∀ s, 0 ≤ s → s < ns' → R' (92 + 4 * s + 3) ≤ np) (h : pu_Ib pe R np ns) : pu_Ib pe' R' np ns' := by
  obtain ⟨h1, h2, ⟨h3, h4⟩, h5⟩ := h
  have r1 := h1.2.2.2.1
  have e1 := ag.1 1 (by omega)
  refine ⟨hR', ?_, ⟨fun p a b => ?_, fun k a b => ?_⟩, hl⟩
  · unfold pu_Rk at h2 ⊢
    rw [e1, pu_nb_congr 10 (fun q hq => (ag.2 q (by omega) (by omega)).1)]
    exact h2
  · have g := h3 p a b
    have c := ag.2 p a (by omega)
    unfold pu_hb at g ⊢
    rw [ag.1 0 (by omega), c.1, c.2.1, c.2.2.2.2, ap p a (by omega), e1]
    obtain ⟨g0, g1, g2, g3, g4⟩ := g
    refine ⟨g0, g1, fun z => ?_, g3, g4⟩
    obtain ⟨c1, c2, c3, k, k0, k1, k2⟩ := g2 z
    exact ⟨c1, c2, c3, k, k0, k1, by rw [ag.1 _ (by omega)]; exact k2⟩
  · rw [e1] at b
    have g := h4 k a b
    rw [ag.1 (2 + k) (by omega), (ag.2 _ g.1 (by omega)).1]
    exact g
/-- guests changed -/
theorem pu_St.guests {M N N' : nb_M} {ns : Int} {cr pe pe' R R' : Int → Int} (h : pu_St M N ns cr pe R) (hnp : M.1 606 5 ≤ 10) (hns : ns ≤ 4) (e : ∀ a i, 106 ≤ a → a < 128 → (a < 110 ∨ 120 ≤ a ∨ i = 11 ∨ i = 13 ∨ i = 14) → N'.1 a i = N.1 a i) (hG : ∀ p, 0 ≤ p → p < M.1 606 5 → pu_G (N'.1 (110 + p)) pe' R' p) (ag : pu_ag R R') (eh : ∀ j, 92 ≤ j → R' j = R j) (ap : ∀ q, 0 ≤ q → q ≤ 9 → pe' (7 * q + 2) = pe (7 * q + 2)) (hR' : pu_Rw R') : pu_St M N' ns cr pe' R' := by
  obtain ⟨⟨a1, a2, a3, a4, a5, a6⟩, hX, hI⟩ := h
  have hR := hI.1
  have r1 := hR.2.2.2.1
  have e1 := ag.1 1 (by omega)
  refine ⟨⟨?_, ?_, ?_, fun k x y => ?_, fun p x y => ?_, fun s x y => ?_⟩, fun p x y => ?_, pu_Ib_ag hnp ag ap hR' (fun s x y => by rw [eh _ (by omega)]; exact hI.2.2.2 s x y) hI⟩
  · rw [e 106 4 (by decide) (by decide) (by decide)]; exact a1
  · rw [e 106 5 (by decide) (by decide) (by decide)]; exact a2
  · rw [e 106 6 (by decide) (by decide) (by decide), e1]; exact a3
  · rw [e1] at y
    rw [e (106 + 3) k (by decide) (by decide) (by omega), ag.1 _ (by omega)]; exact a4 k x y
  · rw [show (106 : Int) + 4 + p = 110 + p by omega]
    exact hG p x y
  · have g := a6 s x y
    unfold pu_V at g ⊢
    rw [eh (92 + 4 * s) (by omega), eh (92 + 4 * s + 1) (by omega), eh (92 + 4 * s + 2) (by omega), eh (92 + 4 * s + 3) (by omega)]
    rw [e (106 + 14 + 2 * s) 1 (by omega) (by omega) (by omega), e (106 + 14 + 2 * s) 2 (by omega) (by omega) (by omega), e (106 + 14 + 2 * s) 3 (by omega) (by omega) (by omega), e (106 + 14 + 2 * s) 4 (by omega) (by omega) (by omega), e (106 + 14 + 2 * s) 5 (by omega) (by omega) (by omega), e (106 + 14 + 2 * s) 6 (by omega) (by omega) (by omega), e (106 + 14 + 2 * s) 7 (by omega) (by omega) (by omega), e (106 + 14 + 2 * s + 1) 0 (by omega) (by omega) (by omega), e (106 + 14 + 2 * s + 1) 1 (by omega) (by omega) (by omega)]
    exact g
  · exact pu_Gx_ag hnp ⟨x, y⟩ hR ag ap (e _ 11 (by omega) (by omega) (by omega)) (e _ 13 (by omega) (by omega) (by omega)) (e _ 14 (by omega) (by omega) (by omega)) (hX p x y)
/-- staff changed -/
theorem pu_St.staff {M N N' : nb_M} {ns : Int} {cr cr' pe R : Int → Int} (h : pu_St M N ns cr pe R) (hnp : M.1 606 5 ≤ 10) (e : ∀ a, 106 ≤ a → a < 120 → N'.1 a = N.1 a) (hV : ∀ s, 0 ≤ s → s < ns → pu_V (N'.1 (120 + 2 * s)) (N'.1 (120 + 2 * s + 1)) cr' R s) : pu_St M N' ns cr' pe R := by
  obtain ⟨⟨a1, a2, a3, a4, a5, a6⟩, hX, hI⟩ := h
  refine ⟨⟨?_, ?_, ?_, fun k x y => ?_, fun p x y => ?_, fun s x y => ?_⟩, fun p x y => ?_, hI⟩
  · rw [e 106 (by decide) (by decide)]; exact a1
  · rw [e 106 (by decide) (by decide)]; exact a2
  · rw [e 106 (by decide) (by decide)]; exact a3
  · rw [e _ (by decide) (by decide)]; exact a4 k x y
  · rw [e _ (by omega) (by omega)]; exact a5 p x y
  · rw [show (106 : Int) + 14 + 2 * s = 120 + 2 * s by omega]
    exact hV s x y
  · rw [e _ (by omega) (by omega)]; exact hX p x y
