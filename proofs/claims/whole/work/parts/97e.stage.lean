/-! THE STAGE: as now, and run to a second -/
theorem pu_CQ_fr3 {M N M' : nb_M} {tr : Int} (h : pu_fr N M' 106) (hN2 : N.2 = M.2) (ht : N.1 2 15 = tr) (eN : ∀ a i, (a ≠ 2 ∨ i ≠ 15) → N.1 a i = M.1 a i) : pu_CQ M M' tr := by
  obtain ⟨h1, h2, h3⟩ := h
  refine ⟨h1, h2.trans hN2, ?_, fun a i p q => ?_⟩
  · rw [h3 2 15 (by omega), ht]
  · rw [h3 a i (by omega), eN a i p]
theorem pu_CQ_no2 {M : nb_M} {x tr : Int} (hL : nb_Lay (nb_wr (nb_wr M 2 15 x) 2 15 tr)) : pu_CQ M (nb_wr (nb_wr M 2 15 x) 2 15 tr) tr := ⟨hL, rfl, by rw [nb_wr_1, if_pos ⟨rfl, rfl⟩], fun a i h _ => by rw [nb_wr_1, if_neg (by omega), nb_wr_1, if_neg (by omega)]⟩
theorem sp_c_asNow {M : nb_M} {k : Int} (h : pu_I M k) {N : nb_M} (hN : nb_Lay N) (eN : ∀ a i, (a ≠ 2 ∨ i ≠ 15) → N.1 a i = M.1 a i) : nb_W 23 0 [(19, 2)] [] N (fun r' M' => r' = [(15, 106)] ∧ pu_fr N M' 106 ∧ (M'.1 106 3 = M.1 2 2 ∧ M'.1 106 8 = M.1 606 2 ∧ M'.1 106 7 = pu_sta M 0) ∧ pu_S M' 106 (M.1 606 5) (M.1 606 4) (pu_cra M) (pu_pea M) (pu_sta M) ∧ pu_X M' 106 (M.1 606 5) (pu_pea M) (pu_sta M) ∧ pu_Ib (pu_pea M) (pu_sta M) (M.1 606 5) (M.1 606 4)) := by
  obtain ⟨hL, ht1, ⟨i1, i2, i3⟩, ⟨Ho, So, ⟨s1, s2, s3, s4, s5⟩, hu, hm⟩, h6, h7⟩ := h
  have hr := i1.1
  have n5 := hr.2.2.2.2.2.2.1
  have n4 := hr.2.2.2.2.2.1
  have s5' := s5
  obtain ⟨a1, a2, a3, a4, a5, a6, a7, a8⟩ := s5'
  have e : ∀ a, a ≠ 2 → N.1 a = M.1 a := fun a h => funext fun i => eN a i (Or.inl h)
  refine w_c_asNow_0 hN ?_
  refine nb_W.imp (sp_sc_take (np := M.1 606 5) (ns := M.1 606 4) hN nb_sc106 nb_sc84 (by decide) (by rw [e 84 (by decide)]; exact a1.1) (by rw [e 84 (by decide)]; exact a1.2.1) n5 (by omega)) ?_
  rintro r' M1 ⟨rfl, ⟨f1, f2, f3⟩, g1, g2, g3, g4, g5⟩
  have hS1 : pu_Sn M1 106 Ho (M.1 606) (M.1 608) k := by
    have ee : ∀ a, 84 ≤ a → a < 106 → N.1 a = M.1 a := fun a p q => e a (by omega)
    refine ⟨pu_S_take a3.1.2.2.2.1.2 a1 (fun j p q => (g1 j p q).trans (by rw [e _ (by decide)])) (fun k p q => (g2 k p q).trans (by rw [e _ (by decide)])) (fun p j a b c d => (g3 p j a b c d).trans (by rw [e _ (by omega)])) (fun s j a b c d => (g4 s j a b c d).trans (by rw [e _ (by omega)])) (fun s j a b c d => (g5 s j a b c d).trans (by rw [e _ (by omega)])), pu_X_take a2 (fun p j a b c d => (g3 p j a b c d).trans (by rw [e _ (by omega)])), a3, ?_, ?_, ?_, a7, a8⟩
    · rw [g1 3 (by decide) (by decide), e 84 (by decide)]; exact a4
    · rw [g1 7 (by decide) (by decide), e 84 (by decide)]; exact a5
    · rw [g1 8 (by decide) (by decide), e 84 (by decide)]; exact a6
  obtain ⟨b1, b2, b3⟩ := pu_Sn_as (R' := pu_sta M) i1 hS1 (fun i a b => pu_cpy_in i a b)
  have hst0 : pu_sta M 0 = M.1 608 0 := pu_cpy_in 0 (by decide) (by decide)
  refine ⟨rfl, f1, rfl, ⟨f1, f2, fun a i p => f3 a i p⟩, ⟨?_, ?_, ?_⟩, b1, b2, b3⟩
  · rw [hS1.2.2.2.1, s2]
  · exact hS1.2.2.2.2.2.1
  · rw [hst0]; exact hS1.2.2.2.2.1
theorem sp_c_run {M N M1 : nb_M} {k x : Int} (h : pu_I M k) (eN : ∀ a i, (a ≠ 2 ∨ i ≠ 15) → N.1 a i = M.1 a i) (hf : pu_fr N M1 106) (hA3 : M1.1 106 3 = M.1 2 2) (hA7 : M1.1 106 7 = pu_sta M 0) (hS : pu_S M1 106 (M.1 606 5) (M.1 606 4) (pu_cra M) (pu_pea M) (pu_sta M)) (hX : pu_X M1 106 (M.1 606 5) (pu_pea M) (pu_sta M)) (hIb : pu_Ib (pu_pea M) (pu_sta M) (M.1 606 5) (M.1 606 4)) (hx : 0 ≤ x ∧ x ≤ 2000) : nb_W 257 0 [(15, 106), (0, x), (98, 0), (98, 0)] [] M1 (fun r' M2 => r' = [] ∧ pu_fr N M2 106 ∧ M2.1 106 3 = M1.1 106 3 ∧ M2.1 106 8 = M1.1 106 8 ∧ pu_S M2 106 (M.1 606 5) (M.1 606 4) (pu_cra M) (pu_pea M) (pu_eve (M.1 606) (pu_cra M) (pu_pea M) (M.1 606 4) x (pu_sta M)) ∧ pu_X M2 106 (M.1 606 5) (pu_pea M) (pu_eve (M.1 606) (pu_cra M) (pu_pea M) (M.1 606 4) x (pu_sta M)) ∧ pu_Ib (pu_pea M) (pu_eve (M.1 606) (pu_cra M) (pu_pea M) (M.1 606 4) x (pu_sta M)) (M.1 606 5) (M.1 606 4)) := by
  obtain ⟨hL, ht1, ⟨i1, i2, i3⟩, ⟨Ho, So, ⟨s1, s2, s3, s4, s5⟩, hu, hm⟩, h6, h7⟩ := h
  have hr := i1.1
  have n4 := hr.2.2.2.2.2.1
  have n5 := hr.2.2.2.2.2.2.1
  obtain ⟨f1, f2, f3⟩ := hf
  have hHo : nb_hs Ho := by unfold nb_hs; omega
  have hHu := hHo
  unfold nb_hs at hHu
  have hHo1 : pu_Ho M1 Ho (M.1 606) := pu_Ho_congr s4 hr (fun a i p q => by rw [f3 a i (by omega)]; exact eN a i (Or.inl (by omega)))
  refine nb_W.imp (sp_sc_runTo (np := M.1 606 5) (ns := M.1 606 4) (last := x) (cr := pu_cra M) (pe := pu_pea M) (R := pu_sta M) f1 nb_sc106 hHo (by rw [hA3, s2]) hr hHo1 (pu_cra_rg h7 i1) (pu_pea_rg i1) rfl (by omega) hx hA7 hS hX hIb (fun p p0 p1 => by rw [pu_pea_eq M (by omega) (by omega)]; exact congrArg (M.1 606) (by omega))) ?_
  rintro r' M2 ⟨rfl, d1, d2, d3, d4, d5, d6, d7, d8⟩
  exact ⟨rfl, ⟨d1, d2.trans f2, fun a i p => (d3 a i (by omega)).trans (f3 a i p)⟩, d3 106 3 (by decide), d3 106 8 (by decide), d4, d5, d6⟩
