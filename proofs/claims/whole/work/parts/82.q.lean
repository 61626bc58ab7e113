/-! WHAT A QUESTION CHANGES: nothing that counts -/
/-- what the class's side of a question may change -/
def pu_CQ (M M' : nb_M) (tr : Int) : Prop := nb_Lay M' ∧ M'.2 = M.2 ∧ M'.1 2 15 = tr ∧ ∀ a i, (a ≠ 2 ∨ i ≠ 15) → (a < 106 ∨ (128 ≤ a ∧ a < 130) ∨ 273 ≤ a ∨ (a = 141 ∧ 0 ≤ i ∧ i < 8)) → M'.1 a i = M.1 a i
/-- what the reference's side of a question may change -/
def pu_MQ (M M' : nb_M) (tr : Int) : Prop := nb_Lay M' ∧ M'.2 = M.2 ∧ M'.1 603 11 = tr ∧ pu_I7 M' ∧ (∀ a, a ≠ 603 → a ≠ 609 → a < 612 → M'.1 a = M.1 a) ∧ ∀ i, i ≠ 0 → i ≠ 11 → i ≠ 25 → i ≠ 26 → i ≠ 27 → i ≠ 28 → i ≠ 33 → M'.1 603 i = M.1 603 i
theorem pu_Sn_mono {M N : nb_M} {A Ho : Int} {r R : Int → Int} {k j : Int} (hr : pu_Rr r) (h1 : R 1 ≤ 10) (hkj : k ≤ j) (e : ∀ a, A ≤ a → a < A + 22 → N.1 a = M.1 a) (h : pu_Sn M A Ho r R k) : pu_Sn N A Ho r R j := by
  obtain ⟨a1, a2, a3, a4, a5, a6, a7, a8⟩ := h
  have n5 := hr.2.2.2.2.2.2.1
  have n4 := hr.2.2.2.2.2.1
  refine ⟨pu_S_take h1 a1 (fun j _ _ => by rw [e A (by omega) (by omega)]) (fun k _ _ => by rw [e _ (by omega) (by omega)]) (fun p j _ _ _ _ => by rw [e _ (by omega) (by omega)]) (fun s j _ _ _ _ => by rw [e _ (by omega) (by omega)]) (fun s j _ _ _ _ => by rw [e _ (by omega) (by omega)]), pu_X_take a2 (fun p j _ _ _ _ => by rw [e _ (by omega) (by omega)]), a3, by rw [e A (by omega) (by omega)]; exact a4, by rw [e A (by omega) (by omega)]; exact a5, by rw [e A (by omega) (by omega)]; exact a6, a7, fun p p0 p9 => by have := a8 p p0 p9; omega⟩
theorem pu_I_q {M M1 M2 : nb_M} {k tr : Int} (h : pu_I M k) (hc : pu_CQ M M1 tr) (hm : pu_MQ M1 M2 tr) (h4 : tr = 4 → M.1 603 11 = 4) : pu_I M2 (k + 1) := by
  obtain ⟨hL, ⟨t1, t2, t3, t4, t5⟩, ⟨i1, i2, i3⟩, ⟨Ho, So, ⟨s1, s2, s3, s4, s5⟩, ⟨u1, u2, u3, u4⟩, ⟨m1, m2, m3⟩⟩, ⟨r1, r2, r3⟩, i7⟩ := h
  obtain ⟨c1, c2, c3, c4⟩ := hc
  obtain ⟨q1, q2, q3, q4, q5, q6⟩ := hm
  have ec : ∀ a, a ≠ 2 → (a < 106 ∨ (128 ≤ a ∧ a < 130) ∨ 273 ≤ a) → M1.1 a = M.1 a := fun a h1 h2 => funext fun i => c4 a i (Or.inl h1) (by omega)
  have e : ∀ a, a ≠ 2 → a ≠ 603 → a ≠ 609 → a < 612 → (a < 106 ∨ (128 ≤ a ∧ a < 130) ∨ 273 ≤ a) → M2.1 a = M.1 a := fun a h1 h2 h3 h4 h5 => (q5 a h2 h3 h4).trans (ec a h1 h5)
  have e2 : ∀ i, i ≠ 15 → M2.1 2 i = M.1 2 i := fun i hi => by rw [q5 2 (by decide) (by decide) (by decide)]; exact c4 2 i (Or.inr hi) (Or.inl (by decide))
  have e603 : ∀ i, i ≠ 0 → i ≠ 11 → i ≠ 25 → i ≠ 26 → i ≠ 27 → i ≠ 28 → i ≠ 33 → M2.1 603 i = M.1 603 i := fun i a b c d e f g => by rw [q6 i a b c d e f g, ec 603 (by decide) (by decide)]
  have e606 := e 606 (by decide) (by decide) (by decide) (by decide) (by decide)
  have e608 := e 608 (by decide) (by decide) (by decide) (by decide) (by decide)
  have e604 := e 604 (by decide) (by decide) (by decide) (by decide) (by decide)
  have e610 := e 610 (by decide) (by decide) (by decide) (by decide) (by decide)
  have e611 := e 611 (by decide) (by decide) (by decide) (by decide) (by decide)
  have f2 := e603 2 (by decide) (by decide) (by decide) (by decide) (by decide) (by decide) (by decide)
  have f14 := e603 14 (by decide) (by decide) (by decide) (by decide) (by decide) (by decide) (by decide)
  have f21 := e603 21 (by decide) (by decide) (by decide) (by decide) (by decide) (by decide) (by decide)
  have f22 := e603 22 (by decide) (by decide) (by decide) (by decide) (by decide) (by decide) (by decide)
  have f9 := e603 9 (by decide) (by decide) (by decide) (by decide) (by decide) (by decide) (by decide)
  have hHo : Ho = 4 ∨ Ho = 40 := by omega
  refine ⟨q1, ⟨?_, ?_, ?_, fun i p0 p1 => by rw [q5 141 (by decide) (by decide) (by decide), c4 141 i (Or.inl (by decide)) (by omega)]; exact t4 i p0 p1, fun a ha => by rw [e a (by omega) (by omega) (by omega) (by omega) (by omega)]; exact t5 a ha⟩, ⟨?_, ?_, ?_⟩, ⟨Ho, So, ⟨s1, ?_, ?_, ?_, ?_⟩, ⟨?_, ?_, ?_, ?_⟩, ⟨?_, ?_, ?_⟩⟩, ⟨?_, ?_, ?_⟩, q4⟩
  · rw [f2]; exact t1
  · rw [f2, e2 1 (by decide)]; exact t2
  · rw [f2, e604, e 3 (by decide) (by decide) (by decide) (by decide) (by decide)]; exact t3
  · rw [e606]; exact i1
  · rw [e606, f14]; exact i2
  · rw [e606, e608, f21, f22]; exact i3
  · rw [e2 2 (by decide)]; exact s2
  · rw [e2 3 (by decide)]; exact s3
  · rw [e606]
    exact pu_Ho_congr s4 i1.1 (fun a i p q => by rw [e a (by omega) (by omega) (by omega) (by omega) (by omega)])
  · rw [e606, e608]
    exact pu_Sn_mono i1.1 s5.2.2.1.1.2.2.2.1.2 (by omega) (fun a p q => e a (by omega) (by omega) (by omega) (by omega) (by omega)) s5
  · rw [f21]; exact u1
  · rw [f21, e2 9 (by decide)]; exact u2
  · rw [e2 8 (by decide)]; exact u3
  · rw [f21, e2 8 (by decide), e606, e610]
    intro j a b
    have h := u4 j a b
    exact pu_Sn_mono i1.1 h.2.2.1.1.2.2.2.1.2 (by omega) (fun a p q => e a (by omega) (by omega) (by omega) (by omega) (by omega)) h
  · rw [f22]; exact m1
  · rw [f22, e2 11 (by decide)]; exact m2
  · rw [f22, e606, e611]
    intro j a b
    have h := m3 j a b
    exact pu_Sn_mono i1.1 h.2.2.1.1.2.2.2.1.2 (by omega) (fun a p q => e a (by omega) (by omega) (by omega) (by omega) (by omega)) h
  · rw [q3, q5 2 (by decide) (by decide) (by decide), c3]
  · rw [f9, e2 16 (by decide)]; exact r2
  · rw [q3, e2 17 (by decide), e603 10 (by decide) (by decide) (by decide) (by decide) (by decide) (by decide) (by decide)]
    exact fun z => r3 (h4 z)
/-- the class's evening, as things stand -/
theorem sp_c_evening {M : nb_M} {k : Int} (h : pu_I M k) {N : nb_M} (hN : nb_Lay N) (hN2 : N.2 = M.2) (eN : ∀ a i, (a ≠ 2 ∨ i ≠ 15) → N.1 a i = M.1 a i) : nb_W 24 0 [(19, 2)] [] N (fun r' M' => r' = [(15, 106)] ∧ pu_fr N M' 106 ∧ (M'.1 106 3 = M.1 2 2 ∧ M'.1 106 8 = M.1 606 2) ∧ pu_S M' 106 (M.1 606 5) (M.1 606 4) (pu_cra M) (pu_pea M) (pu_eve (M.1 606) (pu_cra M) (pu_pea M) (M.1 606 4) (M.1 606 2) (pu_sta M)) ∧ pu_X M' 106 (M.1 606 5) (pu_pea M) (pu_eve (M.1 606) (pu_cra M) (pu_pea M) (M.1 606 4) (M.1 606 2) (pu_sta M)) ∧ pu_Ib (pu_pea M) (pu_eve (M.1 606) (pu_cra M) (pu_pea M) (M.1 606 4) (M.1 606 2) (pu_sta M)) (M.1 606 5) (M.1 606 4)) := by
  obtain ⟨hL, ht1, ⟨i1, i2, i3⟩, ⟨Ho, So, ⟨s1, s2, s3, s4, s5⟩, hu, hm⟩, h6, h7⟩ := h
  have hr := i1.1
  have n5 := hr.2.2.2.2.2.2.1
  have n4 := hr.2.2.2.2.2.1
  have n2 := hr.2.2.2.1
  have s5' := s5
  obtain ⟨a1, a2, a3, a4, a5, a6, a7, a8⟩ := s5'
  have e : ∀ a, a ≠ 2 → N.1 a = M.1 a := fun a h => funext fun i => eN a i (Or.inl h)
  have hHo : nb_hs Ho := by unfold nb_hs; omega
  have hHu := hHo
  unfold nb_hs at hHu
  refine w_c_evening_0 hN ?_
  refine nb_W.imp (sp_sc_take (np := M.1 606 5) (ns := M.1 606 4) hN nb_sc106 nb_sc84 (by decide) (by rw [e 84 (by decide)]; exact a1.1) (by rw [e 84 (by decide)]; exact a1.2.1) n5 (by omega)) ?_
  rintro r' M1 ⟨rfl, ⟨f1, f2, f3⟩, g1, g2, g3, g4, g5⟩
  have hS1 : pu_Sn M1 106 Ho (M.1 606) (M.1 608) k := by
    have ee : ∀ a, 84 ≤ a → a < 106 → N.1 a = M.1 a := fun a p q => e a (by omega)
    refine ⟨pu_S_take a3.1.2.2.2.1.2 a1 (fun j p q => (g1 j p q).trans (by rw [e _ (by decide)])) (fun k p q => (g2 k p q).trans (by rw [e _ (by decide)])) (fun p j a b c d => (g3 p j a b c d).trans (by rw [e _ (by omega)])) (fun s j a b c d => (g4 s j a b c d).trans (by rw [e _ (by omega)])) (fun s j a b c d => (g5 s j a b c d).trans (by rw [e _ (by omega)])), pu_X_take a2 (fun p j a b c d => (g3 p j a b c d).trans (by rw [e _ (by omega)])), a3, ?_, ?_, ?_, a7, a8⟩
    · rw [g1 3 (by decide) (by decide), e 84 (by decide)]; exact a4
    · rw [g1 7 (by decide) (by decide), e 84 (by decide)]; exact a5
    · rw [g1 8 (by decide) (by decide), e 84 (by decide)]; exact a6
  obtain ⟨b1, b2, b3⟩ := pu_Sn_as (R' := pu_sta M) i1 hS1 (fun i a b => pu_cpy_in i a b)
  have hst0 : pu_sta M 0 = M.1 608 0 := pu_cpy_in 0 (by decide) (by decide)
  have hHo1 : pu_Ho M1 Ho (M.1 606) := pu_Ho_congr s4 hr (fun a i p q => by rw [f3 a i (by omega)]; exact eN a i (Or.inl (by omega)))
  refine ⟨rfl, f1, ?_⟩
  rw [hS1.2.2.2.2.2.1]
  refine nb_W.imp (sp_sc_runTo (np := M.1 606 5) (ns := M.1 606 4) (last := M.1 606 2) (cr := pu_cra M) (pe := pu_pea M) (R := pu_sta M) f1 nb_sc106 hHo hS1.2.2.2.1 hr hHo1 (pu_cra_rg h7 i1) (pu_pea_rg i1) rfl (by omega) (by omega) (by rw [hst0]; exact hS1.2.2.2.2.1) b1 b2 b3 (fun p p0 p1 => by rw [pu_pea_eq M (by omega) (by omega)]; exact congrArg (M.1 606) (by omega))) ?_
  rintro r' M2 ⟨rfl, d1, d2, d3, d4, d5, d6, d7, d8⟩
  refine ⟨rfl, d1, rfl, ⟨d1, d2.trans f2, fun a i p => (d3 a i (by omega)).trans (f3 a i p)⟩, ⟨?_, ?_⟩, d4, d5, d6⟩
  · rw [d3 106 3 (by decide), hS1.2.2.2.1, s2]
  · rw [d3 106 8 (by decide)]; exact hS1.2.2.2.2.2.1
