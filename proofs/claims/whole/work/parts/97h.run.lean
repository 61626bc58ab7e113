/-! THE STAGE run to a second, whatever was changed on it -/
theorem sp_c_runG {M N M1 : nb_M} {k x ns : Int} {cr pe R : Int → Int} (h : pu_I M k) (eN : ∀ a i, (a ≠ 2 ∨ i ≠ 15) → N.1 a i = M.1 a i) (hf : pu_fr N M1 106) (hA3 : M1.1 106 3 = M.1 2 2) (hA7 : M1.1 106 7 = R 0) (hc : pu_Rc cr) (hp : pu_Rp pe) (hns : 0 ≤ ns ∧ ns ≤ 4) (hS : pu_S M1 106 (M.1 606 5) ns cr pe R) (hX : pu_X M1 106 (M.1 606 5) pe R) (hIb : pu_Ib pe R (M.1 606 5) ns) (hpc : ∀ p, 0 ≤ p → p < M.1 606 5 → pe (7 * p + 2) = M.1 606 (41 + 7 * p + 2)) (hx : 0 ≤ x ∧ x ≤ 2000) : nb_W 257 0 [(15, 106), (0, x), (98, 0), (98, 0)] [] M1 (fun r' M2 => r' = [] ∧ pu_fr N M2 106 ∧ M2.1 106 3 = M1.1 106 3 ∧ M2.1 106 8 = M1.1 106 8 ∧ pu_S M2 106 (M.1 606 5) ns cr pe (pu_eve (M.1 606) cr pe ns x R) ∧ pu_X M2 106 (M.1 606 5) pe (pu_eve (M.1 606) cr pe ns x R) ∧ pu_Ib pe (pu_eve (M.1 606) cr pe ns x R) (M.1 606 5) ns) := by
  obtain ⟨hL, ht1, ⟨i1, i2, i3⟩, ⟨Ho, So, ⟨s1, s2, s3, s4, s5⟩, hu, hm⟩, h6, h7⟩ := h
  have hr := i1.1
  obtain ⟨f1, f2, f3⟩ := hf
  have hHo : nb_hs Ho := by unfold nb_hs; omega
  have hHu := hHo
  unfold nb_hs at hHu
  have hHo1 : pu_Ho M1 Ho (M.1 606) := pu_Ho_congr s4 hr (fun a i p q => by rw [f3 a i (by omega)]; exact eN a i (Or.inl (by omega)))
  refine nb_W.imp (sp_sc_runTo (np := M.1 606 5) (ns := ns) (last := x) (cr := cr) (pe := pe) (R := R) f1 nb_sc106 hHo (by rw [hA3, s2]) hr hHo1 hc hp rfl hns hx hA7 hS hX hIb hpc) ?_
  rintro r' M2 ⟨rfl, d1, d2, d3, d4, d5, d6, d7, d8⟩
  exact ⟨rfl, ⟨d1, d2.trans f2, fun a i p => (d3 a i (by omega)).trans (f3 a i p)⟩, d3 106 3 (by decide), d3 106 8 (by decide), d4, d5, d6⟩
