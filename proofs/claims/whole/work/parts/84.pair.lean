/-! A CALL OF EACH: the same answer, and what stands between calls stands -/
/-- nothing but numbers changed, and not the script -/
def pu_sm (M2 M : nb_M) : Prop := M2.2 = M.2 ∧ M2.1 1 = M.1 1
def pu_pair (c : Nat) (ca : List nb_V) (m : Nat) (ma : List nb_V) : Prop := ∀ (M : nb_M) (k : Int), pu_I M k → 0 ≤ k → k ≤ 512 → nb_W c 0 ca [] M (fun r1 M1 => (nb_Lay M1 ∧ pu_sm M1 M) ∧ ∃ v : Int, r1 = [(0, v)] ∧ nb_W m 0 ma [] M1 (fun r2 M2 => r2 = [(0, v)] ∧ pu_I M2 (k + 1) ∧ pu_sm M2 M))
/-- what an invariant gives at once -/
theorem pu_I_at {M : nb_M} {k : Int} (h : pu_I M k) : ∃ Ho, nb_hs Ho ∧ M.1 2 2 = Ho ∧ M.1 2 3 = 44 - Ho ∧ pu_Ho M Ho (M.1 606) ∧ pu_Sn M 84 Ho (M.1 606) (M.1 608) k ∧ pu_T (M.1 606) ∧ (M.1 603 14 = if M.1 606 5 = 0 then 0 else 1) ∧ pu_I7 M ∧ nb_Lay M := by
  obtain ⟨hL, ht1, ⟨i1, i2, i3⟩, ⟨Ho, So, ⟨s1, s2, s3, s4, s5⟩, hu, hm⟩, h6, h7⟩ := h
  refine ⟨Ho, ?_, s2, ?_, s4, s5, i1, i2, h7, hL⟩
  · unfold nb_hs
    omega
  · omega
theorem pu_CQ.row1 {M M1 : nb_M} {tr : Int} (h : pu_CQ M M1 tr) : M1.1 1 = M.1 1 := funext fun i => h.2.2.2 1 i (Or.inl (by decide)) (Or.inl (by decide))
theorem pu_CQ.sm {M M1 : nb_M} {tr : Int} (h : pu_CQ M M1 tr) : pu_sm M1 M := ⟨h.2.1, h.row1⟩
theorem pu_MQ.row1 {M M1 : nb_M} {tr : Int} (h : pu_MQ M M1 tr) : M1.1 1 = M.1 1 := h.2.2.2.2.1 1 (by decide) (by decide) (by decide)
theorem pu_sm_q {M M1 M2 : nb_M} {tr tr2 : Int} (h : pu_CQ M M1 tr) (g : pu_MQ M1 M2 tr2) : pu_sm M2 M := ⟨g.2.1.trans h.2.1, g.row1.trans h.row1⟩
theorem pu_pair_q {c : Nat} {ca : List nb_V} {m : Nat} {ma : List nb_V} (h : ∀ (M : nb_M) (k : Int), pu_I M k → 0 ≤ k → k ≤ 512 → ∃ v tr : Int, (tr = 4 → M.1 603 11 = 4) ∧ nb_W c 0 ca [] M (fun r1 M1 => r1 = [(0, v)] ∧ pu_CQ M M1 tr) ∧ ∀ M1, pu_CQ M M1 tr → nb_W m 0 ma [] M1 (fun r2 M2 => r2 = [(0, v)] ∧ pu_MQ M1 M2 tr)) : pu_pair c ca m ma := by
  intro M k hI h0 h1
  obtain ⟨v, tr, h4, hc, hm⟩ := h M k hI h0 h1
  refine nb_W.imp hc ?_
  rintro r1 M1 ⟨rfl, hq⟩
  refine ⟨⟨hq.1, hq.sm⟩, v, rfl, nb_W.imp (hm M1 hq) ?_⟩
  rintro r2 M2 ⟨rfl, hq2⟩
  exact ⟨rfl, pu_I_q hI hq hq2 h4, pu_sm_q hq hq2⟩
theorem pu_CQ_no {M : nb_M} {tr : Int} (hL : nb_Lay (nb_wr M 2 15 tr)) : pu_CQ M (nb_wr M 2 15 tr) tr := ⟨hL, rfl, by rw [nb_wr_1, if_pos ⟨rfl, rfl⟩], fun a i h _ => nb_rd_other (M := M) (by omega)⟩
theorem pu_CQ_fr {M M' : nb_M} {tr : Int} (h : pu_fr (nb_wr M 2 15 tr) M' 106) : pu_CQ M M' tr := by
  obtain ⟨h1, h2, h3⟩ := h
  refine ⟨h1, h2, ?_, fun a i p q => ?_⟩
  · rw [h3 2 15 (by omega), nb_wr_1, if_pos ⟨rfl, rfl⟩]
  · rw [h3 a i (by omega), nb_wr_1, if_neg (by omega)]
theorem pu_CQ.row {M M1 : nb_M} {tr : Int} (h : pu_CQ M M1 tr) {a : Int} (ha : 273 ≤ a) : M1.1 a = M.1 a := funext fun i => h.2.2.2 a i (Or.inl (by omega)) (by omega)
theorem pu_MQ_no {M : nb_M} {t : Int} (h7 : pu_I7 M) (hL : nb_Lay (nb_wr (nb_wr (nb_wr M 603 0 0) 603 11 0) 603 11 t)) : pu_MQ M (nb_wr (nb_wr (nb_wr M 603 0 0) 603 11 0) 603 11 t) t := by
  refine ⟨hL, rfl, by rw [nb_wr_1, if_pos ⟨rfl, rfl⟩], ?_, fun a h1 h2 h3 => ?_, fun i h0 h11 _ _ _ _ _ => ?_⟩
  · unfold pu_I7
    rw [nb_wr_b (by decide), nb_wr_b (by decide), nb_wr_b (by decide)]
    exact h7
  · rw [nb_wr_b h1, nb_wr_b h1, nb_wr_b h1]
  · rw [nb_wr_1, if_neg (by omega), nb_wr_1, if_neg (by omega), nb_wr_1, if_neg (by omega)]
theorem pu_MQ_eve {M : nb_M} {x b : Int} {f12 f13 T : Int → Int} (h7 : pu_I7 M) (h12 : f12 19 = M.1 612 19 ∧ f12 22 = M.1 612 22 ∧ f12 23 = M.1 612 23) (hL : nb_Lay (nb_up (nb_wr (nb_up (nb_up (nb_wr (nb_wr (nb_wr M 603 0 0) 603 11 0) 603 25 x) 612 f12) 613 f13) 603 26 b) 609 T)) : pu_MQ M (nb_up (nb_wr (nb_up (nb_up (nb_wr (nb_wr (nb_wr M 603 0 0) 603 11 0) 603 25 x) 612 f12) 613 f13) 603 26 b) 609 T) 0 := by
  refine ⟨hL, rfl, ?_, ?_, fun a h1 h2 h3 => ?_, fun i h0 h11 h25 h26 _ _ _ => ?_⟩
  · simp [nb_wr_up, nb_up_1, nb_ud]
  · unfold pu_I7
    rw [nb_up_other (by decide), nb_wr_b (by decide), nb_up_other (by decide), nb_up_same, h12.1, h12.2.1, h12.2.2]
    exact h7
  · rw [nb_up_other h2, nb_wr_b h1, nb_up_other (by omega), nb_up_other (by omega), nb_wr_b h1, nb_wr_b h1, nb_wr_b h1]
  · rw [nb_up_other (by decide), nb_wr_1, if_neg (by omega), nb_up_other (by decide), nb_up_other (by decide), nb_wr_1, if_neg (by omega), nb_wr_1, if_neg (by omega), nb_wr_1, if_neg (by omega)]
theorem pu_cpy12 {f g : Int → Int} : pu_cpy f g 23 0 18 19 = g 19 ∧ pu_cpy f g 23 0 18 22 = g 22 ∧ pu_cpy f g 23 0 18 23 = g 23 := by
  unfold pu_cpy
  exact ⟨by rw [if_neg (by omega)], by rw [if_neg (by omega)], by rw [if_neg (by omega)]⟩
/-- the evening, as things stand -/
def pu_ev (M : nb_M) : Int → Int := pu_eve (M.1 606) (pu_cra M) (pu_pea M) (M.1 606 4) (M.1 606 2) (pu_sta M)
theorem pu_ev_rw {M : nb_M} {k : Int} (h : pu_I M k) : pu_Rw (pu_ev M) ∧ pu_Rk (pu_ev M) ∧ pu_Rw (M.1 608) ∧ pu_Rk (M.1 608) ∧ pu_Rc (pu_cpy (M.1 606) (M.1 612) 23 0 18) ∧ pu_Rp (pu_cpy (M.1 606) (M.1 613) 41 0 70) := by
  obtain ⟨Ho, h1, h2, h3, h4, ⟨a1, a2, a3, a4, a5, a6, a7, a8⟩, h6, h7, h8, h9⟩ := pu_I_at h
  have hr := h6.1
  have n5 := hr.2.2.2.2.2.2.1
  have n4 := hr.2.2.2.2.2.1
  have n2 := hr.2.2.2.1
  have hR := pu_Rw_congr (R' := pu_sta M) pu_cpy_in a3.1
  have hk := pu_Rk_congr (R' := pu_sta M) pu_cpy_in a3.2.1
  have hst0 : pu_sta M 0 = M.1 608 0 := pu_cpy_in 0 (by decide) (by decide)
  have h0 := a3.1.2.2.1
  obtain ⟨g1, g2, g3⟩ := pu_secs_ok (pe := pu_pea M) (ns := M.1 606 4) hr (pu_cra_rg h8 h6) (by omega) hR hk (M.1 606 2 + 1 - pu_sta M 0).toNat (by omega)
  exact ⟨g1, g2, a3.1, a3.2.1, pu_cra_rg h8 h6, pu_pea_rg h6⟩
/-- the reference is asked behind each way of the class -/
theorem pu_pair_r {c : Nat} {ca : List nb_V} {m : Nat} {ma : List nb_V} (h : ∀ (M : nb_M) (k : Int), pu_I M k → 0 ≤ k → k ≤ 512 → nb_W c 0 ca [] M (fun r1 M1 => ∃ v tr : Int, r1 = [(0, v)] ∧ pu_CQ M M1 tr ∧ (tr = 4 → M.1 603 11 = 4) ∧ nb_W m 0 ma [] M1 (fun r2 M2 => r2 = [(0, v)] ∧ pu_MQ M1 M2 tr))) : pu_pair c ca m ma := by
  intro M k hI h0 h1
  refine nb_W.imp (h M k hI h0 h1) ?_
  rintro r1 M1 ⟨v, tr, rfl, hq, h4, hm⟩
  refine ⟨⟨hq.1, hq.sm⟩, v, rfl, nb_W.imp hm ?_⟩
  rintro r2 M2 ⟨rfl, hq2⟩
  exact ⟨rfl, pu_I_q hI hq hq2 h4, pu_sm_q hq hq2⟩
theorem pu_v1 {x y : Int} (h : x = y) : [((0 : Nat), x)] = [((0 : Nat), y)] := by rw [h]
theorem pu_CQ_id {M : nb_M} (hL : nb_Lay M) : pu_CQ M M (M.1 2 15) := ⟨hL, rfl, rfl, fun _ _ _ _ => rfl⟩
theorem pu_MQ_ok {M : nb_M} (h7 : pu_I7 M) (hL : nb_Lay (nb_wr (nb_wr M 603 0 0) 603 11 0)) : pu_MQ M (nb_wr (nb_wr M 603 0 0) 603 11 0) 0 := by
  refine ⟨hL, rfl, by rw [nb_wr_1, if_pos ⟨rfl, rfl⟩], ?_, fun a h1 h2 h3 => ?_, fun i h0 h11 _ _ _ _ _ => ?_⟩
  · unfold pu_I7
    rw [nb_wr_b (by decide), nb_wr_b (by decide)]
    exact h7
  · rw [nb_wr_b h1, nb_wr_b h1]
  · rw [nb_wr_1, if_neg (by omega), nb_wr_1, if_neg (by omega)]
theorem pu_MQ_th {M : nb_M} {x t : Int} (h7 : pu_I7 M) (ht : M.1 603 11 = t) (hL : nb_Lay (nb_wr M 603 0 x)) : pu_MQ M (nb_wr M 603 0 x) t := by
  refine ⟨hL, rfl, ?_, ?_, fun a h1 h2 h3 => ?_, fun i h0 h11 _ _ _ _ _ => ?_⟩
  · rw [nb_wr_1, if_neg (by omega)]
    exact ht
  · unfold pu_I7
    rw [nb_wr_b (by decide)]
    exact h7
  · rw [nb_wr_b h1]
  · rw [nb_wr_1, if_neg (by omega)]
theorem pu_MQ_told {M : nb_M} {x : Int} {f12 f13 : Int → Int} (h7 : pu_I7 M) (h12 : f12 19 = M.1 612 19 ∧ f12 22 = M.1 612 22 ∧ f12 23 = M.1 612 23) (hL : nb_Lay (nb_up (nb_up (nb_wr (nb_wr (nb_wr M 603 0 0) 603 11 0) 603 25 x) 612 f12) 613 f13)) : pu_MQ M (nb_up (nb_up (nb_wr (nb_wr (nb_wr M 603 0 0) 603 11 0) 603 25 x) 612 f12) 613 f13) 0 := by
  refine ⟨hL, rfl, ?_, ?_, fun a h1 h2 h3 => ?_, fun i h0 h11 h25 h26 _ _ _ => ?_⟩
  · simp [nb_wr_up, nb_up_1, nb_ud]
  · unfold pu_I7
    rw [nb_up_other (by decide), nb_up_same, h12.1, h12.2.1, h12.2.2]
    exact h7
  · rw [nb_up_other (by omega), nb_up_other (by omega), nb_wr_b h1, nb_wr_b h1, nb_wr_b h1]
  · rw [nb_up_other (by decide), nb_up_other (by decide), nb_wr_1, if_neg (by omega), nb_wr_1, if_neg (by omega), nb_wr_1, if_neg (by omega)]
theorem pu_I7_wr {M : nb_M} {a i v : Int} (h : pu_I7 M) (ha : 612 ≠ a) : pu_I7 (nb_wr M a i v) := by
  unfold pu_I7
  rw [nb_wr_b ha]
  exact h
