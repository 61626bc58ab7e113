/-! CALLS: bestRule, letCosts, beforehand -/
theorem pu_sumv_rg {M : nb_M} {k w bell : Int} {pe E : Int → Int} (h : pu_I M k) (hE : pu_Rw E) (hP : pu_Rp pe) (hb : 0 ≤ bell ∧ bell ≤ 9000) : -7000 ≤ pu_sum (M.1 606) pe E (M.1 606 5) bell w ∧ pu_sum (M.1 606) pe E (M.1 606 5) bell w ≤ 100000 := by
  obtain ⟨Ho, hHo, hx2, hx3, hh, hSn, hT, h14, h7, hL⟩ := pu_I_at h
  have n5 := hT.1.2.2.2.2.2.2.1
  have g := pu_sun_rg (w := w) hT.1 hE hP hb (M.1 606 5).toNat (by omega)
  unfold pu_sum
  omega
def pu_brf (M : nb_M) (turn : Int) (n : Nat) : Int := if turn = 0 then -pu_sum (M.1 606) (pu_pea M) (pu_evb M n 0) (M.1 606 5) (M.1 606 2) 0 else pu_sum (M.1 606) (pu_pea M) (pu_evb M n 0) (M.1 606 5) (M.1 606 2) 4
theorem pu_brf_rg {M : nb_M} {k turn : Int} {n : Nat} (h : pu_I M k) : -100000 ≤ pu_brf M turn n ∧ pu_brf M turn n ≤ 100000 := by
  obtain ⟨k1, k2, k3, k4, k5, k6, k7, k8⟩ := pu_sta_ok h
  obtain ⟨Ho, hHo, hx2, hx3, hh, hSn, hT, h14, h7, hL⟩ := pu_I_at h
  have n2 := hT.1.2.2.2.1
  have a := pu_sumv_rg (w := 0) h (pu_evb_ok (rule := n) (rov := 0) h) k6 (bell := M.1 606 2) (by omega)
  have b := pu_sumv_rg (w := 4) h (pu_evb_ok (rule := n) (rov := 0) h) k6 (bell := M.1 606 2) (by omega)
  unfold pu_brf
  split <;> omega
theorem sp_c_bestRule_l {M : nb_M} {k turn : Int} (h : pu_I M k) : ∀ (n j : Nat), j + n = 5 → ∀ (N : nb_M) (v5 : nb_V), pu_CQ M N 0 → nb_W 35 5 [(19, 2), (0, turn), (0, (pu_bs (pu_brf M turn) 0 1000000 j).1), (0, (pu_bs (pu_brf M turn) 0 1000000 j).2), (0, (j : Int)), v5] [] N (fun r' N' => r' = [(0, (pu_bs (pu_brf M turn) 0 1000000 5).1)] ∧ pu_CQ M N' 0) := by
  obtain ⟨Ho, hHo, hx2, hx3, hh, hSn, hT, h14, h7, hL⟩ := pu_I_at h
  have hrg : ∀ j : Nat, -100000 ≤ (pu_bs (pu_brf M turn) 0 1000000 j).2 ∧ (pu_bs (pu_brf M turn) 0 1000000 j).2 ≤ 1000000 := by
    intro j
    induction j with
    | zero => exact ⟨show (-100000 : Int) ≤ 1000000 by decide, show (1000000 : Int) ≤ 1000000 by decide⟩
    | succ j ih =>
      have := pu_brf_rg (turn := turn) (n := j) h
      unfold pu_bs
      split
      · show -100000 ≤ pu_brf M turn j ∧ pu_brf M turn j ≤ 1000000
        omega
      · exact ih
  intro n
  induction n with
  | zero =>
    intro j hj N v5 q
    have := hrg j
    refine w_c_bestRule_5 q.1 hHo (q.x2 hx2) (by omega) (by omega) ⟨fun c => absurd c (by omega), fun _ _ => ⟨?_, q⟩⟩
    rw [show j = 5 by omega]
  | succ n ih =>
    intro j hj N v5 q
    have := hrg j
    have hf := pu_brf_rg (turn := turn) (n := j) h
    refine w_c_bestRule_5 q.1 hHo (q.x2 hx2) (by omega) (by omega) ⟨fun _ => ⟨fun c => ?_, fun c => ?_⟩, fun c => absurd c (by omega)⟩
    · refine nb_W.imp (sp_c_totalBy h q (by decide)) ?_
      rintro r' N' ⟨rfl, q2⟩
      have e : pu_brf M turn j = -pu_sum (M.1 606) (pu_pea M) (pu_evb M j 0) (M.1 606 5) (M.1 606 2) 0 := if_pos c
      refine ⟨_, rfl, q2.1, q2.x2 hx2, ?_⟩
      rw [← e]
      refine ⟨by omega, by omega, fun d => ?_, fun d => ?_⟩
      · have g := ih (j + 1) (by omega) N' (0, pu_brf M turn j) q2
        rw [pu_bs_lt d] at g
        exact g
      · have g := ih (j + 1) (by omega) N' (0, pu_brf M turn j) q2
        rw [pu_bs_ge d] at g
        exact g
    · refine nb_W.imp (sp_c_totalBy h q (by decide)) ?_
      rintro r' N' ⟨rfl, q2⟩
      have e : pu_brf M turn j = pu_sum (M.1 606) (pu_pea M) (pu_evb M j 0) (M.1 606 5) (M.1 606 2) 4 := if_neg c
      refine ⟨_, rfl, q2.1, q2.x2 hx2, ?_⟩
      rw [← e]
      refine ⟨fun d => ?_, fun d => ?_⟩
      · have g := ih (j + 1) (by omega) N' (0, pu_brf M turn j) q2
        rw [pu_bs_lt d] at g
        exact g
      · have g := ih (j + 1) (by omega) N' (0, pu_brf M turn j) q2
        rw [pu_bs_ge d] at g
        exact g
theorem sp_m_bestRule_l {M : nb_M} {turn : Int} (hr : pu_Rr (M.1 606)) (hc : pu_Rc (pu_cra M)) (hp : pu_Rp (pu_pea M)) (hS : pu_Rw (M.1 608)) (hk : pu_Rk (M.1 608)) (hE : ∀ x : Int, pu_Rw (pu_evb M x 0)) (hrg : ∀ j : Nat, -100000 ≤ pu_brf M turn j ∧ pu_brf M turn j ≤ 100000) : ∀ (n j : Nat), j + n = 5 → ∀ (N : nb_M) (v5 : nb_V), pu_MM M N (M.1 608) (M.1 612) → nb_W 163 5 [(20, 603), (0, turn), (0, (pu_bs (pu_brf M turn) 0 1000000 j).1), (0, (pu_bs (pu_brf M turn) 0 1000000 j).2), (0, (j : Int)), v5] [] N (fun r' N' => r' = [(0, (pu_bs (pu_brf M turn) 0 1000000 5).1)] ∧ pu_MM M N' (M.1 608) (M.1 612)) := by
  have n2 := hr.2.2.2.1
  intro n
  induction n with
  | zero =>
    intro j hj N v5 q
    refine w_m_bestRule_5 q.1 (by omega) ⟨fun c => absurd c (by omega), fun _ _ => ⟨?_, q⟩⟩
    rw [show j = 5 by omega]
  | succ n ih =>
    intro j hj N v5 q
    have hf := hrg j
    refine w_m_bestRule_5 q.1 (by omega) ⟨fun _ => ?_, fun c => absurd c (by omega)⟩
    refine nb_W.imp (sp_m_layRuleQ q hr hc hp hS hk) ?_
    rintro r' N' ⟨rfl, q2, e9, e13, e26⟩
    refine ⟨rfl, q2.1, fun c => nb_Wp (sp_m_sumOfQ q2 hr hp (hE j) e9 e13 e26 (by omega)) ?_, fun c => nb_Wp (sp_m_sumOfQ q2 hr hp (hE j) e9 e13 e26 (by omega)) ?_⟩
    · have e : pu_brf M turn j = -pu_sum (M.1 606) (pu_pea M) (pu_evb M j 0) (M.1 606 5) (M.1 606 2) 0 := if_pos c
      refine ⟨_, rfl, q2.1, ?_⟩
      rw [← e]
      refine ⟨by omega, by omega, fun d => ?_, fun d => ?_⟩
      · have g := ih (j + 1) (by omega) N' (0, pu_brf M turn j) q2
        rw [pu_bs_lt d] at g
        exact g
      · have g := ih (j + 1) (by omega) N' (0, pu_brf M turn j) q2
        rw [pu_bs_ge d] at g
        exact g
    · have e : pu_brf M turn j = pu_sum (M.1 606) (pu_pea M) (pu_evb M j 0) (M.1 606 5) (M.1 606 2) 4 := if_neg c
      refine ⟨_, rfl, q2.1, ?_⟩
      rw [← e]
      refine ⟨fun d => ?_, fun d => ?_⟩
      · have g := ih (j + 1) (by omega) N' (0, pu_brf M turn j) q2
        rw [pu_bs_lt d] at g
        exact g
      · have g := ih (j + 1) (by omega) N' (0, pu_brf M turn j) q2
        rw [pu_bs_ge d] at g
        exact g
theorem pa_bestRule (turn : Int) : pu_pair 35 [(19, 2), (0, turn), (98, 0), (98, 0), (98, 0), (98, 0)] 163 [(20, 603), (0, turn), (98, 0), (98, 0), (98, 0), (98, 0)] := by
  apply pu_pair_q
  intro M k hI hk0 hk1
  obtain ⟨Ho, hHo, hx2, hx3, hh, hSn, hT, -, h7, hL⟩ := pu_I_at hI
  obtain ⟨k1, k2, k3, k4, k5, k6, k7, k8⟩ := pu_sta_ok hI
  have hr := hT.1
  have n5 := hr.2.2.2.2.2.2.1
  have n2 := hr.2.2.2.1
  have h14 := pu_house hI
  have o := hh.1
  by_cases c : M.1 606 5 = 0
  · refine ⟨-1, 1, fun h => absurd h (by decide), ?_, fun M1 hq => ?_⟩
    · refine w_c_bestRule_0 hL hHo hx2 ?_
      rw [o.2.2.2.2.1]
      exact ⟨by omega, by omega, fun z => absurd z (by omega), fun _ hL' => ⟨rfl, pu_CQ_no hL'⟩⟩
    · obtain ⟨b3, b6, b8, b9, b12, b13, h7', -⟩ := pu_CQ_ref hI hq
      refine w_m_bestRule_0 hq.1 ?_
      rw [b3]
      exact ⟨by omega, by omega, fun _ hL' => ⟨rfl, pu_MQ_no h7' hL'⟩, fun z => absurd z (by omega)⟩
  · refine ⟨(pu_bs (pu_brf M turn) 0 1000000 5).1, 0, fun h => absurd h (by decide), ?_, fun M1 hq => ?_⟩
    · refine w_c_bestRule_0 hL hHo hx2 ?_
      rw [o.2.2.2.2.1]
      exact ⟨by omega, by omega, fun _ => sp_c_bestRule_l hI 5 0 rfl _ _ (pu_CQ_g hL), fun z => absurd z (by omega)⟩
    · obtain ⟨b3, b6, b8, b9, b12, b13, h7', c1, c2, c3⟩ := pu_CQ_ref hI hq
      have hE : ∀ x : Int, pu_Rw (pu_evb M1 x 0) := fun x => by
        rw [pu_evb_CQ hq]
        exact pu_evb_ok hI
      have eb : pu_brf M1 turn = pu_brf M turn := by
        funext n
        unfold pu_brf
        rw [pu_evb_CQ hq, c2, b6]
      have hrg : ∀ j : Nat, -100000 ≤ pu_brf M1 turn j ∧ pu_brf M1 turn j ≤ 100000 := fun j => by
        rw [eb]
        exact pu_brf_rg hI
      rw [← b6] at hr n2
      rw [← c1] at k5
      rw [← c2] at k6
      rw [← b8] at k3 k4
      refine w_m_bestRule_0 hq.1 ?_
      rw [← b3] at h14
      refine ⟨by omega, by omega, fun z => absurd z (by omega), fun _ => nb_W.imp (sp_m_bestRule_l hr k5 k6 k3 k4 hE hrg 5 0 rfl _ _ (pu_MM_g hq.1)) ?_⟩
      rintro r' N' ⟨rfl, q⟩
      refine ⟨?_, q.mq h7'⟩
      rw [eb, (pu_bs_eq (f := pu_brf M turn) (g := pu_brf M turn) (a := 0) 5 (fun j _ => Or.inl ⟨rfl, by have := pu_brf_rg (turn := turn) (n := j) hI; omega⟩)).1]
/-- letting someone go first -/
def pu_evl (M : nb_M) (p q : Int) : Int → Int := pu_eve (M.1 606) (pu_cra M) (pu_pea M) (M.1 606 4) (M.1 606 2) (nb_ud (pu_sta M) (12 + 8 * p + 3) (M.1 608 (12 + 8 * q + 3) + 1))
theorem pu_man_at {M : nb_M} {k p : Int} (h : pu_I M k) (hp : 0 ≤ p ∧ p < M.1 606 5) : (M.1 (88 + p) 8 = M.1 608 (12 + 8 * p) ∧ M.1 (88 + p) 3 = M.1 608 (12 + 8 * p + 1) ∧ M.1 (88 + p) 5 = M.1 608 (12 + 8 * p + 2) ∧ M.1 (88 + p) 7 = M.1 608 (12 + 8 * p + 3) ∧ M.1 (88 + p) 6 = pu_she (M.1 606 (41 + 7 * p + 6))) ∧ (∀ i, 0 ≤ i → i < 108 → pu_sta M i = M.1 608 i) ∧ M.1 608 (12 + 8 * p + 3) ≤ 1000 + k := by
  obtain ⟨Ho, hHo, hx2, hx3, hh, hSn, hT, h14, h7, hL⟩ := pu_I_at h
  have n5 := hT.1.2.2.2.2.2.2.1
  have g := hSn.1.2.2.2.2.1 p hp.1 hp.2
  rw [show (84 : Int) + 4 + p = 88 + p by omega] at g
  refine ⟨⟨g.2.2.2.2.2.2.2.1, g.2.2.1, g.2.2.2.2.1, g.2.2.2.2.2.2.1, ?_⟩, fun i a b => pu_cpy_in i a b, hSn.2.2.2.2.2.2.2 p hp.1 (by omega)⟩
  rw [g.2.2.2.2.2.1]
  exact congrArg (fun z => pu_she (M.1 606 z)) (by omega)
theorem pa_letCosts (p q : Int) : pu_pair 47 [(19, 2), (0, p), (0, q), (98, 0), (98, 0)] 176 [(20, 603), (0, p), (0, q), (98, 0), (98, 0), (98, 0)] := by
  apply pu_pair_q
  intro M k hI hk0 hk1
  obtain ⟨Ho, hHo, hx2, hx3, hh, hSn, hT, -, h7, hL⟩ := pu_I_at hI
  obtain ⟨k1, k2, k3, k4, k5, k6, k7, k8⟩ := pu_sta_ok hI
  have hr := hT.1
  have n5 := hr.2.2.2.2.2.2.1
  have n4 := hr.2.2.2.2.2.1
  have n2 := hr.2.2.2.1
  have h14 := pu_house hI
  have o := hh.1
  by_cases hp : 0 ≤ p ∧ p < M.1 606 5 ∧ 0 ≤ q ∧ q < M.1 606 5 ∧ p ≠ q
  case neg =>
    refine ⟨-1000, 1, fun h => absurd h (by decide), ?_, fun M1 hq => ?_⟩
    · refine w_c_letCosts_0 hL hHo hx2 ?_
      rw [o.2.2.2.2.1]
      repeat' (first | assumption | with_reducible apply And.intro | intro _)
      all_goals (first | omega | (exfalso; omega) | rfl | exact pu_CQ_g hL | exact pu_CQ.tr (pu_CQ_g hL) | exact pu_CQ.tr (pu_CQ.tr (pu_CQ_g hL)))
    · obtain ⟨b3, b6, b8, b9, b12, b13, h7', -⟩ := pu_CQ_ref hI hq
      refine w_m_letCosts_q hq.1 ?_
      rw [b3, b6, b8]
      repeat' (first | assumption | with_reducible apply And.intro | intro _)
      all_goals (first | omega | (exfalso; omega) | rfl | exact pu_MQ_no h7' (by assumption))
  obtain ⟨⟨p8, p3, p5, p7, p6⟩, est, pk⟩ := pu_man_at hI (p := p) (by omega)
  obtain ⟨⟨q8, q3, q5, q7, q6⟩, -, qk⟩ := pu_man_at hI (p := q) (by omega)
  have hpw := k3.1 p (by omega) (by omega)
  have hqw := k3.1 q (by omega) (by omega)
  by_cases hw : M.1 608 (12 + 8 * p) = 1 ∧ M.1 608 (12 + 8 * q) = 1 ∧ M.1 608 (12 + 8 * p + 3) ≤ M.1 608 (12 + 8 * q + 3)
  case neg =>
    refine ⟨-1000, 5, fun h => absurd h (by decide), ?_, fun M1 hq => ?_⟩
    · refine w_c_letCosts_0 hL hHo hx2 ?_
      rw [o.2.2.2.2.1, p8, q8, p7, q7]
      repeat' (first | assumption | with_reducible apply And.intro | intro _)
      all_goals (first | omega | (exfalso; omega) | rfl | exact pu_CQ_g hL | exact pu_CQ.tr (pu_CQ_g hL) | exact pu_CQ.tr (pu_CQ.tr (pu_CQ_g hL)))
    · obtain ⟨b3, b6, b8, b9, b12, b13, h7', -⟩ := pu_CQ_ref hI hq
      refine w_m_letCosts_q hq.1 ?_
      rw [b3, b6, b8]
      repeat' (first | assumption | with_reducible apply And.intro | intro _)
      all_goals (first | omega | (exfalso; omega) | rfl | exact pu_MQ_no h7' (by assumption))
  obtain ⟨w1, w2, w3⟩ := hw
  have hv : -100000 ≤ M.1 608 (12 + 8 * q + 3) + 1 ∧ M.1 608 (12 + 8 * q + 3) + 1 ≤ 100000 := by omega
  have l1 : pu_Rw (nb_ud (pu_sta M) (12 + 8 * p + 3) (M.1 608 (12 + 8 * q + 3) + 1)) := pu_Rw_man (by omega) (by omega) k1
  have l2 : pu_Rk (nb_ud (pu_sta M) (12 + 8 * p + 3) (M.1 608 (12 + 8 * q + 3) + 1)) := pu_Rk_man (by omega) (by omega) k2
  obtain ⟨F1, F2, F3⟩ := pu_eve_facts (pe := pu_pea M) (ns := M.1 606 4) (bell := M.1 606 2) hr k5 (by omega) (by omega) l1 l2
  obtain ⟨G1, G2, G3⟩ := pu_eve_facts (pe := pu_pea M) (ns := M.1 606 4) (bell := M.1 606 2) hr k5 (by omega) (by omega) k1 k2
  have hpc := k8 p (by omega) (by omega)
  have hrp := (k6 p (by omega) (by omega)).2.2.1
  have g5 : pu_ev M (12 + 8 * p) ≠ 5 := fun z => by
    have := (G2 p (by omega) (by omega)).1 z
    rw [est _ (by omega) (by omega)] at this
    omega
  have f5 : pu_evl M p q (12 + 8 * p) ≠ 5 := fun z => by
    have := (F2 p (by omega) (by omega)).1 z
    rw [nb_ud_other (by omega), est _ (by omega) (by omega)] at this
    omega
  change pu_Rw (pu_evl M p q) at F1
  change pu_Rw (pu_ev M) at G1
  change M.1 606 2 + 1 ≤ pu_evl M p q 0 at F3
  change M.1 606 2 + 1 ≤ pu_ev M 0 at G3
  have r1 := pu_wo_rg (bell := M.1 606 2) G1 k6 (by omega) (p := p) (by omega)
  have r2 := pu_wo_rg (bell := M.1 606 2) F1 k6 (by omega) (p := p) (by omega)
  refine ⟨pu_wo (pu_pea M) (pu_evl M p q) (M.1 606 2) p - pu_wo (pu_pea M) (pu_ev M) (M.1 606 2) p, 0, fun h => absurd h (by decide), ?_, fun M1 hq => ?_⟩
  · refine w_c_letCosts_0 hL hHo hx2 ?_
    rw [o.2.2.2.2.1, p8, q8, p7, q7]
    have hq0 : pu_CQ M (nb_wr (nb_wr (nb_wr M 2 15 0) 2 15 0) 2 15 0) 0 := ((pu_CQ_g hL).tr).tr
    repeat' (first | assumption | with_reducible apply And.intro | intro _)
    all_goals try (first | omega | (exfalso; omega))
    refine nb_W.imp (sp_c_evenQ hI hq0) ?_
    rintro r' M2 ⟨rfl, c2, ⟨d3, d8⟩, S2⟩
    refine ⟨rfl, c2.1, c2.x2 hx2, nb_Wp (sp_sc_waitOf c2.1 nb_sc106 n5.2 (by omega) S2.2.2.1 hrp S2.1 S2.2.1 d8 (by omega)) ⟨_, rfl, c2.1, c2.x2 hx2, ?_⟩⟩
    have hb2 := S2.2.2.2.2.1.1 p (by omega) (by omega)
    have ew := pu_wo_wc (bell := M.1 606 2) (G1.1 p (by omega) (by omega)).1 hb2 (fun z => by have := (hb2.1 z).1; omega) g5
    rw [← ew]
    refine nb_W.imp (sp_c_asNowQ hI c2) ?_
    rintro r' M3 ⟨rfl, c3, ⟨e3, e8, e7⟩, S3⟩
    have gq := S3.1.2.2.2.2.1 q (by omega) (by omega)
    rw [show (106 : Int) + 4 + q = 110 + q by omega] at gq
    have gv : M3.1 (110 + q) 7 = M.1 608 (12 + 8 * q + 3) := by
      rw [gq.2.2.2.2.2.2.1, est _ (by omega) (by omega)]
    rw [gv, e8]
    refine ⟨rfl, c3.1, c3.x2 hx2, by omega, by omega, by omega, by omega, ?_⟩
    refine nb_W.imp (sp_c_runQ (x := M.1 606 2) hI (c3.cell (by omega) (fun _ => nb_n110 (by omega))) ?_ ?_ k5 k6 (by omega) (pu_St_says S3 n5.2 (by omega) (by omega) hv) k7 (by omega)) ?_
    · rw [nb_wr_1, if_neg (by omega)]; exact e3
    · rw [nb_wr_1, if_neg (by omega), nb_ud_other (by omega)]; exact e7
    rintro r' M4 ⟨rfl, c4, t3, t8, S4, -⟩
    have hb4 := S4.2.2.2.2.1.1 p (by omega) (by omega)
    have ew4 := pu_wo_wc (bell := M.1 606 2) (F1.1 p (by omega) (by omega)).1 hb4 (fun z => by have := (hb4.1 z).1; change M.1 606 2 + 1 ≤ _ at F3; unfold pu_evl at F3; omega) f5
    refine ⟨rfl, c4.1, c4.x2 hx2, nb_Wp (sp_sc_waitOf (bell := M.1 606 2) c4.1 nb_sc106 n5.2 (by omega) S4.2.2.1 hrp S4.1 S4.2.1 ?_ (by omega)) ⟨_, rfl, c4.1, c4.x2 hx2, ?_⟩⟩
    · rw [t8, nb_wr_1, if_neg (by omega)]; exact e8
    rw [show pu_wc (pu_pea M) (pu_eve (M.1 606) (pu_cra M) (pu_pea M) (M.1 606 4) (M.1 606 2) (nb_ud (pu_sta M) (12 + 8 * p + 3) (M.1 608 (12 + 8 * q + 3) + 1))) (M.1 606 2) p = pu_wo (pu_pea M) (pu_evl M p q) (M.1 606 2) p from ew4.symm]
    exact ⟨by omega, by omega, fun _ => ⟨rfl, c4⟩⟩
  · obtain ⟨b3, b6, b8, b9, b12, b13, h7', c1, c2, c3⟩ := pu_CQ_ref hI hq
    have hf := pu_RF_of hI hq
    obtain ⟨f1, f2, f3, f4, f5'⟩ := hf
    have ev1 : pu_ev M1 = pu_ev M := by
      unfold pu_ev
      rw [b6, c1, c2, c3]
    have ev2 : pu_eve (M1.1 606) (pu_cra M1) (pu_pea M1) (M1.1 606 4) (M1.1 606 2) (pu_cpy (nb_ud (M1.1 608) (12 + 8 * p + 3) (M1.1 608 (12 + 8 * q + 3) + 1)) (M1.1 609) 0 0 108) = pu_evl M p q := by
      unfold pu_evl
      rw [pu_cpy_ud (by omega), show pu_cpy (M1.1 608) (M1.1 609) 0 0 108 = pu_sta M1 from rfl, b6, b8, c1, c2, c3]
    rw [← b8] at hv w1 w2 w3
    rw [← b6] at n2 n4 n5 hp r1 r2
    rw [← c2] at k6 r1 r2
    have hS' : pu_Rw (nb_ud (M1.1 608) (12 + 8 * p + 3) (M1.1 608 (12 + 8 * q + 3) + 1)) := pu_Rw_man (by omega) (by omega) f4
    have hk' : pu_Rk (nb_ud (M1.1 608) (12 + 8 * p + 3) (M1.1 608 (12 + 8 * q + 3) + 1)) := pu_Rk_man (by omega) (by omega) f5'
    refine w_m_letCosts_q hq.1 ?_
    rw [← b3, ← b6] at h14
    rw [← b6]
    repeat' (first | assumption | with_reducible apply And.intro | intro _)
    all_goals try (first | omega | (exfalso; omega))
    refine sp_m_tellQ (pu_MM_g hq.1) (pu_RF_of hI hq) (fun N2 q2 e9 e25 e26 e12 e13 => ?_)
    have hwo := sp_m_waitOf (p := p) (v2 := (98, 0)) q2.1 (by omega) (by rw [e9, ev1]; exact G1) (by rw [e13]; exact k6) (by rw [e26]; omega)
    rw [e9, e13, e26, ev1] at hwo
    refine nb_Wp hwo ⟨_, rfl, q2.1, ?_⟩
    rw [q2.2.2.1]
    refine ⟨by omega, by omega, by omega, by omega, by omega, by omega, by omega, by omega, by omega, by omega, by omega, by omega, by omega, by omega, by omega, by omega, by omega, by omega, ?_⟩
    refine nb_W.imp (sp_m_eveningQ (ns := M1.1 606 4) (bell := M1.1 606 2) (cr := pu_cra M1) (pe := pu_pea M1) q2.st f1 f2 f3 hS' hk' ?_ ?_ ?_ ?_ (by omega) (by omega)) ?_
    · rw [nb_wr_1, if_neg (by omega)]; exact e25
    · rw [nb_wr_1, if_neg (by omega)]; exact e26
    · rw [nb_wr_b (by decide)]; exact e12
    · rw [nb_wr_b (by decide)]; exact e13
    rintro r' N3 ⟨rfl, q3, e9', eo⟩
    have q4 := q3.st (i := 12 + 8 * p + 3) (v := M1.1 608 (12 + 8 * p + 3))
    rw [nb_ud_ud, nb_ud_id rfl] at q4
    have hwo2 := sp_m_waitOf (M := nb_wr N3 608 (12 + 8 * p + 3) (M1.1 608 (12 + 8 * p + 3))) (p := p) (v2 := (98, 0)) q4.1 (by omega) (by rw [nb_wr_b (by decide), e9', ev2]; exact F1) (by rw [nb_wr_b (by decide), eo 613 (by decide), nb_wr_b (by decide), e13]; exact k6) (by rw [nb_wr_1, if_neg (by omega), eo 603 (by decide), nb_wr_1, if_neg (by omega), e26]; omega)
    rw [nb_wr_b (a := 608) (b := 609) (by decide), nb_wr_b (a := 608) (b := 613) (by decide), nb_wr_b (a := 608) (b := 603) (by decide), e9', ev2, eo 613 (by decide), nb_wr_b (a := 608) (b := 613) (by decide), e13, eo 603 (by decide), nb_wr_b (a := 608) (b := 603) (by decide), e26] at hwo2
    refine ⟨rfl, q3.1, nb_Wp hwo2 ⟨_, rfl, q4.1, ?_⟩⟩
    refine ⟨by omega, by omega, fun _ => ⟨?_, q4.mq h7'⟩⟩
    rw [c2, b6]
/-! with a shelf beforehand -/
def pu_evf (M : nb_M) (p : Int) : Int → Int := pu_eve (M.1 606) (pu_cra M) (nb_ud (pu_pea M) (7 * p + 6) (pu_pea M (7 * p + 2) + 1)) (M.1 606 4) (M.1 606 2) (pu_sta M)
theorem pu_Rp_shelf {pe : Int → Int} {p v : Int} (hv : 0 ≤ v ∧ v ≤ 601) (h : pu_Rp pe) : pu_Rp (nb_ud pe (7 * p + 6) v) := by
  intro q a b
  have g := h q a b
  rw [nb_ud_other (j := 7 * q) (by omega), nb_ud_other (j := 7 * q + 1) (by omega), nb_ud_other (j := 7 * q + 2) (by omega), nb_ud_other (j := 7 * q + 3) (by omega), nb_ud_other (j := 7 * q + 4) (by omega), nb_ud_other (j := 7 * q + 5) (by omega)]
  by_cases e : q = p
  · subst e
    rw [nb_ud_same]
    omega
  · rw [nb_ud_other (by omega)]
    exact g
theorem pa_beforehand (p : Int) : pu_pair 37 [(19, 2), (0, p), (98, 0), (98, 0)] 166 [(20, 603), (0, p), (98, 0)] := by
  apply pu_pair_q
  intro M k hI hk0 hk1
  obtain ⟨Ho, hHo, hx2, hx3, hh, hSn, hT, -, h7, hL⟩ := pu_I_at hI
  obtain ⟨k1, k2, k3, k4, k5, k6, k7, k8⟩ := pu_sta_ok hI
  have hr := hT.1
  have n5 := hr.2.2.2.2.2.2.1
  have n4 := hr.2.2.2.2.2.1
  have n2 := hr.2.2.2.1
  have h14 := pu_house hI
  have o := hh.1
  by_cases hp : 0 ≤ p ∧ p < M.1 606 5
  case neg =>
    refine ⟨-1000, 1, fun h => absurd h (by decide), ?_, fun M1 hq => ?_⟩
    · refine w_c_beforehand_0 hL hHo hx2 ?_
      rw [o.2.2.2.2.1]
      repeat' (first | assumption | with_reducible apply And.intro | intro _)
      all_goals (first | omega | (exfalso; omega) | rfl | exact pu_CQ_g hL | exact pu_CQ.tr (pu_CQ_g hL) | exact pu_CQ.tr (pu_CQ.tr (pu_CQ_g hL)))
    · obtain ⟨b3, b6, b8, b9, b12, b13, h7', -⟩ := pu_CQ_ref hI hq
      refine w_m_beforehand_0 hq.1 ?_
      rw [b3, b6, b8]
      repeat' (first | assumption | with_reducible apply And.intro | intro _)
      all_goals (first | omega | (exfalso; omega) | rfl | exact pu_MQ_no h7' (by assumption))
  obtain ⟨⟨p8, p3, p5, p7, p6⟩, est, pk⟩ := pu_man_at hI (p := p) (by omega)
  have hsh := (hT.2.2.1 p (by omega) (by omega)).2.2.2.2.2.2
  unfold pu_pe0 at hsh
  rw [show (41 : Int) + (7 * p + 6) = 41 + 7 * p + 6 by omega] at hsh
  have hpe6 : pu_she (M.1 606 (41 + 7 * p + 6)) = -2 ↔ M.1 606 (41 + 7 * p + 6) ≤ 0 := by
    unfold pu_she
    split <;> omega
  by_cases hw : M.1 608 (12 + 8 * p) = 0 ∧ M.1 606 (41 + 7 * p + 6) ≤ 0
  case neg =>
    refine ⟨-1000, 5, fun h => absurd h (by decide), ?_, fun M1 hq => ?_⟩
    · refine w_c_beforehand_0 hL hHo hx2 ?_
      rw [o.2.2.2.2.1, p8, p6]
      repeat' (first | assumption | with_reducible apply And.intro | intro _)
      all_goals (first | omega | (exfalso; omega) | rfl | exact pu_CQ_g hL | exact pu_CQ.tr (pu_CQ_g hL) | exact pu_CQ.tr (pu_CQ.tr (pu_CQ_g hL)))
    · obtain ⟨b3, b6, b8, b9, b12, b13, h7', -⟩ := pu_CQ_ref hI hq
      refine w_m_beforehand_0 hq.1 ?_
      rw [b3, b6, b8]
      repeat' (first | assumption | with_reducible apply And.intro | intro _)
      all_goals (first | omega | (exfalso; omega) | rfl | exact pu_MQ_no h7' (by assumption))
  obtain ⟨w1, w2⟩ := hw
  have hrp := (k6 p (by omega) (by omega)).2.2.1
  have k6' : pu_Rp (nb_ud (pu_pea M) (7 * p + 6) (pu_pea M (7 * p + 2) + 1)) := pu_Rp_shelf (by omega) k6
  have F1 : pu_Rw (pu_evf M p) := (pu_eve_facts (ns := M.1 606 4) (bell := M.1 606 2) hr k5 (by omega) (by omega) k1 k2).1
  have G1 : pu_Rw (pu_ev M) := (pu_eve_facts (ns := M.1 606 4) (bell := M.1 606 2) hr k5 (by omega) (by omega) k1 k2).1
  have r1 := pu_sumv_rg (w := 3) hI G1 k6 (bell := M.1 606 2) (by omega)
  have r2 := pu_sumv_rg (w := 3) hI F1 k6' (bell := M.1 606 2) (by omega)
  refine ⟨pu_sum (M.1 606) (pu_pea M) (pu_ev M) (M.1 606 5) (M.1 606 2) 3 - pu_sum (M.1 606) (nb_ud (pu_pea M) (7 * p + 6) (pu_pea M (7 * p + 2) + 1)) (pu_evf M p) (M.1 606 5) (M.1 606 2) 3, 0, fun h => absurd h (by decide), ?_, fun M1 hq => ?_⟩
  · refine w_c_beforehand_0 hL hHo hx2 ?_
    rw [o.2.2.2.2.1, p8, p6]
    have hq0 : pu_CQ M (nb_wr (nb_wr (nb_wr M 2 15 0) 2 15 0) 2 15 0) 0 := ((pu_CQ_g hL).tr).tr
    repeat' (first | assumption | with_reducible apply And.intro | intro _)
    all_goals try (first | omega | (exfalso; omega))
    refine nb_W.imp (sp_c_evenQ hI hq0) ?_
    rintro r' M2 ⟨rfl, c2, ⟨d3, d8⟩, S2⟩
    refine ⟨rfl, c2.1, c2.x2 hx2, nb_Wp (sp_c_totalQ hI c2 d3 d8 (by omega) k6 S2 (by decide)) ⟨_, rfl, c2.1, c2.x2 hx2, ?_⟩⟩
    refine nb_W.imp (sp_c_asNowQ hI c2) ?_
    rintro r' M3 ⟨rfl, c3, ⟨e3, e8, e7⟩, S3⟩
    have gq := S3.1.2.2.2.2.1 p (by omega) (by omega)
    rw [show (106 : Int) + 4 + p = 110 + p by omega] at gq
    have gv : M3.1 (110 + p) 2 = pu_pea M (7 * p + 2) := gq.2.1
    rw [gv, e8]
    refine ⟨rfl, c3.1, c3.x2 hx2, by omega, ?_⟩
    refine nb_W.imp (sp_c_runQ (x := M.1 606 2) hI (c3.cell (by omega) (fun _ => nb_n110 (by omega))) ?_ ?_ k5 k6' (by omega) (pu_St_shelf S3 n5.2 (by omega) (by omega) (by omega)) (fun q a b => by rw [nb_ud_other (by omega)]; exact k7 q a b) (by omega)) ?_
    · rw [nb_wr_1, if_neg (by omega)]; exact e3
    · rw [nb_wr_1, if_neg (by omega)]; exact e7
    rintro r' M4 ⟨rfl, c4, t3, t8, S4, -⟩
    refine ⟨rfl, c4.1, c4.x2 hx2, nb_Wp (sp_c_totalQ (bell := M.1 606 2) hI c4 t3 ?_ (by omega) k6' S4 (by decide)) ⟨_, rfl, c4.1, c4.x2 hx2, ?_⟩⟩
    · rw [t8, nb_wr_1, if_neg (by omega)]; exact e8
    have e : pu_eve (M.1 606) (pu_cra M) (nb_ud (pu_pea M) (7 * p + 6) (pu_pea M (7 * p + 2) + 1)) (M.1 606 4) (M.1 606 2) (pu_sta M) = pu_evf M p := rfl
    rw [e]
    exact ⟨by omega, by omega, fun _ => ⟨rfl, c4⟩⟩
  · obtain ⟨b3, b6, b8, b9, b12, b13, h7', c1, c2, c3⟩ := pu_CQ_ref hI hq
    obtain ⟨f1, f2, f3, f4, f5'⟩ := pu_RF_of hI hq
    have ev1 : pu_ev M1 = pu_ev M := by
      unfold pu_ev
      rw [b6, c1, c2, c3]
    have ev2 : pu_eve (M1.1 606) (pu_cra M1) (nb_ud (pu_pea M1) (7 * p + 6) (pu_pea M1 (7 * p + 2) + 1)) (M1.1 606 4) (M1.1 606 2) (pu_cpy (M1.1 608) (M1.1 609) 0 0 108) = pu_evf M p := by
      unfold pu_evf
      rw [show pu_cpy (M1.1 608) (M1.1 609) 0 0 108 = pu_sta M1 from rfl, b6, c1, c2, c3]
    rw [← b8] at w1
    rw [← b6] at n2 n4 n5 hp r1 r2 w2
    rw [← c2] at k6 k6' hrp r1 r2
    refine w_m_beforehand_0 hq.1 ?_
    rw [← b3, ← b6] at h14
    rw [← b6]
    repeat' (first | assumption | with_reducible apply And.intro | intro _)
    all_goals try (first | omega | (exfalso; omega))
    refine sp_m_tellQ (pu_MM_g hq.1) (pu_RF_of hI hq) (fun N2 q2 e9 e25 e26 e12 e13 => ?_)
    refine nb_Wp (sp_m_sumOfQ q2 f1 f3 (by rw [ev1]; exact G1) e9 e13 e26 (by omega)) ⟨_, rfl, q2.1, ?_⟩
    rw [e13, ev1]
    refine ⟨by omega, by omega, by omega, by omega, by omega, by omega, by omega, by omega, by omega, by omega, by omega, by omega, ?_⟩
    refine nb_W.imp (sp_m_eveningQ (ns := M1.1 606 4) (bell := M1.1 606 2) (cr := pu_cra M1) (pe := nb_ud (pu_pea M1) (7 * p + 6) (pu_pea M1 (7 * p + 2) + 1)) (q2.folk (by omega)) f1 f2 k6' f4 f5' ?_ ?_ ?_ ?_ (by omega) (by omega)) ?_
    · rw [nb_wr_1, if_neg (by omega)]; exact e25
    · rw [nb_wr_1, if_neg (by omega)]; exact e26
    · rw [nb_wr_b (by decide)]; exact e12
    · rw [nb_wr_a, e13]
    rintro r' N3 ⟨rfl, q3, e9', eo⟩
    rw [ev2] at e9'
    refine ⟨rfl, q3.1, nb_Wp (sp_m_sumOfQ (bell := M1.1 606 2) q3 f1 k6' F1 e9' ?_ ?_ (by omega)) ⟨_, rfl, q3.1, ?_⟩⟩
    · rw [eo 613 (by decide), nb_wr_a, e13]
    · rw [eo 603 (by decide), nb_wr_b (by decide)]; exact e26
    refine ⟨by omega, by omega, fun _ => ⟨?_, q3.mq h7'⟩⟩
    rw [c2, b6]
