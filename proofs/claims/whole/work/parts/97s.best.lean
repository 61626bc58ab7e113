/-! CALLS: bestPlace, leastLook, bestManner; printed by wip/gen/req/p97s.py -/
theorem pu_bhv_bhv {pe : Int → Int} {p m x : Int} : pu_bhv (pu_bhv pe p m) p x = pu_bhv pe p x := by
  funext j
  unfold pu_bhv nb_ud
  (repeat' split) <;> rfl
theorem pu_bhv_at {pe : Int → Int} {p m : Int} : pu_bhv pe p m (7 * p) = m ∧ pu_bhv pe p m (7 * p + 1) = (if m = 1 ∨ m = 2 then 30 else 0) ∧ pu_bhv pe p m (7 * p + 2) = pe (7 * p + 2) := by
  unfold pu_bhv
  refine ⟨?_, ?_, ?_⟩
  · rw [nb_ud_other (by omega), nb_ud_same]
  · rw [nb_ud_same]
  · rw [nb_ud_other (by omega), nb_ud_other (by omega)]
theorem sp_m_beOfQ {M N : nb_M} {S C : Int → Int} {p m : Int} (h : pu_MM M N S C) (hp : 0 ≤ p ∧ p ≤ 9) : nb_W 169 0 [(20, 603), (0, p), (0, m)] [] N (fun r' N' => r' = [] ∧ pu_MM M N' S C ∧ N'.1 613 = pu_bhv (N.1 613) p m ∧ ∀ a, a ≠ 613 → N'.1 a = N.1 a) := by
  refine w_m_beOf_0 h.1 (by omega) ?_
  refine ⟨fun c _ => ⟨rfl, (h.folk (by omega)).folk (by omega), ?_, fun a ha => by rw [nb_wr_b ha, nb_wr_b ha]⟩, fun c => ⟨fun d _ => ⟨rfl, (h.folk (by omega)).folk (by omega), ?_, fun a ha => by rw [nb_wr_b ha, nb_wr_b ha]⟩, fun d _ => ⟨rfl, (h.folk (by omega)).folk (by omega), ?_, fun a ha => by rw [nb_wr_b ha, nb_wr_b ha]⟩⟩⟩
  · rw [nb_wr_a, nb_wr_a]
    unfold pu_bhv
    rw [if_pos (Or.inl c)]
  · rw [nb_wr_a, nb_wr_a]
    unfold pu_bhv
    rw [if_pos (Or.inr d)]
  · rw [nb_wr_a, nb_wr_a]
    unfold pu_bhv
    rw [if_neg (by omega)]
def pu_evP (M : nb_M) (p j : Int) : Int → Int := pu_eve (M.1 606) (pu_cra M) (pu_pea M) (M.1 606 4) (M.1 606 2) (nb_ud (pu_sta M) (12 + 8 * p + 1) j)
theorem pu_evP_Ib {M : nb_M} {k p : Int} {j : Nat} (h : pu_I M k) (hp : 0 ≤ p ∧ p < M.1 606 5) (hj : (j : Int) ≤ 19) : pu_Rw (pu_evP M p j) ∧ pu_Rp (pu_pea M) ∧ pu_hb (pu_pea M) (pu_evP M p j) (pu_evP M p j 0) p ∧ (-100000 ≤ (j : Int) ∧ (j : Int) ≤ 100000) := by
  obtain ⟨Ho, hHo, hx2, hx3, hh, hSn, hT, h14, h7, hL⟩ := pu_I_at h
  obtain ⟨k1, k2, k3, k4, k5, k6, k7, k8⟩ := pu_sta_ok h
  have hr := hT.1
  have n5 := hr.2.2.2.2.2.2.1
  have n4 := hr.2.2.2.2.2.1
  have n2 := hr.2.2.2.1
  have hrp := (k6 p (by omega) (by omega)).2.2.1
  obtain ⟨r3, M3, x3, rfl, c3, ⟨e3, e8, e7⟩, S3⟩ := sp_c_asNowQ h (pu_CQ_id hL)
  obtain ⟨r4, M4, x4, rfl, c4, t3, t8, S4, -⟩ := sp_c_runQ (x := M.1 606 2) (R := nb_ud (pu_sta M) (12 + 8 * p + 1) j) h (c3.cell (a := 110 + p) (i := 3) (v := j) (by omega) (fun _ => nb_n110 (by omega))) (by rw [nb_wr_1, if_neg (by omega)]; exact e3) (by rw [nb_wr_1, if_neg (by omega), nb_ud_other (by omega)]; exact e7) k5 k6 (by omega) (pu_St_place S3 n5.2 (by omega) hp (by omega)) k7 (by omega)
  exact ⟨S4.2.2.1, k6, S4.2.2.2.2.1.1 p hp.1 hp.2, by omega⟩
def pu_evP_f (M : nb_M) (p : Int) (j : Nat) : Int := pu_swc (pu_pea M) (pu_evP M p j) p
def pu_evP_g (M : nb_M) (p : Int) (j : Nat) : Int := pu_wih (pu_pea M) (pu_evP M p j) (M.1 606 2) p
theorem sp_c_bestPlace_l {M : nb_M} {k p : Int} (h : pu_I M k) (hp : 0 ≤ p ∧ p < M.1 606 5) : ∀ (n j : Nat), j + n = (M.1 606 1).toNat → ∀ (N : nb_M) (v5 : nb_V), pu_CQ M N 0 → nb_W 39 4 [(19, 2), (0, p), (0, (pu_bs (pu_evP_f M p) (-2) 1000000 j).1), (0, (pu_bs (pu_evP_f M p) (-2) 1000000 j).2), (0, (j : Int)), v5] [] N (fun r' N' => r' = [(0, (pu_bs (pu_evP_f M p) (-2) 1000000 (M.1 606 1).toNat).1)] ∧ pu_CQ M N' 0) := by
  obtain ⟨Ho, hHo, hx2, hx3, hh, hSn, hT, h14, h7, hL⟩ := pu_I_at h
  obtain ⟨k1, k2, k3, k4, k5, k6, k7, k8⟩ := pu_sta_ok h
  have hr := hT.1
  have n5 := hr.2.2.2.2.2.2.1
  have n4 := hr.2.2.2.2.2.1
  have n2 := hr.2.2.2.1
  have n1 := hr.2.2.1
  have hrp := (k6 p (by omega) (by omega)).2.2.1
  intro n
  induction n with
  | zero =>
    intro j hj N v5 q
    have o := (q.ho hHo hr hh).1
    refine w_c_bestPlace_4 q.1 hHo (q.x2 hx2) (by omega) (by omega) ?_
    rw [o.1]
    refine ⟨by omega, by omega, fun c => absurd c (by omega), fun _ _ => ⟨?_, q⟩⟩
    rw [show j = (M.1 606 1).toNat by omega]
  | succ n ih =>
    intro j hj N v5 q
    have o := (q.ho hHo hr hh).1
    refine w_c_bestPlace_4 q.1 hHo (q.x2 hx2) (by omega) (by omega) ?_
    rw [o.1]
    refine ⟨by omega, by omega, fun _ => ?_, fun c => absurd c (by omega)⟩
    refine nb_W.imp (sp_c_asNowQ h q) ?_
    rintro r' M3 ⟨rfl, c3, ⟨e3, e8, e7⟩, S3⟩
    refine ⟨rfl, c3.1, c3.x2 hx2, ?_⟩
    rw [e8]
    refine nb_W.imp (sp_c_runQ (x := M.1 606 2) (R := nb_ud (pu_sta M) (12 + 8 * p + 1) j) h (c3.cell (by omega) (fun _ => nb_n110 (by omega))) (by rw [nb_wr_1, if_neg (by omega)]; exact e3) (by rw [nb_wr_1, if_neg (by omega), nb_ud_other (by omega)]; exact e7) k5 k6 (by omega) (pu_St_place S3 n5.2 (by omega) hp (by omega)) k7 (by omega)) ?_
    rintro r' M4 ⟨rfl, c4, t3, t8, S4, -⟩
    have hsw : nb_R nb_P 267 0 [(15, 106), (0, p)] [] M4 = some ([(0, pu_evP_f M p j)], M4) := sp_sc_servedWait c4.1 nb_sc106 n5.2 hp S4.2.2.1 hrp S4.1 S4.2.1
    refine ⟨rfl, c4.1, c4.x2 hx2, nb_Wp hsw ⟨_, rfl, c4.1, c4.x2 hx2, fun d => nb_Wp hsw ⟨_, rfl, c4.1, c4.x2 hx2, ?_⟩, fun d => ?_⟩⟩
    · have g := ih (j + 1) (by omega) M4 (15, 106) c4
      rw [pu_bs_lt d] at g
      exact g
    · have g := ih (j + 1) (by omega) M4 (15, 106) c4
      rw [pu_bs_ge d] at g
      exact g
theorem sp_m_bestPlace_l {M : nb_M} {p : Int} (hf : pu_RF M) (hp : 0 ≤ p ∧ p ≤ 9) : ∀ (n j : Nat), j + n = (M.1 606 1).toNat → ∀ (N : nb_M) (v7 : nb_V) (x : Int), pu_MM M N (nb_ud (M.1 608) (12 + 8 * p + 1) x) (M.1 612) → N.1 603 25 = M.1 606 4 → N.1 603 26 = M.1 606 2 → N.1 612 = pu_cra M → N.1 613 = pu_pea M → nb_W 168 12 [(20, 603), (0, p), (0, 12 + 8 * p + 1), (0, M.1 608 (12 + 8 * p + 1)), (0, (pu_bs (pu_evP_g M p) (-2) 1000000 j).1), (0, (pu_bs (pu_evP_g M p) (-2) 1000000 j).2), (0, (j : Int)), v7] [] N (fun r' N' => r' = [(0, (pu_bs (pu_evP_g M p) (-2) 1000000 (M.1 606 1).toNat).1)] ∧ pu_MM M N' (M.1 608) (M.1 612)) := by
  obtain ⟨hr, hc, hP, hS, hk⟩ := hf
  have n5 := hr.2.2.2.2.2.2.1
  have n4 := hr.2.2.2.2.2.1
  have n2 := hr.2.2.2.1
  have n1 := hr.2.2.1
  have hrp := (hP p (by omega) (by omega)).2.2.1
  intro n
  induction n with
  | zero =>
    intro j hj N v7 x q e25 e26 e12 e13
    have q4 := q.st (i := 12 + 8 * p + 1) (v := M.1 608 (12 + 8 * p + 1))
    rw [nb_ud_ud, nb_ud_id rfl] at q4
    refine w_m_bestPlace_12 q.1 (by omega) (by omega) (by omega) ?_
    rw [q.r]
    refine ⟨by omega, by omega, fun c => absurd c (by omega), fun _ _ => ⟨?_, q4⟩⟩
    rw [show j = (M.1 606 1).toNat by omega]
  | succ n ih =>
    intro j hj N v7 x q e25 e26 e12 e13
    refine w_m_bestPlace_12 q.1 (by omega) (by omega) (by omega) ?_
    rw [q.r]
    refine ⟨by omega, by omega, fun _ => ?_, fun c => absurd c (by omega)⟩
    have q4 := q.st (i := 12 + 8 * p + 1) (v := j)
    rw [nb_ud_ud] at q4
    have ev : pu_eve (M.1 606) (pu_cra M) (pu_pea M) (M.1 606 4) (M.1 606 2) (pu_cpy (nb_ud (M.1 608) (12 + 8 * p + 1) j) (M.1 609) 0 0 108) = pu_evP M p j := by
      unfold pu_evP
      rw [pu_cpy_ud (by omega)]
      rfl
    refine nb_W.imp (sp_m_waitIfHasQ (ns := M.1 606 4) (bell := M.1 606 2) (cr := pu_cra M) (pe := pu_pea M) q4 hr hc hP (pu_Rw_man (by omega) (by omega) hS) (pu_Rk_man (by omega) (by omega) hk) ?_ ?_ ?_ ?_ (by omega) (by omega) hp) ?_
    · rw [nb_wr_b (by decide)]; exact e25
    · rw [nb_wr_b (by decide)]; exact e26
    · rw [nb_wr_b (by decide)]; exact e12
    · rw [nb_wr_b (by decide)]; exact e13
    rintro r' N3 ⟨rfl, q3, eo⟩
    rw [ev]
    have g := ih (j + 1) (by omega) N3 (0, pu_evP_g M p j) j q3 (by rw [eo 603 (by decide), nb_wr_b (by decide)]; exact e25) (by rw [eo 603 (by decide), nb_wr_b (by decide)]; exact e26) (by rw [eo 612 (by decide), nb_wr_b (by decide)]; exact e12) (by rw [eo 613 (by decide), nb_wr_b (by decide)]; exact e13)
    refine ⟨_, rfl, q3.1, fun d => ?_, fun d => ?_⟩
    · rw [pu_bs_lt (show pu_evP_g M p j < _ from d)] at g
      exact g
    · rw [pu_bs_ge (show _ ≤ pu_evP_g M p j from d)] at g
      exact g
theorem pu_evP_CQ {M M1 : nb_M} {k tr : Int} (h : pu_I M k) (hq : pu_CQ M M1 tr) (p j : Int) : pu_evP M1 p j = pu_evP M p j := by
  obtain ⟨b3, b6, b8, b9, b12, b13, h7', c1, c2, c3⟩ := pu_CQ_ref h hq
  unfold pu_evP
  rw [b6, c1, c2, c3]
theorem pa_bestPlace (p : Int) : pu_pair 39 [(19, 2), (0, p), (98, 0), (98, 0), (98, 0), (98, 0)] 168 [(20, 603), (0, p), (98, 0), (98, 0), (98, 0), (98, 0), (98, 0), (98, 0)] := by
  apply pu_pair_q
  intro M k hI hk0 hk1
  obtain ⟨Ho, hHo, hx2, hx3, hh, hSn, hT, -, h7, hL⟩ := pu_I_at hI
  obtain ⟨k1, k2, k3, k4, k5, k6, k7, k8⟩ := pu_sta_ok hI
  have hr := hT.1
  have n5 := hr.2.2.2.2.2.2.1
  have n4 := hr.2.2.2.2.2.1
  have n2 := hr.2.2.2.1
  have n1 := hr.2.2.1
  have h14 := pu_house hI
  have o := hh.1
  by_cases hp : 0 ≤ p ∧ p < M.1 606 5
  case neg =>
    refine ⟨-1, 1, fun h => absurd h (by decide), ?_, fun M1 hq => ?_⟩
    · refine w_c_bestPlace_0 hL hHo hx2 ?_
      rw [o.2.2.2.2.1]
      repeat' (first | assumption | with_reducible apply And.intro | intro _)
      all_goals (first | omega | (exfalso; omega) | rfl | exact pu_CQ_g hL | exact pu_CQ.tr (pu_CQ_g hL) | exact pu_CQ.tr (pu_CQ.tr (pu_CQ_g hL)))
    · obtain ⟨b3, b6, b8, b9, b12, b13, h7', -⟩ := pu_CQ_ref hI hq
      refine w_m_bestPlace_0 hq.1 ?_
      rw [b3, b6, b8]
      repeat' (first | assumption | with_reducible apply And.intro | intro _)
      all_goals (first | omega | (exfalso; omega) | rfl | exact pu_MQ_no h7' (by assumption))
  obtain ⟨⟨p8, p3, p5, p7, p6⟩, est, pk⟩ := pu_man_at hI (p := p) (by omega)
  by_cases hw : M.1 608 (12 + 8 * p) = 0
  case neg =>
    refine ⟨-1, 5, fun h => absurd h (by decide), ?_, fun M1 hq => ?_⟩
    · refine w_c_bestPlace_0 hL hHo hx2 ?_
      rw [o.2.2.2.2.1, p8]
      repeat' (first | assumption | with_reducible apply And.intro | intro _)
      all_goals (first | omega | (exfalso; omega) | rfl | exact pu_CQ_g hL | exact pu_CQ.tr (pu_CQ_g hL) | exact pu_CQ.tr (pu_CQ.tr (pu_CQ_g hL)))
    · obtain ⟨b3, b6, b8, b9, b12, b13, h7', -⟩ := pu_CQ_ref hI hq
      refine w_m_bestPlace_0 hq.1 ?_
      rw [b3, b6, b8]
      repeat' (first | assumption | with_reducible apply And.intro | intro _)
      all_goals (first | omega | (exfalso; omega) | rfl | exact pu_MQ_no h7' (by assumption))
  have hbs := pu_bs_eq (f := pu_evP_f M p) (g := pu_evP_g M p) (a := -2) (M.1 606 1).toNat (fun j hj => by
    obtain ⟨a, b, c, d⟩ := pu_evP_Ib (j := j) hI hp (by omega)
    exact pu_sw_wih a b (by omega) (by omega) c)
  refine ⟨(pu_bs (pu_evP_f M p) (-2) 1000000 (M.1 606 1).toNat).1, 0, fun h => absurd h (by decide), ?_, fun M1 hq => ?_⟩
  · refine w_c_bestPlace_0 hL hHo hx2 ?_
    rw [o.2.2.2.2.1, p8]
    obtain ⟨v, hv⟩ : ∃ v, True → (pu_bs (pu_evP_f M p) (-2) 1000000 (M.1 606 1).toNat).1 = v := ⟨_, fun _ => rfl⟩
    rw [hv trivial]
    clear hbs
    repeat' (first | assumption | with_reducible apply And.intro | intro _)
    all_goals try (first | omega | (exfalso; omega))
    rw [← hv trivial]
    exact sp_c_bestPlace_l hI hp _ 0 (Nat.zero_add _) _ _ ((pu_CQ_g hL).tr)
  · obtain ⟨b3, b6, b8, b9, b12, b13, h7', c1, c2, c3⟩ := pu_CQ_ref hI hq
    have hf := pu_RF_of hI hq
    have eg : pu_evP_g M1 p = pu_evP_g M p := by
      funext j
      unfold pu_evP_g
      rw [pu_evP_CQ hI hq, c2, b6]
    rw [hbs.1, ← eg]
    rw [← b8] at hw
    rw [← b6] at n2 n4 n5 n1 hp
    refine w_m_bestPlace_0 hq.1 ?_
    rw [← b3, ← b6] at h14
    try rw [← b6]
    obtain ⟨v, hv⟩ : ∃ v, True → (pu_bs (pu_evP_g M1 p) (-2) 1000000 (M1.1 606 1).toNat).1 = v := ⟨_, fun _ => rfl⟩
    rw [hv trivial]
    clear hbs
    repeat' (first | assumption | with_reducible apply And.intro | intro _)
    all_goals try (first | omega | (exfalso; omega))
    rw [← hv trivial]
    refine nb_W.imp (sp_m_asToldQ (pu_MM_g hq.1)) ?_
    rintro r' N1 ⟨rfl, q1, e25, -, e12, e13, -⟩
    have q1' : pu_MM M1 (nb_wr N1 603 26 (N1.1 606 2)) (nb_ud (M1.1 608) (12 + 8 * p + 1) (M1.1 608 (12 + 8 * p + 1))) (M1.1 612) := by
      rw [nb_ud_id rfl]
      exact q1.fld (by omega)
    refine ⟨rfl, q1.1, by omega, by omega, by omega, by omega, by omega, by omega, by omega, by omega, ?_⟩
    rw [q1.2.2.1]
    refine nb_W.imp (sp_m_bestPlace_l hf (by omega) _ 0 (Nat.zero_add _) _ _ _ q1' (by rw [nb_wr_1, if_neg (by omega)]; exact e25) (by rw [nb_wr_1, if_pos ⟨rfl, rfl⟩, q1.r]) (by rw [nb_wr_b (by decide)]; exact e12) (by rw [nb_wr_b (by decide)]; exact e13)) ?_
    rintro r' N' ⟨rfl, q⟩
    exact ⟨rfl, q.mq h7'⟩
def pu_evL (M : nb_M) (p j : Int) : Int → Int := pu_eve (M.1 606) (pu_cra M) (pu_pea M) (M.1 606 4) (M.1 606 2) (nb_ud (pu_sta M) (12 + 8 * p + 2) j)
theorem pu_evL_Ib {M : nb_M} {k p : Int} {j : Nat} (h : pu_I M k) (hp : 0 ≤ p ∧ p < M.1 606 5) (hj : (j : Int) ≤ 99) : pu_Rw (pu_evL M p j) ∧ pu_Rp (pu_pea M) ∧ pu_hb (pu_pea M) (pu_evL M p j) (pu_evL M p j 0) p ∧ (-100000 ≤ (j : Int) ∧ (j : Int) ≤ 100000) := by
  obtain ⟨Ho, hHo, hx2, hx3, hh, hSn, hT, h14, h7, hL⟩ := pu_I_at h
  obtain ⟨k1, k2, k3, k4, k5, k6, k7, k8⟩ := pu_sta_ok h
  have hr := hT.1
  have n5 := hr.2.2.2.2.2.2.1
  have n4 := hr.2.2.2.2.2.1
  have n2 := hr.2.2.2.1
  have hrp := (k6 p (by omega) (by omega)).2.2.1
  obtain ⟨r3, M3, x3, rfl, c3, ⟨e3, e8, e7⟩, S3⟩ := sp_c_asNowQ h (pu_CQ_id hL)
  obtain ⟨r4, M4, x4, rfl, c4, t3, t8, S4, -⟩ := sp_c_runQ (x := M.1 606 2) (R := nb_ud (pu_sta M) (12 + 8 * p + 2) j) h (c3.cell (a := 110 + p) (i := 5) (v := j) (by omega) (fun _ => nb_n110 (by omega))) (by rw [nb_wr_1, if_neg (by omega)]; exact e3) (by rw [nb_wr_1, if_neg (by omega), nb_ud_other (by omega)]; exact e7) k5 k6 (by omega) (pu_St_look S3 n5.2 (by omega) hp (by omega)) k7 (by omega)
  exact ⟨S4.2.2.1, k6, S4.2.2.2.2.1.1 p hp.1 hp.2, by omega⟩
def pu_evL_f (M : nb_M) (p : Int) (j : Nat) : Int := pu_swc (pu_pea M) (pu_evL M p j) p
def pu_evL_g (M : nb_M) (p : Int) (j : Nat) : Int := pu_wih (pu_pea M) (pu_evL M p j) (M.1 606 2) p
theorem sp_c_leastLook_l {M : nb_M} {k p : Int} (h : pu_I M k) (hp : 0 ≤ p ∧ p < M.1 606 5) : ∀ (n j : Nat), j + n = 100 → ∀ (N : nb_M) (v5 : nb_V), pu_CQ M N 0 → nb_W 46 4 [(19, 2), (0, p), (0, (pu_bs (pu_evL_f M p) (-2) 1000000 j).1), (0, (pu_bs (pu_evL_f M p) (-2) 1000000 j).2), (0, (j : Int)), v5] [] N (fun r' N' => r' = [(0, (pu_bs (pu_evL_f M p) (-2) 1000000 100).1)] ∧ pu_CQ M N' 0) := by
  obtain ⟨Ho, hHo, hx2, hx3, hh, hSn, hT, h14, h7, hL⟩ := pu_I_at h
  obtain ⟨k1, k2, k3, k4, k5, k6, k7, k8⟩ := pu_sta_ok h
  have hr := hT.1
  have n5 := hr.2.2.2.2.2.2.1
  have n4 := hr.2.2.2.2.2.1
  have n2 := hr.2.2.2.1
  have n1 := hr.2.2.1
  have hrp := (k6 p (by omega) (by omega)).2.2.1
  intro n
  induction n with
  | zero =>
    intro j hj N v5 q
    have o := (q.ho hHo hr hh).1
    refine w_c_leastLook_4 q.1 hHo (q.x2 hx2) (by omega) (by omega) ?_
    refine ⟨fun _ _ => ⟨?_, q⟩, fun c => absurd c (by omega)⟩
    rw [show j = 100 by omega]
  | succ n ih =>
    intro j hj N v5 q
    have o := (q.ho hHo hr hh).1
    refine w_c_leastLook_4 q.1 hHo (q.x2 hx2) (by omega) (by omega) ?_
    refine ⟨fun c => absurd c (by omega), fun _ => ?_⟩
    refine nb_W.imp (sp_c_asNowQ h q) ?_
    rintro r' M3 ⟨rfl, c3, ⟨e3, e8, e7⟩, S3⟩
    refine ⟨rfl, c3.1, c3.x2 hx2, ?_⟩
    rw [e8]
    refine nb_W.imp (sp_c_runQ (x := M.1 606 2) (R := nb_ud (pu_sta M) (12 + 8 * p + 2) j) h (c3.cell (by omega) (fun _ => nb_n110 (by omega))) (by rw [nb_wr_1, if_neg (by omega)]; exact e3) (by rw [nb_wr_1, if_neg (by omega), nb_ud_other (by omega)]; exact e7) k5 k6 (by omega) (pu_St_look S3 n5.2 (by omega) hp (by omega)) k7 (by omega)) ?_
    rintro r' M4 ⟨rfl, c4, t3, t8, S4, -⟩
    have hsw : nb_R nb_P 267 0 [(15, 106), (0, p)] [] M4 = some ([(0, pu_evL_f M p j)], M4) := sp_sc_servedWait c4.1 nb_sc106 n5.2 hp S4.2.2.1 hrp S4.1 S4.2.1
    refine ⟨rfl, c4.1, c4.x2 hx2, nb_Wp hsw ⟨_, rfl, c4.1, c4.x2 hx2, fun d => nb_Wp hsw ⟨_, rfl, c4.1, c4.x2 hx2, ?_⟩, fun d => ?_⟩⟩
    · have g := ih (j + 1) (by omega) M4 (15, 106) c4
      rw [pu_bs_lt d] at g
      exact g
    · have g := ih (j + 1) (by omega) M4 (15, 106) c4
      rw [pu_bs_ge d] at g
      exact g
theorem sp_m_leastLook_l {M : nb_M} {p : Int} (hf : pu_RF M) (hp : 0 ≤ p ∧ p ≤ 9) : ∀ (n j : Nat), j + n = 100 → ∀ (N : nb_M) (v7 : nb_V) (x : Int), pu_MM M N (nb_ud (M.1 608) (12 + 8 * p + 2) x) (M.1 612) → N.1 603 25 = M.1 606 4 → N.1 603 26 = M.1 606 2 → N.1 612 = pu_cra M → N.1 613 = pu_pea M → nb_W 171 12 [(20, 603), (0, p), (0, 12 + 8 * p + 2), (0, M.1 608 (12 + 8 * p + 2)), (0, (pu_bs (pu_evL_g M p) (-2) 1000000 j).1), (0, (pu_bs (pu_evL_g M p) (-2) 1000000 j).2), (0, (j : Int)), v7] [] N (fun r' N' => r' = [(0, (pu_bs (pu_evL_g M p) (-2) 1000000 100).1)] ∧ pu_MM M N' (M.1 608) (M.1 612)) := by
  obtain ⟨hr, hc, hP, hS, hk⟩ := hf
  have n5 := hr.2.2.2.2.2.2.1
  have n4 := hr.2.2.2.2.2.1
  have n2 := hr.2.2.2.1
  have n1 := hr.2.2.1
  have hrp := (hP p (by omega) (by omega)).2.2.1
  intro n
  induction n with
  | zero =>
    intro j hj N v7 x q e25 e26 e12 e13
    have q4 := q.st (i := 12 + 8 * p + 2) (v := M.1 608 (12 + 8 * p + 2))
    rw [nb_ud_ud, nb_ud_id rfl] at q4
    refine w_m_leastLook_12 q.1 (by omega) (by omega) (by omega) ?_
    refine ⟨fun c => absurd c (by omega), fun _ _ => ⟨?_, q4⟩⟩
    rw [show j = 100 by omega]
  | succ n ih =>
    intro j hj N v7 x q e25 e26 e12 e13
    refine w_m_leastLook_12 q.1 (by omega) (by omega) (by omega) ?_
    refine ⟨fun _ => ?_, fun c => absurd c (by omega)⟩
    have q4 := q.st (i := 12 + 8 * p + 2) (v := j)
    rw [nb_ud_ud] at q4
    have ev : pu_eve (M.1 606) (pu_cra M) (pu_pea M) (M.1 606 4) (M.1 606 2) (pu_cpy (nb_ud (M.1 608) (12 + 8 * p + 2) j) (M.1 609) 0 0 108) = pu_evL M p j := by
      unfold pu_evL
      rw [pu_cpy_ud (by omega)]
      rfl
    refine nb_W.imp (sp_m_waitIfHasQ (ns := M.1 606 4) (bell := M.1 606 2) (cr := pu_cra M) (pe := pu_pea M) q4 hr hc hP (pu_Rw_man (by omega) (by omega) hS) (pu_Rk_man (by omega) (by omega) hk) ?_ ?_ ?_ ?_ (by omega) (by omega) hp) ?_
    · rw [nb_wr_b (by decide)]; exact e25
    · rw [nb_wr_b (by decide)]; exact e26
    · rw [nb_wr_b (by decide)]; exact e12
    · rw [nb_wr_b (by decide)]; exact e13
    rintro r' N3 ⟨rfl, q3, eo⟩
    rw [ev]
    have g := ih (j + 1) (by omega) N3 (0, pu_evL_g M p j) j q3 (by rw [eo 603 (by decide), nb_wr_b (by decide)]; exact e25) (by rw [eo 603 (by decide), nb_wr_b (by decide)]; exact e26) (by rw [eo 612 (by decide), nb_wr_b (by decide)]; exact e12) (by rw [eo 613 (by decide), nb_wr_b (by decide)]; exact e13)
    refine ⟨_, rfl, q3.1, fun d => ?_, fun d => ?_⟩
    · rw [pu_bs_lt (show pu_evL_g M p j < _ from d)] at g
      exact g
    · rw [pu_bs_ge (show _ ≤ pu_evL_g M p j from d)] at g
      exact g
theorem pu_evL_CQ {M M1 : nb_M} {k tr : Int} (h : pu_I M k) (hq : pu_CQ M M1 tr) (p j : Int) : pu_evL M1 p j = pu_evL M p j := by
  obtain ⟨b3, b6, b8, b9, b12, b13, h7', c1, c2, c3⟩ := pu_CQ_ref h hq
  unfold pu_evL
  rw [b6, c1, c2, c3]
theorem pa_leastLook (p : Int) : pu_pair 46 [(19, 2), (0, p), (98, 0), (98, 0), (98, 0), (98, 0)] 171 [(20, 603), (0, p), (98, 0), (98, 0), (98, 0), (98, 0), (98, 0), (98, 0)] := by
  apply pu_pair_q
  intro M k hI hk0 hk1
  obtain ⟨Ho, hHo, hx2, hx3, hh, hSn, hT, -, h7, hL⟩ := pu_I_at hI
  obtain ⟨k1, k2, k3, k4, k5, k6, k7, k8⟩ := pu_sta_ok hI
  have hr := hT.1
  have n5 := hr.2.2.2.2.2.2.1
  have n4 := hr.2.2.2.2.2.1
  have n2 := hr.2.2.2.1
  have n1 := hr.2.2.1
  have h14 := pu_house hI
  have o := hh.1
  by_cases hp : 0 ≤ p ∧ p < M.1 606 5
  case neg =>
    refine ⟨-1, 1, fun h => absurd h (by decide), ?_, fun M1 hq => ?_⟩
    · refine w_c_leastLook_0 hL hHo hx2 ?_
      rw [o.2.2.2.2.1]
      repeat' (first | assumption | with_reducible apply And.intro | intro _)
      all_goals (first | omega | (exfalso; omega) | rfl | exact pu_CQ_g hL | exact pu_CQ.tr (pu_CQ_g hL) | exact pu_CQ.tr (pu_CQ.tr (pu_CQ_g hL)))
    · obtain ⟨b3, b6, b8, b9, b12, b13, h7', -⟩ := pu_CQ_ref hI hq
      refine w_m_leastLook_0 hq.1 ?_
      rw [b3, b6, b8]
      repeat' (first | assumption | with_reducible apply And.intro | intro _)
      all_goals (first | omega | (exfalso; omega) | rfl | exact pu_MQ_no h7' (by assumption))
  obtain ⟨⟨p8, p3, p5, p7, p6⟩, est, pk⟩ := pu_man_at hI (p := p) (by omega)
  by_cases hw : M.1 608 (12 + 8 * p) = 0
  case neg =>
    refine ⟨-1, 5, fun h => absurd h (by decide), ?_, fun M1 hq => ?_⟩
    · refine w_c_leastLook_0 hL hHo hx2 ?_
      rw [o.2.2.2.2.1, p8]
      repeat' (first | assumption | with_reducible apply And.intro | intro _)
      all_goals (first | omega | (exfalso; omega) | rfl | exact pu_CQ_g hL | exact pu_CQ.tr (pu_CQ_g hL) | exact pu_CQ.tr (pu_CQ.tr (pu_CQ_g hL)))
    · obtain ⟨b3, b6, b8, b9, b12, b13, h7', -⟩ := pu_CQ_ref hI hq
      refine w_m_leastLook_0 hq.1 ?_
      rw [b3, b6, b8]
      repeat' (first | assumption | with_reducible apply And.intro | intro _)
      all_goals (first | omega | (exfalso; omega) | rfl | exact pu_MQ_no h7' (by assumption))
  have hbs := pu_bs_eq (f := pu_evL_f M p) (g := pu_evL_g M p) (a := -2) 100 (fun j hj => by
    obtain ⟨a, b, c, d⟩ := pu_evL_Ib (j := j) hI hp (by omega)
    exact pu_sw_wih a b (by omega) (by omega) c)
  refine ⟨(pu_bs (pu_evL_f M p) (-2) 1000000 100).1, 0, fun h => absurd h (by decide), ?_, fun M1 hq => ?_⟩
  · refine w_c_leastLook_0 hL hHo hx2 ?_
    rw [o.2.2.2.2.1, p8]
    obtain ⟨v, hv⟩ : ∃ v, True → (pu_bs (pu_evL_f M p) (-2) 1000000 100).1 = v := ⟨_, fun _ => rfl⟩
    rw [hv trivial]
    clear hbs
    repeat' (first | assumption | with_reducible apply And.intro | intro _)
    all_goals try (first | omega | (exfalso; omega))
    rw [← hv trivial]
    exact sp_c_leastLook_l hI hp _ 0 (Nat.zero_add _) _ _ ((pu_CQ_g hL).tr)
  · obtain ⟨b3, b6, b8, b9, b12, b13, h7', c1, c2, c3⟩ := pu_CQ_ref hI hq
    have hf := pu_RF_of hI hq
    have eg : pu_evL_g M1 p = pu_evL_g M p := by
      funext j
      unfold pu_evL_g
      rw [pu_evL_CQ hI hq, c2, b6]
    rw [hbs.1, ← eg]
    rw [← b8] at hw
    rw [← b6] at n2 n4 n5 n1 hp
    refine w_m_leastLook_0 hq.1 ?_
    rw [← b3, ← b6] at h14
    try rw [← b6]
    obtain ⟨v, hv⟩ : ∃ v, True → (pu_bs (pu_evL_g M1 p) (-2) 1000000 100).1 = v := ⟨_, fun _ => rfl⟩
    rw [hv trivial]
    clear hbs
    repeat' (first | assumption | with_reducible apply And.intro | intro _)
    all_goals try (first | omega | (exfalso; omega))
    rw [← hv trivial]
    refine nb_W.imp (sp_m_asToldQ (pu_MM_g hq.1)) ?_
    rintro r' N1 ⟨rfl, q1, e25, -, e12, e13, -⟩
    have q1' : pu_MM M1 (nb_wr N1 603 26 (N1.1 606 2)) (nb_ud (M1.1 608) (12 + 8 * p + 2) (M1.1 608 (12 + 8 * p + 2))) (M1.1 612) := by
      rw [nb_ud_id rfl]
      exact q1.fld (by omega)
    refine ⟨rfl, q1.1, by omega, by omega, by omega, by omega, by omega, by omega, by omega, by omega, ?_⟩
    rw [q1.2.2.1]
    refine nb_W.imp (sp_m_leastLook_l hf (by omega) _ 0 (Nat.zero_add _) _ _ _ q1' (by rw [nb_wr_1, if_neg (by omega)]; exact e25) (by rw [nb_wr_1, if_pos ⟨rfl, rfl⟩, q1.r]) (by rw [nb_wr_b (by decide)]; exact e12) (by rw [nb_wr_b (by decide)]; exact e13)) ?_
    rintro r' N' ⟨rfl, q⟩
    exact ⟨rfl, q.mq h7'⟩
def pu_evM (M : nb_M) (p j : Int) : Int → Int := pu_eve (M.1 606) (pu_cra M) (pu_bhv (pu_pea M) p j) (M.1 606 4) (M.1 606 2) (nb_ud (pu_sta M) (12 + 8 * p + 3) (pu_bhs (pu_pea M) p j))
theorem pu_evM_Ib {M : nb_M} {k p : Int} {j : Nat} (h : pu_I M k) (hp : 0 ≤ p ∧ p < M.1 606 5) (hj : (j : Int) ≤ 3) : pu_Rw (pu_evM M p j) ∧ pu_Rp (pu_bhv (pu_pea M) p j) ∧ pu_hb (pu_bhv (pu_pea M) p j) (pu_evM M p j) (pu_evM M p j 0) p ∧ (-100000 ≤ (pu_bhs (pu_pea M) p j) ∧ (pu_bhs (pu_pea M) p j) ≤ 100000) := by
  obtain ⟨Ho, hHo, hx2, hx3, hh, hSn, hT, h14, h7, hL⟩ := pu_I_at h
  obtain ⟨k1, k2, k3, k4, k5, k6, k7, k8⟩ := pu_sta_ok h
  have hr := hT.1
  have n5 := hr.2.2.2.2.2.2.1
  have n4 := hr.2.2.2.2.2.1
  have n2 := hr.2.2.2.1
  have hrp := (k6 p (by omega) (by omega)).2.2.1
  obtain ⟨r3, M3, x3, rfl, c3, ⟨e3, e8, e7⟩, S3⟩ := sp_c_asNowQ h (pu_CQ_id hL)
  have k6' : pu_Rp (pu_bhv (pu_pea M) p j) := pu_bhv_Rp (by omega) (by omega) k6
  obtain ⟨r5, M5, x5, rfl, c5, S5, eo⟩ := sp_g_behaveQ (m := j) c3 S3 n5.2 (by omega) hp k6
  obtain ⟨r4, M4, x4, rfl, c4, t3, t8, S4, -⟩ := sp_c_runQ (x := M.1 606 2) h c5 (by rw [eo 106 3 (by omega)]; exact e3) (by rw [eo 106 7 (by omega), nb_ud_other (by omega)]; exact e7) k5 k6' (by omega) S5 (fun q a b => by unfold pu_bhv; rw [nb_ud_other (by omega), nb_ud_other (by omega)]; exact k7 q a b) (by omega)
  refine ⟨S4.2.2.1, k6', S4.2.2.2.2.1.1 p hp.1 hp.2, ?_⟩
  unfold pu_bhs
  (repeat' split) <;> omega
def pu_evM_f (M : nb_M) (p : Int) (j : Nat) : Int := pu_swc (pu_bhv (pu_pea M) p j) (pu_evM M p j) p
def pu_evM_g (M : nb_M) (p : Int) (j : Nat) : Int := pu_wih (pu_bhv (pu_pea M) p j) (pu_evM M p j) (M.1 606 2) p
theorem sp_c_bestManner_l {M : nb_M} {k p : Int} (h : pu_I M k) (hp : 0 ≤ p ∧ p < M.1 606 5) : ∀ (n j : Nat), j + n = 4 → ∀ (N : nb_M) (v5 : nb_V), pu_CQ M N 0 → nb_W 40 4 [(19, 2), (0, p), (0, (pu_bs (pu_evM_f M p) (-2) 1000000 j).1), (0, (pu_bs (pu_evM_f M p) (-2) 1000000 j).2), (0, (j : Int)), v5] [] N (fun r' N' => r' = [(0, (pu_bs (pu_evM_f M p) (-2) 1000000 4).1)] ∧ pu_CQ M N' 0) := by
  obtain ⟨Ho, hHo, hx2, hx3, hh, hSn, hT, h14, h7, hL⟩ := pu_I_at h
  obtain ⟨k1, k2, k3, k4, k5, k6, k7, k8⟩ := pu_sta_ok h
  have hr := hT.1
  have n5 := hr.2.2.2.2.2.2.1
  have n4 := hr.2.2.2.2.2.1
  have n2 := hr.2.2.2.1
  have n1 := hr.2.2.1
  have hrp := (k6 p (by omega) (by omega)).2.2.1
  intro n
  induction n with
  | zero =>
    intro j hj N v5 q
    have o := (q.ho hHo hr hh).1
    refine w_c_bestManner_4 q.1 hHo (q.x2 hx2) (by omega) (by omega) ?_
    refine ⟨fun c => absurd c (by omega), fun _ _ => ⟨?_, q⟩⟩
    rw [show j = 4 by omega]
  | succ n ih =>
    intro j hj N v5 q
    have o := (q.ho hHo hr hh).1
    refine w_c_bestManner_4 q.1 hHo (q.x2 hx2) (by omega) (by omega) ?_
    refine ⟨fun _ => ?_, fun c => absurd c (by omega)⟩
    refine nb_W.imp (sp_c_asNowQ h q) ?_
    rintro r' M3 ⟨rfl, c3, ⟨e3, e8, e7⟩, S3⟩
    refine ⟨rfl, c3.1, c3.x2 hx2, ?_⟩
    have k6' : pu_Rp (pu_bhv (pu_pea M) p j) := pu_bhv_Rp (by omega) (by omega) k6
    refine nb_W.imp (sp_g_behaveQ c3 S3 n5.2 (by omega) hp k6) ?_
    rintro r' M5 ⟨rfl, c5, S5, eo⟩
    refine ⟨rfl, c5.1, c5.x2 hx2, ?_⟩
    rw [show M5.1 106 8 = M.1 606 2 by rw [eo 106 8 (by omega)]; exact e8]
    refine nb_W.imp (sp_c_runQ (x := M.1 606 2) h c5 (by rw [eo 106 3 (by omega)]; exact e3) (by rw [eo 106 7 (by omega), nb_ud_other (by omega)]; exact e7) k5 k6' (by omega) S5 (fun q a b => by unfold pu_bhv; rw [nb_ud_other (by omega), nb_ud_other (by omega)]; exact k7 q a b) (by omega)) ?_
    rintro r' M4 ⟨rfl, c4, t3, t8, S4, -⟩
    have hsw : nb_R nb_P 267 0 [(15, 106), (0, p)] [] M4 = some ([(0, pu_evM_f M p j)], M4) := sp_sc_servedWait c4.1 nb_sc106 n5.2 hp S4.2.2.1 (k6' p (by omega) (by omega)).2.2.1 S4.1 S4.2.1
    refine ⟨rfl, c4.1, c4.x2 hx2, nb_Wp hsw ⟨_, rfl, c4.1, c4.x2 hx2, fun d => nb_Wp hsw ⟨_, rfl, c4.1, c4.x2 hx2, ?_⟩, fun d => ?_⟩⟩
    · have g := ih (j + 1) (by omega) M4 (15, 106) c4
      rw [pu_bs_lt d] at g
      exact g
    · have g := ih (j + 1) (by omega) M4 (15, 106) c4
      rw [pu_bs_ge d] at g
      exact g
theorem sp_m_bestManner_l {M : nb_M} {p : Int} (hf : pu_RF M) (hp : 0 ≤ p ∧ p ≤ 9) : ∀ (n j : Nat), j + n = 4 → ∀ (N : nb_M) (v7 : nb_V) (x : Int), pu_MM M N (nb_ud (M.1 608) (12 + 8 * p + 3) x) (M.1 612) → N.1 603 25 = M.1 606 4 → N.1 603 26 = M.1 606 2 → N.1 612 = pu_cra M → (N.1 613 = pu_pea M ∨ ∃ m, N.1 613 = pu_bhv (pu_pea M) p m) → nb_W 170 12 [(20, 603), (0, p), (0, 12 + 8 * p + 3), (0, M.1 608 (12 + 8 * p + 3)), (0, (pu_bs (pu_evM_g M p) (-2) 1000000 j).1), (0, (pu_bs (pu_evM_g M p) (-2) 1000000 j).2), (0, (j : Int)), v7] [] N (fun r' N' => r' = [(0, (pu_bs (pu_evM_g M p) (-2) 1000000 4).1)] ∧ pu_MM M N' (M.1 608) (M.1 612)) := by
  obtain ⟨hr, hc, hP, hS, hk⟩ := hf
  have n5 := hr.2.2.2.2.2.2.1
  have n4 := hr.2.2.2.2.2.1
  have n2 := hr.2.2.2.1
  have n1 := hr.2.2.1
  have hrp := (hP p (by omega) (by omega)).2.2.1
  intro n
  induction n with
  | zero =>
    intro j hj N v7 x q e25 e26 e12 e13
    have q4 := q.st (i := 12 + 8 * p + 3) (v := M.1 608 (12 + 8 * p + 3))
    rw [nb_ud_ud, nb_ud_id rfl] at q4
    refine w_m_bestManner_12 q.1 (by omega) (by omega) (by omega) ?_
    refine ⟨fun c => absurd c (by omega), fun _ _ => ⟨?_, q4⟩⟩
    rw [show j = 4 by omega]
  | succ n ih =>
    intro j hj N v7 x q e25 e26 e12 e13
    refine w_m_bestManner_12 q.1 (by omega) (by omega) (by omega) ?_
    refine ⟨fun _ => ?_, fun c => absurd c (by omega)⟩
    refine nb_W.imp (sp_m_beOfQ q hp) ?_
    rintro r' N2 ⟨rfl, q2, b13, bo⟩
    have e13' : N2.1 613 = pu_bhv (pu_pea M) p j := by
      rw [b13]
      rcases e13 with e | ⟨m, e⟩
      · rw [e]
      · rw [e, pu_bhv_bhv]
    obtain ⟨a0, a1, a2⟩ := pu_bhv_at (pe := pu_pea M) (p := p) (m := j)
    have k6' : pu_Rp (pu_bhv (pu_pea M) p j) := pu_bhv_Rp (by omega) (by omega) hP
    have hbs : -100000 ≤ pu_bhs (pu_pea M) p j ∧ pu_bhs (pu_pea M) p j ≤ 100000 := by
      unfold pu_bhs
      (repeat' split) <;> omega
    refine ⟨rfl, q2.1, ?_⟩
    have key : ∀ v : Int, v = pu_bhs (pu_pea M) p j → nb_W 167 0 [(20, 603), (0, p)] [] (nb_wr N2 608 (12 + 8 * p + 3) v) (fun r M25 => ∃ x24 : Int, r = [(0, x24)] ∧ nb_Lay M25 ∧ (x24 < (pu_bs (pu_evM_g M p) (-2) 1000000 j).2 → nb_W 170 12 [(20, 603), (0, p), (0, 12 + 8 * p + 3), (0, M.1 608 (12 + 8 * p + 3)), (0, (j : Int)), (0, x24), (0, (j : Int) + 1), (0, x24)] [] M25 (fun r' N' => r' = [(0, (pu_bs (pu_evM_g M p) (-2) 1000000 4).1)] ∧ pu_MM M N' (M.1 608) (M.1 612))) ∧ ((pu_bs (pu_evM_g M p) (-2) 1000000 j).2 ≤ x24 → nb_W 170 12 [(20, 603), (0, p), (0, 12 + 8 * p + 3), (0, M.1 608 (12 + 8 * p + 3)), (0, (pu_bs (pu_evM_g M p) (-2) 1000000 j).1), (0, (pu_bs (pu_evM_g M p) (-2) 1000000 j).2), (0, (j : Int) + 1), (0, x24)] [] M25 (fun r' N' => r' = [(0, (pu_bs (pu_evM_g M p) (-2) 1000000 4).1)] ∧ pu_MM M N' (M.1 608) (M.1 612)))) := by
      intro v hv
      subst hv
      have q4 := q2.st (i := 12 + 8 * p + 3) (v := pu_bhs (pu_pea M) p j)
      rw [nb_ud_ud] at q4
      have ev : pu_eve (M.1 606) (pu_cra M) (pu_bhv (pu_pea M) p j) (M.1 606 4) (M.1 606 2) (pu_cpy (nb_ud (M.1 608) (12 + 8 * p + 3) (pu_bhs (pu_pea M) p j)) (M.1 609) 0 0 108) = pu_evM M p j := by
        unfold pu_evM
        rw [pu_cpy_ud (by omega)]
        rfl
      refine nb_W.imp (sp_m_waitIfHasQ (ns := M.1 606 4) (bell := M.1 606 2) (cr := pu_cra M) (pe := pu_bhv (pu_pea M) p j) q4 hr hc k6' (pu_Rw_man (by omega) (by omega) hS) (pu_Rk_man (by omega) (by omega) hk) ?_ ?_ ?_ ?_ (by omega) (by omega) hp) ?_
      · rw [nb_wr_b (by decide), bo 603 (by decide)]; exact e25
      · rw [nb_wr_b (by decide), bo 603 (by decide)]; exact e26
      · rw [nb_wr_b (by decide), bo 612 (by decide)]; exact e12
      · rw [nb_wr_b (by decide)]; exact e13'
      rintro r' N3 ⟨rfl, q3, eo⟩
      rw [ev]
      have g := ih (j + 1) (by omega) N3 (0, pu_evM_g M p j) (pu_bhs (pu_pea M) p j) q3 (by rw [eo 603 (by decide), nb_wr_b (by decide), bo 603 (by decide)]; exact e25) (by rw [eo 603 (by decide), nb_wr_b (by decide), bo 603 (by decide)]; exact e26) (by rw [eo 612 (by decide), nb_wr_b (by decide), bo 612 (by decide)]; exact e12) (Or.inr ⟨j, by rw [eo 613 (by decide), nb_wr_b (by decide)]; exact e13'⟩)
      refine ⟨_, rfl, q3.1, fun d => ?_, fun d => ?_⟩
      · rw [pu_bs_lt (show pu_evM_g M p j < _ from d)] at g
        exact g
      · rw [pu_bs_ge (show _ ≤ pu_evM_g M p j from d)] at g
        exact g
    rw [e13', a0, a1, a2]
    unfold pu_bhs at key
    refine ⟨fun c => ⟨?_, ?_, ?_, ?_, key _ ?_⟩, fun c => ⟨fun d => ⟨?_, ?_, key _ ?_⟩, fun d => ⟨?_, ?_, key _ ?_⟩⟩⟩
    all_goals first
      | ((repeat' split) <;> omega)
      | omega
theorem pu_evM_CQ {M M1 : nb_M} {k tr : Int} (h : pu_I M k) (hq : pu_CQ M M1 tr) (p j : Int) : pu_evM M1 p j = pu_evM M p j := by
  obtain ⟨b3, b6, b8, b9, b12, b13, h7', c1, c2, c3⟩ := pu_CQ_ref h hq
  unfold pu_evM
  rw [b6, c1, c2, c3]
theorem pa_bestManner (p : Int) : pu_pair 40 [(19, 2), (0, p), (98, 0), (98, 0), (98, 0), (98, 0)] 170 [(20, 603), (0, p), (98, 0), (98, 0), (98, 0), (98, 0), (98, 0), (98, 0)] := by
  apply pu_pair_q
  intro M k hI hk0 hk1
  obtain ⟨Ho, hHo, hx2, hx3, hh, hSn, hT, -, h7, hL⟩ := pu_I_at hI
  obtain ⟨k1, k2, k3, k4, k5, k6, k7, k8⟩ := pu_sta_ok hI
  have hr := hT.1
  have n5 := hr.2.2.2.2.2.2.1
  have n4 := hr.2.2.2.2.2.1
  have n2 := hr.2.2.2.1
  have n1 := hr.2.2.1
  have h14 := pu_house hI
  have o := hh.1
  by_cases hp : 0 ≤ p ∧ p < M.1 606 5
  case neg =>
    refine ⟨-1, 1, fun h => absurd h (by decide), ?_, fun M1 hq => ?_⟩
    · refine w_c_bestManner_0 hL hHo hx2 ?_
      rw [o.2.2.2.2.1]
      repeat' (first | assumption | with_reducible apply And.intro | intro _)
      all_goals (first | omega | (exfalso; omega) | rfl | exact pu_CQ_g hL | exact pu_CQ.tr (pu_CQ_g hL) | exact pu_CQ.tr (pu_CQ.tr (pu_CQ_g hL)))
    · obtain ⟨b3, b6, b8, b9, b12, b13, h7', -⟩ := pu_CQ_ref hI hq
      refine w_m_bestManner_0 hq.1 ?_
      rw [b3, b6, b8]
      repeat' (first | assumption | with_reducible apply And.intro | intro _)
      all_goals (first | omega | (exfalso; omega) | rfl | exact pu_MQ_no h7' (by assumption))
  obtain ⟨⟨p8, p3, p5, p7, p6⟩, est, pk⟩ := pu_man_at hI (p := p) (by omega)
  by_cases hw : M.1 608 (12 + 8 * p) = 0
  case neg =>
    refine ⟨-1, 5, fun h => absurd h (by decide), ?_, fun M1 hq => ?_⟩
    · refine w_c_bestManner_0 hL hHo hx2 ?_
      rw [o.2.2.2.2.1, p8]
      repeat' (first | assumption | with_reducible apply And.intro | intro _)
      all_goals (first | omega | (exfalso; omega) | rfl | exact pu_CQ_g hL | exact pu_CQ.tr (pu_CQ_g hL) | exact pu_CQ.tr (pu_CQ.tr (pu_CQ_g hL)))
    · obtain ⟨b3, b6, b8, b9, b12, b13, h7', -⟩ := pu_CQ_ref hI hq
      refine w_m_bestManner_0 hq.1 ?_
      rw [b3, b6, b8]
      repeat' (first | assumption | with_reducible apply And.intro | intro _)
      all_goals (first | omega | (exfalso; omega) | rfl | exact pu_MQ_no h7' (by assumption))
  have hbs := pu_bs_eq (f := pu_evM_f M p) (g := pu_evM_g M p) (a := -2) 4 (fun j hj => by
    obtain ⟨a, b, c, d⟩ := pu_evM_Ib (j := j) hI hp (by omega)
    exact pu_sw_wih a b (by omega) (by omega) c)
  refine ⟨(pu_bs (pu_evM_f M p) (-2) 1000000 4).1, 0, fun h => absurd h (by decide), ?_, fun M1 hq => ?_⟩
  · refine w_c_bestManner_0 hL hHo hx2 ?_
    rw [o.2.2.2.2.1, p8]
    obtain ⟨v, hv⟩ : ∃ v, True → (pu_bs (pu_evM_f M p) (-2) 1000000 4).1 = v := ⟨_, fun _ => rfl⟩
    rw [hv trivial]
    clear hbs
    repeat' (first | assumption | with_reducible apply And.intro | intro _)
    all_goals try (first | omega | (exfalso; omega))
    rw [← hv trivial]
    exact sp_c_bestManner_l hI hp _ 0 (Nat.zero_add _) _ _ ((pu_CQ_g hL).tr)
  · obtain ⟨b3, b6, b8, b9, b12, b13, h7', c1, c2, c3⟩ := pu_CQ_ref hI hq
    have hf := pu_RF_of hI hq
    have eg : pu_evM_g M1 p = pu_evM_g M p := by
      funext j
      unfold pu_evM_g
      rw [pu_evM_CQ hI hq, c2, b6]
    rw [hbs.1, ← eg]
    rw [← b8] at hw
    rw [← b6] at n2 n4 n5 n1 hp
    refine w_m_bestManner_0 hq.1 ?_
    rw [← b3, ← b6] at h14
    try rw [← b6]
    obtain ⟨v, hv⟩ : ∃ v, True → (pu_bs (pu_evM_g M1 p) (-2) 1000000 4).1 = v := ⟨_, fun _ => rfl⟩
    rw [hv trivial]
    clear hbs
    repeat' (first | assumption | with_reducible apply And.intro | intro _)
    all_goals try (first | omega | (exfalso; omega))
    rw [← hv trivial]
    refine nb_W.imp (sp_m_asToldQ (pu_MM_g hq.1)) ?_
    rintro r' N1 ⟨rfl, q1, e25, -, e12, e13, -⟩
    have q1' : pu_MM M1 (nb_wr N1 603 26 (N1.1 606 2)) (nb_ud (M1.1 608) (12 + 8 * p + 3) (M1.1 608 (12 + 8 * p + 3))) (M1.1 612) := by
      rw [nb_ud_id rfl]
      exact q1.fld (by omega)
    refine ⟨rfl, q1.1, by omega, by omega, by omega, by omega, by omega, by omega, by omega, by omega, ?_⟩
    rw [q1.2.2.1]
    refine nb_W.imp (sp_m_bestManner_l hf (by omega) _ 0 (Nat.zero_add _) _ _ _ q1' (by rw [nb_wr_1, if_neg (by omega)]; exact e25) (by rw [nb_wr_1, if_pos ⟨rfl, rfl⟩, q1.r]) (by rw [nb_wr_b (by decide)]; exact e12) (Or.inl (by rw [nb_wr_b (by decide)]; exact e13))) ?_
    rintro r' N' ⟨rfl, q⟩
    exact ⟨rfl, q.mq h7'⟩
