/-! BY A RULE -/
def pu_crb (cr : Int → Int) (rule rov to : Int) : Nat → Int → Int
  | 0 => cr
  | n + 1 => if rov = 0 then nb_ud (pu_crb cr rule rov to n) (6 * n) rule else nb_ud (nb_ud (nb_ud (pu_crb cr rule rov to n) (6 * n) rule) (6 * n + 2) 0) (6 * n + 3) to
theorem pu_crb_at {cr : Int → Int} {rule rov to : Int} {s : Int} : ∀ n : Nat, pu_crb cr rule rov to n (6 * s + 1) = cr (6 * s + 1) ∧ pu_crb cr rule rov to n (6 * s + 4) = cr (6 * s + 4) ∧ pu_crb cr rule rov to n (6 * s + 5) = cr (6 * s + 5) ∧ ((n : Int) ≤ s → pu_crb cr rule rov to n (6 * s) = cr (6 * s) ∧ pu_crb cr rule rov to n (6 * s + 2) = cr (6 * s + 2) ∧ pu_crb cr rule rov to n (6 * s + 3) = cr (6 * s + 3))
  | 0 => ⟨rfl, rfl, rfl, fun _ => ⟨rfl, rfl, rfl⟩⟩
  | n + 1 => by
    obtain ⟨h1, h4, h5, h6⟩ := pu_crb_at (cr := cr) (rule := rule) (rov := rov) (to := to) (s := s) n
    unfold pu_crb
    split
    · refine ⟨?_, ?_, ?_, fun h => ?_⟩
      · rw [nb_ud_other (by omega)]; exact h1
      · rw [nb_ud_other (by omega)]; exact h4
      · rw [nb_ud_other (by omega)]; exact h5
      · obtain ⟨a, b, c⟩ := h6 (by omega)
        rw [nb_ud_other (by omega), nb_ud_other (by omega), nb_ud_other (by omega)]
        exact ⟨a, b, c⟩
    · refine ⟨?_, ?_, ?_, fun h => ?_⟩
      · rw [nb_ud_other (by omega), nb_ud_other (by omega), nb_ud_other (by omega)]; exact h1
      · rw [nb_ud_other (by omega), nb_ud_other (by omega), nb_ud_other (by omega)]; exact h4
      · rw [nb_ud_other (by omega), nb_ud_other (by omega), nb_ud_other (by omega)]; exact h5
      · obtain ⟨a, b, c⟩ := h6 (by omega)
        refine ⟨?_, ?_, ?_⟩
        · rw [nb_ud_other (by omega), nb_ud_other (by omega), nb_ud_other (by omega)]; exact a
        · rw [nb_ud_other (by omega), nb_ud_other (by omega), nb_ud_other (by omega)]; exact b
        · rw [nb_ud_other (by omega), nb_ud_other (by omega), nb_ud_other (by omega)]; exact c
theorem pu_crb_Rc {cr : Int → Int} {rule rov to : Int} {n : Nat} (h : pu_Rc cr) : pu_Rc (pu_crb cr rule rov to n) := by
  intro s a b
  obtain ⟨h1, h4, h5, -⟩ := pu_crb_at (cr := cr) (rule := rule) (rov := rov) (to := to) (s := s) n
  rw [h1, h4, h5]
  exact h s a b
/-- an evening by a rule -/
def pu_evb (M : nb_M) (rule rov : Int) : Int → Int := pu_eve (M.1 606) (pu_crb (pu_cra M) rule rov (M.1 606 1 - 1) (M.1 606 4).toNat) (pu_pea M) (M.1 606 4) (M.1 606 2) (pu_sta M)
theorem pu_St_rule {M N N' : nb_M} {ns rule rov to : Int} {k : Nat} {cr pe R : Int → Int} (h : pu_St M N ns (pu_crb cr rule rov to k) pe R) (hnp : M.1 606 5 ≤ 10) (hns : ns ≤ 4) (e0 : N'.1 (120 + 2 * k) 1 = rule) (e1 : rov ≠ 0 → N'.1 (120 + 2 * k) 3 = 0 ∧ N'.1 (120 + 2 * k) 4 = to) (e2 : rov = 0 → N'.1 (120 + 2 * k) 3 = N.1 (120 + 2 * k) 3 ∧ N'.1 (120 + 2 * k) 4 = N.1 (120 + 2 * k) 4) (eo : ∀ a i : Int, (a ≠ 120 + 2 * k ∨ (i ≠ 1 ∧ i ≠ 3 ∧ i ≠ 4)) → N'.1 a i = N.1 a i) : pu_St M N' ns (pu_crb cr rule rov to (k + 1)) pe R := by
  refine h.staff hnp (fun a _ _ => funext fun i => eo a i (Or.inl (by omega))) (fun s a b => ?_)
  have g := h.1.2.2.2.2.2 s a b
  rw [show (106 : Int) + 14 + 2 * s = 120 + 2 * s by omega] at g
  obtain ⟨g1, g2, g3, g4, g5, g6, g7, f0, f1⟩ := g
  have q4 : pu_crb cr rule rov to (k + 1) (6 * s + 4) = pu_crb cr rule rov to k (6 * s + 4) := (pu_crb_at (k + 1)).2.1.trans (pu_crb_at k).2.1.symm
  have q5 : pu_crb cr rule rov to (k + 1) (6 * s + 5) = pu_crb cr rule rov to k (6 * s + 5) := (pu_crb_at (k + 1)).2.2.1.trans (pu_crb_at k).2.2.1.symm
  by_cases e : s = k
  · subst e
    refine ⟨?_, ?_, ?_, ?_, ?_, ?_, ?_, ?_, ?_⟩
    · rw [e0]
      unfold pu_crb
      split
      · rw [nb_ud_same]
      · rw [nb_ud_other (by omega), nb_ud_other (by omega), nb_ud_same]
    · rw [eo _ _ (by omega)]; exact g2
    · by_cases c : rov = 0
      · rw [(e2 c).1, g3]
        conv => rhs; unfold pu_crb
        rw [if_pos c, nb_ud_other (by omega)]
      · rw [(e1 c).1]
        conv => rhs; unfold pu_crb
        rw [if_neg c, nb_ud_other (by omega), nb_ud_same]
    · by_cases c : rov = 0
      · rw [(e2 c).2, g4]
        conv => rhs; unfold pu_crb
        rw [if_pos c, nb_ud_other (by omega)]
      · rw [(e1 c).2]
        conv => rhs; unfold pu_crb
        rw [if_neg c, nb_ud_same]
    · rw [eo _ _ (by omega), q4]; exact g5
    · rw [eo _ _ (by omega), q5]; exact g6
    · rw [eo _ _ (by omega)]; exact g7
    · rw [eo _ _ (by omega)]; exact f0
    · rw [eo _ _ (by omega)]; exact f1
  · have qq : ∀ i, 0 ≤ i → i < 6 → pu_crb cr rule rov to (k + 1) (6 * s + i) = pu_crb cr rule rov to k (6 * s + i) := fun i _ _ => by
      conv => lhs; unfold pu_crb
      split
      · rw [nb_ud_other (by omega)]
      · rw [nb_ud_other (by omega), nb_ud_other (by omega), nb_ud_other (by omega)]
    have q0 := qq 0 (by decide) (by decide)
    rw [Int.add_zero] at q0
    refine ⟨?_, ?_, ?_, ?_, ?_, ?_, ?_, ?_, ?_⟩
    · rw [eo _ _ (by omega), q0]; exact g1
    · rw [eo _ _ (by omega)]; exact g2
    · rw [eo _ _ (by omega), qq 2 (by decide) (by decide)]; exact g3
    · rw [eo _ _ (by omega), qq 3 (by decide) (by decide)]; exact g4
    · rw [eo _ _ (by omega), q4]; exact g5
    · rw [eo _ _ (by omega), q5]; exact g6
    · rw [eo _ _ (by omega)]; exact g7
    · rw [eo _ _ (by omega)]; exact f0
    · rw [eo _ _ (by omega)]; exact f1
theorem sp_c_totalBy {M N : nb_M} {k tr rule rov w : Int} {v4 v5 : nb_V} (h : pu_I M k) (hq : pu_CQ M N tr) (hw : 0 ≤ w ∧ w ≤ 5) : nb_W 34 0 [(19, 2), (0, rule), (0, rov), (0, w), v4, v5] [] N (fun r' N' => r' = [(0, pu_sum (M.1 606) (pu_pea M) (pu_evb M rule rov) (M.1 606 5) (M.1 606 2) w)] ∧ pu_CQ M N' tr) := by
  obtain ⟨Ho, hHo, hx2, hx3, hh, hSn, hT, h14, h7, hL⟩ := pu_I_at h
  obtain ⟨k1, k2, k3, k4, k5, k6, k7, k8⟩ := pu_sta_ok h
  have hr := hT.1
  have n5 := hr.2.2.2.2.2.2.1
  have n4 := hr.2.2.2.2.2.1
  have n2 := hr.2.2.2.1
  have n1 := hr.2.2.1
  refine w_c_totalBy_0 hq.1 hHo (hq.x2 hx2) ?_
  refine nb_W.imp (sp_c_asNowQ h hq) ?_
  rintro r' M1 ⟨rfl, hq1, ⟨e3, e8, e7⟩, hS⟩
  refine ⟨rfl, hq1.1, hq1.x2 hx2, ?_⟩
  suffices hl : ∀ (n j : Nat), j + n = (M.1 606 4).toNat → ∀ M1, pu_CQ M M1 tr → M1.1 106 3 = M.1 2 2 → M1.1 106 8 = M.1 606 2 → M1.1 106 7 = pu_sta M 0 → pu_St M M1 (M.1 606 4) (pu_crb (pu_cra M) rule rov (M.1 606 1 - 1) j) (pu_pea M) (pu_sta M) → nb_W 34 2 [(19, 2), (0, rule), (0, rov), (0, w), (15, 106), (0, (j : Int))] [] M1 (fun r' N' => r' = [(0, pu_sum (M.1 606) (pu_pea M) (pu_evb M rule rov) (M.1 606 5) (M.1 606 2) w)] ∧ pu_CQ M N' tr) from hl _ 0 (Nat.zero_add _) M1 hq1 e3 e8 e7 hS
  clear hS e3 e8 e7 hq1 M1 hq N
  intro n
  induction n with
  | zero =>
    intro j hj M1 hq1 e3 e8 e7 hS
    have o := (hq1.ho hHo hr hh).1
    refine w_c_totalBy_2 hq1.1 hHo (hq1.x2 hx2) (by omega) ?_
    rw [o.1, o.2.2.2.1, e8]
    refine ⟨by omega, by omega, fun c => absurd c (by omega), fun _ => ?_⟩
    refine nb_W.imp (sp_c_runQ h hq1 e3 e7 (pu_crb_Rc k5) k6 (by omega) hS k7 (by omega)) ?_
    rintro r' M2 ⟨rfl, q2, f3, f8, S2, -⟩
    refine ⟨rfl, q2.1, q2.x2 hx2, nb_Wp (sp_c_totalQ h q2 f3 (f8.trans e8) (by omega) k6 S2 hw) ⟨_, rfl, q2.1, q2.x2 hx2, fun _ => ⟨?_, q2⟩⟩⟩
    unfold pu_evb
    rw [show j = (M.1 606 4).toNat by omega]
  | succ n ih =>
    intro j hj M1 hq1 e3 e8 e7 hS
    have o := (hq1.ho hHo hr hh).1
    refine w_c_totalBy_2 hq1.1 hHo (hq1.x2 hx2) (by omega) ?_
    rw [o.1, o.2.2.2.1]
    refine ⟨by omega, by omega, fun _ => ⟨fun c => ?_, fun c => ⟨by omega, by omega, ?_⟩⟩, fun c => absurd c (by omega)⟩
    · refine ih (j + 1) (by omega) _ (hq1.cell (by omega) (fun _ => nb_n120 (by omega) (by decide))) ?_ ?_ ?_ (pu_St_rule hS n5.2 (by omega) ?_ (fun z => absurd c z) (fun _ => ⟨?_, ?_⟩) (fun a i z => ?_))
      · rw [nb_wr_1, if_neg (by omega)]; exact e3
      · rw [nb_wr_1, if_neg (by omega)]; exact e8
      · rw [nb_wr_1, if_neg (by omega)]; exact e7
      · rw [nb_wr_1, if_pos ⟨rfl, rfl⟩]
      · rw [nb_wr_1, if_neg (by omega)]
      · rw [nb_wr_1, if_neg (by omega)]
      · rw [nb_wr_1, if_neg (by omega)]
    · refine ih (j + 1) (by omega) _ (((hq1.cell (by omega) (fun _ => nb_n120 (by omega) (by decide))).cell (by omega) (fun _ => nb_n120 (by omega) (by decide))).cell (by omega) (fun _ => nb_n120 (by omega) (by decide))) ?_ ?_ ?_ (pu_St_rule hS n5.2 (by omega) ?_ (fun z => ⟨?_, ?_⟩) (fun z => absurd z c) (fun a i z => ?_))
      · rw [nb_wr_1, if_neg (by omega), nb_wr_1, if_neg (by omega), nb_wr_1, if_neg (by omega)]; exact e3
      · rw [nb_wr_1, if_neg (by omega), nb_wr_1, if_neg (by omega), nb_wr_1, if_neg (by omega)]; exact e8
      · rw [nb_wr_1, if_neg (by omega), nb_wr_1, if_neg (by omega), nb_wr_1, if_neg (by omega)]; exact e7
      · rw [nb_wr_1, if_neg (by omega), nb_wr_1, if_neg (by omega), nb_wr_1, if_pos ⟨rfl, rfl⟩]
      · rw [nb_wr_1, if_neg (by omega), nb_wr_1, if_pos ⟨rfl, rfl⟩]
      · rw [nb_wr_1, if_pos ⟨rfl, rfl⟩]
      · rw [nb_wr_1, if_neg (by omega), nb_wr_1, if_neg (by omega), nb_wr_1, if_neg (by omega)]
theorem sp_m_layRuleQ {M N : nb_M} {rule rov : Int} {v3 : nb_V} (h : pu_MM M N (M.1 608) (M.1 612)) (hr : pu_Rr (M.1 606)) (hc : pu_Rc (pu_cra M)) (hp : pu_Rp (pu_pea M)) (hS : pu_Rw (M.1 608)) (hk : pu_Rk (M.1 608)) : nb_W 161 0 [(20, 603), (0, rule), (0, rov), v3] [] N (fun r' N' => r' = [] ∧ pu_MM M N' (M.1 608) (M.1 612) ∧ N'.1 609 = pu_evb M rule rov ∧ N'.1 613 = pu_pea M ∧ N'.1 603 26 = M.1 606 2) := by
  have n4 := hr.2.2.2.2.2.1
  have n2 := hr.2.2.2.1
  have n1 := hr.2.2.1
  refine w_m_layRule_0 h.1 ?_
  refine nb_W.imp (sp_m_asToldQ h) ?_
  rintro r' M1 ⟨rfl, q, e25, -, e12, e13, -⟩
  refine ⟨rfl, q.1, ?_⟩
  rw [q.r]
  have q2 := q.fld (i := 26) (v := M.1 606 2) (by omega)
  suffices hl : ∀ (n j : Nat), j + n = (M.1 606 4).toNat → ∀ M1, pu_MM M M1 (M.1 608) (M.1 612) → M1.1 603 25 = M.1 606 4 → M1.1 603 26 = M.1 606 2 → M1.1 612 = pu_crb (pu_cra M) rule rov (M.1 606 1 - 1) j → M1.1 613 = pu_pea M → nb_W 161 3 [(20, 603), (0, rule), (0, rov), (0, (j : Int))] [] M1 (fun r' N' => r' = [] ∧ pu_MM M N' (M.1 608) (M.1 612) ∧ N'.1 609 = pu_evb M rule rov ∧ N'.1 613 = pu_pea M ∧ N'.1 603 26 = M.1 606 2) from hl _ 0 (Nat.zero_add _) _ q2 (by rw [nb_wr_1, if_neg (by omega)]; exact e25) (by rw [nb_wr_1, if_pos ⟨rfl, rfl⟩]) (by rw [nb_wr_b (by decide)]; exact e12) (by rw [nb_wr_b (by decide)]; exact e13)
  clear q2 q e25 e12 e13 M1 h N
  intro n
  induction n with
  | zero =>
    intro j hj M1 q e25 e26 e12 e13
    refine w_m_layRule_3 q.1 (by omega) ?_
    rw [e25]
    refine ⟨fun c => absurd c (by omega), fun _ => ?_⟩
    refine nb_W.imp (sp_m_eveningQ q hr (pu_crb_Rc hc) hp hS hk e25 e26 e12 e13 (by omega) (by omega)) ?_
    rintro r' N' ⟨rfl, g, e9, eo⟩
    refine ⟨rfl, g.1, fun _ => ⟨rfl, g, ?_, (congrFun (congrArg _ rfl) _).trans ((eo 613 (by decide)).trans e13), by rw [eo 603 (by decide)]; exact e26⟩⟩
    rw [e9, show j = (M.1 606 4).toNat by omega]
    rfl
  | succ n ih =>
    intro j hj M1 q e25 e26 e12 e13
    refine w_m_layRule_3 q.1 (by omega) ?_
    rw [e25, q.r]
    refine ⟨fun _ => ⟨fun c => ?_, fun c => ⟨by omega, by omega, ?_⟩⟩, fun c => absurd c (by omega)⟩
    · refine ih (j + 1) (by omega) _ (q.crew (by omega)) ?_ ?_ ?_ ?_
      · rw [nb_wr_1, if_neg (by omega)]; exact e25
      · rw [nb_wr_1, if_neg (by omega)]; exact e26
      · rw [nb_wr_a, e12]
        conv => rhs; unfold pu_crb
        rw [if_pos c]
      · rw [nb_wr_b (by decide)]; exact e13
    · refine ih (j + 1) (by omega) _ (((q.crew (by omega)).crew (by omega)).crew (by omega)) ?_ ?_ ?_ ?_
      · rw [nb_wr_1, if_neg (by omega), nb_wr_1, if_neg (by omega), nb_wr_1, if_neg (by omega)]; exact e25
      · rw [nb_wr_1, if_neg (by omega), nb_wr_1, if_neg (by omega), nb_wr_1, if_neg (by omega)]; exact e26
      · rw [nb_wr_a, nb_wr_a, nb_wr_a, e12]
        conv => rhs; unfold pu_crb
        rw [if_neg c]
      · rw [nb_wr_b (by decide), nb_wr_b (by decide), nb_wr_b (by decide)]; exact e13
theorem pu_evb_ok {M : nb_M} {k rule rov : Int} (h : pu_I M k) : pu_Rw (pu_evb M rule rov) := by
  obtain ⟨k1, k2, k3, k4, k5, k6, k7, k8⟩ := pu_sta_ok h
  obtain ⟨Ho, hHo, hx2, hx3, hh, hSn, hT, h14, h7, hL⟩ := pu_I_at h
  have hr := hT.1
  have n4 := hr.2.2.2.2.2.1
  have n2 := hr.2.2.2.1
  exact (pu_eve_facts hr (pu_crb_Rc k5) (by omega) (by omega) k1 k2).1
/-- what the reference needs of the rows, behind the class's side -/
theorem pu_CQ_ref {M M1 : nb_M} {k tr : Int} (h : pu_I M k) (hq : pu_CQ M M1 tr) : M1.1 603 = M.1 603 ∧ M1.1 606 = M.1 606 ∧ M1.1 608 = M.1 608 ∧ M1.1 609 = M.1 609 ∧ M1.1 612 = M.1 612 ∧ M1.1 613 = M.1 613 ∧ pu_I7 M1 ∧ (pu_cra M1 = pu_cra M ∧ pu_pea M1 = pu_pea M ∧ pu_sta M1 = pu_sta M) := by
  obtain ⟨Ho, hHo, hx2, hx3, hh, hSn, hT, h14, h7, hL⟩ := pu_I_at h
  refine ⟨hq.row (by decide), hq.row (by decide), hq.row (by decide), hq.row (by decide), hq.row (by decide), hq.row (by decide), ?_, pu_cra_CQ hq⟩
  unfold pu_I7
  rw [hq.row (a := 612) (by decide)]
  exact h7
/-- either a house or none -/
theorem pu_house {M : nb_M} {k : Int} (h : pu_I M k) : (M.1 603 14 = 0 ∧ M.1 606 5 = 0) ∨ (M.1 603 14 = 1 ∧ 1 ≤ M.1 606 5 ∧ 1 ≤ M.1 606 1 ∧ 1 ≤ M.1 606 4) := by
  obtain ⟨Ho, hHo, hx2, hx3, hh, hSn, hT, h14, h7, hL⟩ := pu_I_at h
  have n5 := hT.1.2.2.2.2.2.2.1
  have h3 := hT.2.2.2.2.2.2.1
  rw [h14]
  split
  · exact Or.inl ⟨rfl, by assumption⟩
  · exact Or.inr ⟨rfl, by omega⟩
theorem pu_evb_CQ {M M1 : nb_M} {tr rule rov : Int} (hq : pu_CQ M M1 tr) : pu_evb M1 rule rov = pu_evb M rule rov := by
  obtain ⟨a, b, c⟩ := pu_cra_CQ hq
  unfold pu_evb
  rw [a, b, c, hq.row (a := 606) (by decide)]
/-- what the reference's rows must be like -/
def pu_RF (M : nb_M) : Prop := pu_Rr (M.1 606) ∧ pu_Rc (pu_cra M) ∧ pu_Rp (pu_pea M) ∧ pu_Rw (M.1 608) ∧ pu_Rk (M.1 608)
theorem pu_RF_of {M M1 : nb_M} {k tr : Int} (h : pu_I M k) (hq : pu_CQ M M1 tr) : pu_RF M1 := by
  obtain ⟨k1, k2, k3, k4, k5, k6, k7, k8⟩ := pu_sta_ok h
  obtain ⟨Ho, hHo, hx2, hx3, hh, hSn, hT, h14, h7, hL⟩ := pu_I_at h
  obtain ⟨b3, b6, b8, b9, b12, b13, h7', c1, c2, c3⟩ := pu_CQ_ref h hq
  unfold pu_RF
  rw [b6, b8, c1, c2]
  exact ⟨hT.1, k5, k6, k3, k4⟩
theorem sp_m_tellQ {M N : nb_M} {Q2 : nb_M → Prop} (h : pu_MM M N (M.1 608) (M.1 612)) (hf : pu_RF M) (hQ : ∀ N2, pu_MM M N2 (M.1 608) (M.1 612) → N2.1 609 = pu_ev M → N2.1 603 25 = M.1 606 4 → N2.1 603 26 = M.1 606 2 → N2.1 612 = pu_cra M → N2.1 613 = pu_pea M → Q2 N2) : nb_W 121 0 [(20, 603)] [] N (fun r M2 => r = [] ∧ nb_Lay M2 ∧ nb_W 134 0 [(20, 603)] [] (nb_wr M2 603 26 (M2.1 606 2)) (fun r M3 => r = [] ∧ nb_Lay M3 ∧ Q2 M3)) := by
  obtain ⟨hr, hc, hp, hS, hk⟩ := hf
  have n4 := hr.2.2.2.2.2.1
  have n2 := hr.2.2.2.1
  refine nb_W.imp (sp_m_asToldQ h) ?_
  rintro r' N1 ⟨rfl, q1, e25, -, e12, e13, -⟩
  refine ⟨rfl, q1.1, ?_⟩
  rw [q1.r]
  refine nb_W.imp (sp_m_eveningQ (ns := M.1 606 4) (bell := M.1 606 2) (cr := pu_cra M) (pe := pu_pea M) (q1.fld (by omega)) hr hc hp hS hk ?_ ?_ ?_ ?_ (by omega) (by omega)) ?_
  · rw [nb_wr_1, if_neg (by omega)]; exact e25
  · rw [nb_wr_1, if_pos ⟨rfl, rfl⟩]
  · rw [nb_wr_b (by decide)]; exact e12
  · rw [nb_wr_b (by decide)]; exact e13
  rintro r' N2 ⟨rfl, q2, e9, eo⟩
  refine ⟨rfl, q2.1, hQ N2 q2 e9 ?_ ?_ ?_ ?_⟩
  · rw [eo 603 (by decide), nb_wr_1, if_neg (by omega)]; exact e25
  · rw [eo 603 (by decide), nb_wr_1, if_pos ⟨rfl, rfl⟩]
  · rw [eo 612 (by decide), nb_wr_b (by decide)]; exact e12
  · rw [eo 613 (by decide), nb_wr_b (by decide)]; exact e13
theorem pa_by (rule rov w : Int) : pu_pair 33 [(19, 2), (0, rule), (0, rov), (0, w)] 162 [(20, 603), (0, rule), (0, rov), (0, w)] := by
  apply pu_pair_q
  intro M k hI hk0 hk1
  obtain ⟨Ho, hHo, hx2, hx3, hh, hSn, hT, -, h7, hL⟩ := pu_I_at hI
  have hr := hT.1
  have n5 := hr.2.2.2.2.2.2.1
  have n2 := hr.2.2.2.1
  have h14 := pu_house hI
  have o := hh.1
  by_cases c : M.1 606 5 = 0 ∨ w < 0 ∨ 6 ≤ w ∨ rule < 0 ∨ 5 ≤ rule
  · refine ⟨-1, 1, fun h => absurd h (by decide), ?_, fun M1 hq => ?_⟩
    · refine w_c_by_0 hL hHo hx2 ?_
      rw [o.2.2.2.2.1]
      repeat' (first | assumption | with_reducible apply And.intro | intro _)
      all_goals (first | omega | (exfalso; omega) | rfl | exact pu_CQ_g hL | exact pu_CQ.tr (pu_CQ_g hL) | exact pu_CQ.tr (pu_CQ.tr (pu_CQ_g hL)))
    · obtain ⟨b3, b6, b8, b9, b12, b13, h7', -⟩ := pu_CQ_ref hI hq
      refine w_m_by_0 hq.1 ?_
      rw [b3]
      repeat' (first | assumption | with_reducible apply And.intro | intro _)
      all_goals (first | omega | (exfalso; omega) | rfl | exact pu_MQ_no h7' (by assumption))
  · refine ⟨pu_sum (M.1 606) (pu_pea M) (pu_evb M rule rov) (M.1 606 5) (M.1 606 2) w, 0, fun h => absurd h (by decide), ?_, fun M1 hq => ?_⟩
    · refine w_c_by_0 hL hHo hx2 ?_
      rw [o.2.2.2.2.1]
      repeat' (first | assumption | with_reducible apply And.intro | intro _)
      all_goals try (first | omega | (exfalso; omega))
      refine nb_W.imp (sp_c_totalBy hI (pu_CQ_g hL) (by omega)) ?_
      rintro r' N' ⟨rfl, q⟩
      exact ⟨_, rfl, q.1, q.x2 hx2, fun _ => ⟨rfl, q⟩⟩
    · obtain ⟨b3, b6, b8, b9, b12, b13, h7', c1, c2, c3⟩ := pu_CQ_ref hI hq
      obtain ⟨f1, f2, f3, f4, f5⟩ := pu_RF_of hI hq
      have e := pu_evb_CQ (rule := rule) (rov := rov) hq
      have eok := pu_evb_ok (rule := rule) (rov := rov) hI
      rw [← b6] at n2
      refine w_m_by_0 hq.1 ?_
      rw [← b3] at h14
      repeat' (first | assumption | with_reducible apply And.intro | intro _)
      all_goals try (first | omega | (exfalso; omega))
      refine nb_W.imp (sp_m_layRuleQ (pu_MM_g hq.1) f1 f2 f3 f4 f5) ?_
      rintro r' N' ⟨rfl, q, e9, e13, e26⟩
      refine ⟨rfl, q.1, nb_Wp (sp_m_sumOfQ q f1 f3 (by rw [e]; exact eok) e9 e13 e26 (by omega)) ⟨_, rfl, q.1, fun _ => ⟨?_, q.mq h7'⟩⟩⟩
      rw [e, c2, b6]
