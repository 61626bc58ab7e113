/-! CALLS: cut, cutWaits -/
def pu_crc (cr : Int → Int) (k to : Int) : Int → Int := nb_ud (nb_ud (nb_ud (nb_ud cr 2 0) 3 k) 8 (k + 1)) 9 to
theorem pu_crc_Rc {cr : Int → Int} {k to : Int} (h : pu_Rc cr) : pu_Rc (pu_crc cr k to) := by
  intro s a b
  unfold pu_crc
  rw [nb_ud_other (j := 6 * s + 1) (by omega), nb_ud_other (j := 6 * s + 1) (by omega), nb_ud_other (j := 6 * s + 1) (by omega), nb_ud_other (j := 6 * s + 1) (by omega), nb_ud_other (j := 6 * s + 4) (by omega), nb_ud_other (j := 6 * s + 4) (by omega), nb_ud_other (j := 6 * s + 4) (by omega), nb_ud_other (j := 6 * s + 4) (by omega), nb_ud_other (j := 6 * s + 5) (by omega), nb_ud_other (j := 6 * s + 5) (by omega), nb_ud_other (j := 6 * s + 5) (by omega), nb_ud_other (j := 6 * s + 5) (by omega)]
  exact h s a b
def pu_evC (M : nb_M) (j : Int) : Int → Int := pu_eve (M.1 606) (pu_crc (pu_cra M) j (M.1 606 1 - 1)) (pu_pea M) (M.1 606 4) (M.1 606 2) (pu_sta M)
def pu_evC_f (M : nb_M) (j : Nat) : Int := pu_sum (M.1 606) (pu_pea M) (pu_evC M j) (M.1 606 5) (M.1 606 2) 3
theorem pu_evC_ok {M : nb_M} {k : Int} (h : pu_I M k) (j : Int) : pu_Rw (pu_evC M j) := by
  obtain ⟨k1, k2, k3, k4, k5, k6, k7, k8⟩ := pu_sta_ok h
  obtain ⟨Ho, hHo, hx2, hx3, hh, hSn, hT, h14, h7, hL⟩ := pu_I_at h
  have hr := hT.1
  have n4 := hr.2.2.2.2.2.1
  have n2 := hr.2.2.2.1
  exact (pu_eve_facts hr (pu_crc_Rc k5) (by omega) (by omega) k1 k2).1
theorem pu_evC_rg {M : nb_M} {k : Int} (h : pu_I M k) (j : Nat) : -7000 ≤ pu_evC_f M j ∧ pu_evC_f M j ≤ 100000 := by
  obtain ⟨k1, k2, k3, k4, k5, k6, k7, k8⟩ := pu_sta_ok h
  obtain ⟨Ho, hHo, hx2, hx3, hh, hSn, hT, h14, h7, hL⟩ := pu_I_at h
  have n2 := hT.1.2.2.2.1
  exact pu_sumv_rg (w := 3) h (pu_evC_ok h j) k6 (by omega)
theorem sp_c_waitsByCutQ {M N : nb_M} {k tr : Int} {j : Nat} {v2 : nb_V} (h : pu_I M k) (hq : pu_CQ M N tr) (hj : (j : Int) + 1 < M.1 606 1) (h2 : 2 ≤ M.1 606 4) : nb_W 45 0 [(19, 2), (0, (j : Int)), v2] [] N (fun r' N' => r' = [(0, pu_evC_f M j)] ∧ pu_CQ M N' tr) := by
  obtain ⟨k1, k2, k3, k4, k5, k6, k7, k8⟩ := pu_sta_ok h
  obtain ⟨Ho, hHo, hx2, hx3, hh, hSn, hT, h14, h7, hL⟩ := pu_I_at h
  have hr := hT.1
  have n5 := hr.2.2.2.2.2.2.1
  have n4 := hr.2.2.2.2.2.1
  have n2 := hr.2.2.2.1
  have n1 := hr.2.2.1
  refine w_c_waitsByCut_0 hq.1 hHo (hq.x2 hx2) (by omega) ?_
  refine nb_W.imp (sp_c_asNowQ h hq) ?_
  rintro r' M1 ⟨rfl, q, ⟨e3, e8, e7⟩, hS⟩
  have o := (q.ho hHo hr hh).1
  rw [o.1, e8]
  refine ⟨rfl, q.1, q.x2 hx2, by omega, by omega, ?_⟩
  have qw : pu_CQ M (nb_wr (nb_wr (nb_wr (nb_wr M1 120 3 0) 120 4 j) 122 3 ((j : Int) + 1)) 122 4 (M.1 606 1 - 1)) tr := (((q.cell (by decide) (fun w => nb_n120 (s := 0) (by decide) (by decide))).cell (by decide) (fun w => nb_n120 (s := 0) (by decide) (by decide))).cell (by decide) (fun w => nb_n120 (s := 1) (by decide) (by decide))).cell (by decide) (fun w => nb_n120 (s := 1) (by decide) (by decide))
  have SS : pu_St M (nb_wr (nb_wr (nb_wr (nb_wr M1 120 3 0) 120 4 j) 122 3 ((j : Int) + 1)) 122 4 (M.1 606 1 - 1)) (M.1 606 4) (pu_crc (pu_cra M) j (M.1 606 1 - 1)) (pu_pea M) (pu_sta M) := by
    refine hS.staff n5.2 (fun a x y => ?_) (fun s x y => ?_)
    · rw [nb_wr_b (by omega), nb_wr_b (by omega), nb_wr_b (by omega), nb_wr_b (by omega)]
    · have g := hS.1.2.2.2.2.2 s x y
      rw [show (106 : Int) + 14 + 2 * s = 120 + 2 * s by omega] at g
      obtain ⟨g1, g2, g3, g4, g5, g6, g7, f0, f1⟩ := g
      have eo : ∀ a i, (a ≠ 120 ∨ (i ≠ 3 ∧ i ≠ 4)) → (a ≠ 122 ∨ (i ≠ 3 ∧ i ≠ 4)) → (nb_wr (nb_wr (nb_wr (nb_wr M1 120 3 0) 120 4 j) 122 3 ((j : Int) + 1)) 122 4 (M.1 606 1 - 1)).1 a i = M1.1 a i := fun a i p q => by
        rw [nb_wr_1, if_neg (by omega), nb_wr_1, if_neg (by omega), nb_wr_1, if_neg (by omega), nb_wr_1, if_neg (by omega)]
      have ec : ∀ i, i ≠ 2 → i ≠ 3 → i ≠ 8 → i ≠ 9 → pu_crc (pu_cra M) j (M.1 606 1 - 1) i = pu_cra M i := fun i a b c d => by
        unfold pu_crc
        rw [nb_ud_other d, nb_ud_other c, nb_ud_other b, nb_ud_other a]
      refine ⟨?_, ?_, ?_, ?_, ?_, ?_, ?_, ?_, ?_⟩
      · rw [eo _ _ (by omega) (by omega), ec _ (by omega) (by omega) (by omega) (by omega)]; exact g1
      · rw [eo _ _ (by omega) (by omega)]; exact g2
      · by_cases s0 : s = 0
        · subst s0
          show (nb_wr (nb_wr (nb_wr (nb_wr M1 120 3 0) 120 4 j) 122 3 ((j : Int) + 1)) 122 4 (M.1 606 1 - 1)).1 120 3 = pu_crc (pu_cra M) j (M.1 606 1 - 1) 2
          unfold pu_crc
          rw [nb_wr_1, if_neg (by omega), nb_wr_1, if_neg (by omega), nb_wr_1, if_neg (by omega), nb_wr_1, if_pos ⟨rfl, rfl⟩, nb_ud_other (by omega), nb_ud_other (by omega), nb_ud_other (by omega), nb_ud_same]
        · by_cases s1 : s = 1
          · subst s1
            show (nb_wr (nb_wr (nb_wr (nb_wr M1 120 3 0) 120 4 j) 122 3 ((j : Int) + 1)) 122 4 (M.1 606 1 - 1)).1 122 3 = pu_crc (pu_cra M) j (M.1 606 1 - 1) 8
            unfold pu_crc
            rw [nb_wr_1, if_neg (by omega), nb_wr_1, if_pos ⟨rfl, rfl⟩, nb_ud_other (by omega), nb_ud_same]
          · rw [eo _ _ (by omega) (by omega), ec _ (by omega) (by omega) (by omega) (by omega)]; exact g3
      · by_cases s0 : s = 0
        · subst s0
          show (nb_wr (nb_wr (nb_wr (nb_wr M1 120 3 0) 120 4 j) 122 3 ((j : Int) + 1)) 122 4 (M.1 606 1 - 1)).1 120 4 = pu_crc (pu_cra M) j (M.1 606 1 - 1) 3
          unfold pu_crc
          rw [nb_wr_1, if_neg (by omega), nb_wr_1, if_neg (by omega), nb_wr_1, if_pos ⟨rfl, rfl⟩, nb_ud_other (by omega), nb_ud_other (by omega), nb_ud_same]
        · by_cases s1 : s = 1
          · subst s1
            show (nb_wr (nb_wr (nb_wr (nb_wr M1 120 3 0) 120 4 j) 122 3 ((j : Int) + 1)) 122 4 (M.1 606 1 - 1)).1 122 4 = pu_crc (pu_cra M) j (M.1 606 1 - 1) 9
            unfold pu_crc
            rw [nb_wr_1, if_pos ⟨rfl, rfl⟩, nb_ud_same]
          · rw [eo _ _ (by omega) (by omega), ec _ (by omega) (by omega) (by omega) (by omega)]; exact g4
      · rw [eo _ _ (by omega) (by omega), ec _ (by omega) (by omega) (by omega) (by omega)]; exact g5
      · rw [eo _ _ (by omega) (by omega), ec _ (by omega) (by omega) (by omega) (by omega)]; exact g6
      · rw [eo _ _ (by omega) (by omega)]; exact g7
      · rw [eo _ _ (by omega) (by omega)]; exact f0
      · rw [eo _ _ (by omega) (by omega)]; exact f1
  have ek : ∀ i, (nb_wr (nb_wr (nb_wr (nb_wr M1 120 3 0) 120 4 j) 122 3 ((j : Int) + 1)) 122 4 (M.1 606 1 - 1)).1 106 i = M1.1 106 i := fun i => by
    rw [nb_wr_1, if_neg (by omega), nb_wr_1, if_neg (by omega), nb_wr_1, if_neg (by omega), nb_wr_1, if_neg (by omega)]
  refine nb_W.imp (sp_c_runQ (x := M.1 606 2) h qw (by rw [ek]; exact e3) (by rw [ek]; exact e7) (pu_crc_Rc k5) k6 (by omega) SS k7 (by omega)) ?_
  rintro r' M2 ⟨rfl, q2, f3, f8, S2, -⟩
  exact ⟨rfl, q2.1, q2.x2 hx2, nb_Wp (sp_c_totalQ h q2 f3 (f8.trans (by rw [ek]; exact e8)) (by omega) k6 S2 (by decide)) ⟨_, rfl, q2.1, q2.x2 hx2, fun _ => ⟨rfl, q2⟩⟩⟩
theorem sp_c_bestCutQ {M N : nb_M} {k : Int} {v1 v2 v3 v4 : nb_V} (h : pu_I M k) (hq : pu_CQ M N 0) (h1 : 2 ≤ M.1 606 1) (h2 : 2 ≤ M.1 606 4) : nb_W 44 0 [(19, 2), v1, v2, v3, v4] [] N (fun r' N' => r' = [(0, (pu_bs (pu_evC_f M) 0 1000000 (M.1 606 1 - 1).toNat).1)] ∧ pu_CQ M N' 0) := by
  obtain ⟨Ho, hHo, hx2, hx3, hh, hSn, hT, h14, h7, hL⟩ := pu_I_at h
  have hr := hT.1
  have n1 := hr.2.2.1
  refine w_c_bestCut_0 hq.1 hHo (hq.x2 hx2) ?_
  suffices hl : ∀ (n j : Nat), j + n = (M.1 606 1 - 1).toNat → ∀ (N : nb_M) (v4 : nb_V), pu_CQ M N 0 → nb_W 44 1 [(19, 2), (0, (pu_bs (pu_evC_f M) 0 1000000 j).1), (0, (pu_bs (pu_evC_f M) 0 1000000 j).2), (0, (j : Int)), v4] [] N (fun r' N' => r' = [(0, (pu_bs (pu_evC_f M) 0 1000000 (M.1 606 1 - 1).toNat).1)] ∧ pu_CQ M N' 0) from hl _ 0 (Nat.zero_add _) N v4 hq
  intro n
  induction n with
  | zero =>
    intro j hj N v4 q
    have o := (q.ho hHo hr hh).1
    refine w_c_bestCut_1 q.1 hHo (q.x2 hx2) (by omega) ?_
    rw [o.1]
    refine ⟨by omega, by omega, fun _ _ => ⟨?_, q⟩, fun c => absurd c (by omega)⟩
    rw [show j = (M.1 606 1 - 1).toNat by omega]
  | succ n ih =>
    intro j hj N v4 q
    have o := (q.ho hHo hr hh).1
    refine w_c_bestCut_1 q.1 hHo (q.x2 hx2) (by omega) ?_
    rw [o.1]
    refine ⟨by omega, by omega, fun c => absurd c (by omega), fun _ => ?_⟩
    refine nb_W.imp (sp_c_waitsByCutQ h q (by omega) h2) ?_
    rintro r' N2 ⟨rfl, q2⟩
    refine ⟨_, rfl, q2.1, q2.x2 hx2, fun d => ?_, fun d => ?_⟩
    · have g := ih (j + 1) (by omega) N2 (0, pu_evC_f M j) q2
      rw [pu_bs_lt d] at g
      exact g
    · have g := ih (j + 1) (by omega) N2 (0, pu_evC_f M j) q2
      rw [pu_bs_ge d] at g
      exact g
theorem pu_bs_at {f : Nat → Int} {a b : Int} (h : f 0 < b) : ∀ n : Nat, ∃ j : Nat, j ≤ n ∧ pu_bs f a b (n + 1) = ((j : Int), f j)
  | 0 => ⟨0, Nat.le_refl 0, pu_bs_lt (n := 0) h⟩
  | n + 1 => by
    obtain ⟨j, hj, e⟩ := pu_bs_at (a := a) h n
    by_cases c : f (n + 1) < (pu_bs f a b (n + 1)).2
    · exact ⟨n + 1, Nat.le_refl _, pu_bs_lt c⟩
    · exact ⟨j, by omega, (pu_bs_ge (by omega)).trans e⟩
theorem sp_m_cutWhyQ {M N : nb_M} {v1 v2 : nb_V} (hf : pu_RF M) (hq : pu_MM M N (M.1 608) (M.1 612)) (e14 : N.1 603 14 = 1) (h1 : 2 ≤ M.1 606 1) (h2 : 2 ≤ M.1 606 4) (hE : ∀ j : Int, pu_Rw (pu_evC M j)) (hrg : pu_evC_f M 0 < 1000000) : nb_W 172 0 [(20, 603), v1, v2] [] N (fun r' N' => r' = [(0, 0)] ∧ pu_MM M N' (M.1 608) (M.1 612) ∧ N'.1 603 27 = (pu_bs (pu_evC_f M) 0 1000000 (M.1 606 1 - 1).toNat).1 ∧ N'.1 603 28 = (pu_bs (pu_evC_f M) 0 1000000 (M.1 606 1 - 1).toNat).2) := by
  obtain ⟨hr, hc, hP, hS, hk⟩ := hf
  have n4 := hr.2.2.2.2.2.1
  have n2 := hr.2.2.2.1
  have n1 := hr.2.2.1
  refine w_m_cutWhy_0 hq.1 ?_
  rw [e14, hq.r]
  refine ⟨by decide, by decide, fun c => absurd c (by decide), fun _ => ⟨by omega, by omega, fun c => absurd c (by omega), fun _ => ⟨by omega, by omega, fun c => absurd c (by omega), fun _ => ?_⟩⟩⟩
  have q1 := hq.fld (i := 28) (v := 1000000) (by omega)
  suffices hl : ∀ (n j : Nat), j + n = (M.1 606 1 - 1).toNat → ∀ (N1 : nb_M) (v2 : nb_V), pu_MM M N1 (M.1 608) (M.1 612) → N1.1 603 27 = (pu_bs (pu_evC_f M) (N.1 603 27) 1000000 j).1 → N1.1 603 28 = (pu_bs (pu_evC_f M) (N.1 603 27) 1000000 j).2 → nb_W 172 7 [(20, 603), (0, (j : Int)), v2] [] N1 (fun r' N' => r' = [(0, 0)] ∧ pu_MM M N' (M.1 608) (M.1 612) ∧ N'.1 603 27 = (pu_bs (pu_evC_f M) (N.1 603 27) 1000000 (M.1 606 1 - 1).toNat).1 ∧ N'.1 603 28 = (pu_bs (pu_evC_f M) (N.1 603 27) 1000000 (M.1 606 1 - 1).toNat).2) by
    refine nb_W.imp (hl _ 0 (Nat.zero_add _) _ v2 q1 (by rw [nb_wr_1, if_neg (by omega)]; rfl) (by rw [nb_wr_1, if_pos ⟨rfl, rfl⟩]; rfl)) ?_
    rintro r' N' ⟨e0, a, b, c⟩
    obtain ⟨m, hm⟩ : ∃ m : Nat, (M.1 606 1 - 1).toNat = m + 1 := ⟨(M.1 606 1 - 2).toNat, by omega⟩
    rw [hm, pu_bs_start (a := N.1 603 27) (b := 1000000) (a' := 0) (b' := 1000000) hrg hrg m, ← hm] at b c
    exact ⟨e0, a, b, c⟩
  intro n
  induction n with
  | zero =>
    intro j hj N1 v2 q e27 e28
    refine w_m_cutWhy_7 q.1 (by omega) ?_
    rw [q.r]
    refine ⟨by omega, by omega, fun c => absurd c (by omega), fun _ _ => ⟨rfl, q, ?_, ?_⟩⟩
    · rw [e27, show j = (M.1 606 1 - 1).toNat by omega]
    · rw [e28, show j = (M.1 606 1 - 1).toNat by omega]
  | succ n ih =>
    intro j hj N1 v2 q e27 e28
    refine w_m_cutWhy_7 q.1 (by omega) ?_
    rw [q.r]
    refine ⟨by omega, by omega, fun _ => ?_, fun c => absurd c (by omega)⟩
    refine nb_W.imp (sp_m_asToldQ q) ?_
    rintro r' N2 ⟨rfl, q2, e25, eo, e12, e13, -⟩
    rw [q2.r]
    refine ⟨rfl, q2.1, by omega, by omega, ?_⟩
    have q3 := ((((q2.fld (i := 26) (v := M.1 606 2) (by omega)).crew (i := 2) (v := 0) (by decide)).crew (i := 3) (v := j) (by decide)).crew (i := 8) (v := (j : Int) + 1) (by decide)).crew (i := 9) (v := M.1 606 1 - 1) (by decide)
    refine nb_W.imp (sp_m_eveningQ (ns := M.1 606 4) (bell := M.1 606 2) (cr := pu_crc (pu_cra M) j (M.1 606 1 - 1)) (pe := pu_pea M) q3 hr (pu_crc_Rc hc) hP hS hk ?_ ?_ ?_ ?_ (by omega) (by omega)) ?_
    · rw [nb_wr_b (by decide), nb_wr_b (by decide), nb_wr_b (by decide), nb_wr_b (by decide), nb_wr_1, if_neg (by omega)]; exact e25
    · rw [nb_wr_b (by decide), nb_wr_b (by decide), nb_wr_b (by decide), nb_wr_b (by decide), nb_wr_1, if_pos ⟨rfl, rfl⟩]
    · rw [nb_wr_a, nb_wr_a, nb_wr_a, nb_wr_a, nb_wr_b (by decide), e12]
      rfl
    · rw [nb_wr_b (by decide), nb_wr_b (by decide), nb_wr_b (by decide), nb_wr_b (by decide), nb_wr_b (by decide)]; exact e13
    rintro r' N3 ⟨rfl, q4, e9, eo3⟩
    have f3 : ∀ i, i ≠ 26 → N3.1 603 i = N2.1 603 i := fun i hi => by
      rw [eo3 603 (by decide), nb_wr_b (by decide), nb_wr_b (by decide), nb_wr_b (by decide), nb_wr_b (by decide), nb_wr_1, if_neg (by omega)]
    have f26 : N3.1 603 26 = M.1 606 2 := by
      rw [eo3 603 (by decide), nb_wr_b (by decide), nb_wr_b (by decide), nb_wr_b (by decide), nb_wr_b (by decide), nb_wr_1, if_pos ⟨rfl, rfl⟩]
    have f13 : N3.1 613 = pu_pea M := by
      rw [eo3 613 (by decide), nb_wr_b (by decide), nb_wr_b (by decide), nb_wr_b (by decide), nb_wr_b (by decide), nb_wr_b (by decide)]; exact e13
    have g27 : N3.1 603 27 = (pu_bs (pu_evC_f M) (N.1 603 27) 1000000 j).1 := by
      rw [f3 27 (by decide), eo 27 (by decide)]; exact e27
    have g28 : N3.1 603 28 = (pu_bs (pu_evC_f M) (N.1 603 27) 1000000 j).2 := by
      rw [f3 28 (by decide), eo 28 (by decide)]; exact e28
    refine ⟨rfl, q4.1, nb_Wp (sp_m_sumOfQ (bell := M.1 606 2) q4 hr hP (hE j) e9 f13 f26 (by omega)) ⟨pu_evC_f M j, rfl, q4.1, ?_⟩⟩
    rw [g28]
    refine ⟨fun d => ?_, fun d => ?_⟩
    · refine ih (j + 1) (by omega) _ _ ((q4.fld (by omega)).fld (by omega)) ?_ ?_
      · rw [pu_bs_lt d, nb_wr_1, if_pos ⟨rfl, rfl⟩]
      · rw [pu_bs_lt d, nb_wr_1, if_neg (by omega), nb_wr_1, if_pos ⟨rfl, rfl⟩]
    · refine ih (j + 1) (by omega) _ _ q4 ?_ ?_
      · rw [pu_bs_ge d]; exact g27
      · rw [pu_bs_ge d]; exact g28
theorem pu_evC_CQ {M M1 : nb_M} {k tr : Int} (h : pu_I M k) (hq : pu_CQ M M1 tr) : pu_evC_f M1 = pu_evC_f M ∧ ∀ j, pu_evC M1 j = pu_evC M j := by
  obtain ⟨b3, b6, b8, b9, b12, b13, h7', c1, c2, c3⟩ := pu_CQ_ref h hq
  have e : ∀ j, pu_evC M1 j = pu_evC M j := fun j => by
    unfold pu_evC
    rw [b6, c1, c2, c3]
  refine ⟨funext fun j => ?_, e⟩
  unfold pu_evC_f
  rw [e, c2, b6]
theorem pu_cut_same {M : nb_M} {k : Int} (h : pu_I M k) (h1 : 2 ≤ M.1 606 1) : pu_bs (pu_evC_f M) 0 1000000 (M.1 606 1 - 1).toNat = pu_bs (pu_evC_f M) 0 1000000 (M.1 606 1 - 1).toNat ∧ ∃ j : Nat, (j : Int) + 1 < M.1 606 1 ∧ pu_bs (pu_evC_f M) 0 1000000 (M.1 606 1 - 1).toNat = ((j : Int), pu_evC_f M j) := by
  have g := pu_evC_rg h 0
  obtain ⟨m, hm⟩ : ∃ m : Nat, (M.1 606 1 - 1).toNat = m + 1 := ⟨(M.1 606 1 - 2).toNat, by omega⟩
  rw [hm]
  refine ⟨pu_bs_start (by omega) (by omega) m, ?_⟩
  obtain ⟨j, hj, e⟩ := pu_bs_at (f := pu_evC_f M) (a := 0) (b := 1000000) (by omega) m
  exact ⟨j, by omega, e⟩
theorem pa_cut : pu_pair 41 [(19, 2)] 173 [(20, 603), (98, 0)] := by
  apply pu_pair_q
  intro M k hI hk0 hk1
  obtain ⟨Ho, hHo, hx2, hx3, hh, hSn, hT, -, h7, hL⟩ := pu_I_at hI
  have hr := hT.1
  have n5 := hr.2.2.2.2.2.2.1
  have n4 := hr.2.2.2.2.2.1
  have n1 := hr.2.2.1
  have h14 := pu_house hI
  have o := hh.1
  by_cases c : M.1 606 5 = 0
  case pos =>
    refine ⟨-1, 1, fun h => absurd h (by decide), ?_, fun M1 hq => ?_⟩
    · refine w_c_cut_0 hL hHo hx2 ?_
      rw [o.2.2.2.2.1, o.2.2.2.1, o.1]
      repeat' (first | assumption | with_reducible apply And.intro | intro _)
      all_goals (first | omega | (exfalso; omega) | rfl | exact pu_CQ_g hL | exact pu_CQ.tr (pu_CQ_g hL) | exact pu_CQ.tr (pu_CQ.tr (pu_CQ_g hL)))
    · obtain ⟨b3, b6, b8, b9, b12, b13, h7', -⟩ := pu_CQ_ref hI hq
      have q := pu_MM_g hq.1
      refine w_m_cut_0 hq.1 ?_
      refine w_m_cutWhy_0 q.1 ?_
      rw [q.r, b6, show (nb_wr (nb_wr M1 603 0 0) 603 11 0).1 603 14 = M.1 603 14 by rw [nb_wr_1, if_neg (by omega), nb_wr_1, if_neg (by omega), b3]]
      refine ⟨by omega, by omega, fun _ _ => ⟨_, rfl, q.1, fun z => absurd z (by decide), fun _ hL' => ⟨rfl, pu_MQ_no h7' hL'⟩⟩, fun z => absurd z (by omega)⟩
  by_cases d : 2 ≤ M.1 606 4 ∧ 2 ≤ M.1 606 1
  case neg =>
    refine ⟨-1, 5, fun h => absurd h (by decide), ?_, fun M1 hq => ?_⟩
    · refine w_c_cut_0 hL hHo hx2 ?_
      rw [o.2.2.2.2.1, o.2.2.2.1, o.1]
      repeat' (first | assumption | with_reducible apply And.intro | intro _)
      all_goals (first | omega | (exfalso; omega) | rfl | exact pu_CQ_g hL | exact pu_CQ.tr (pu_CQ_g hL) | exact pu_CQ.tr (pu_CQ.tr (pu_CQ_g hL)))
    · obtain ⟨b3, b6, b8, b9, b12, b13, h7', -⟩ := pu_CQ_ref hI hq
      have q := pu_MM_g hq.1
      refine w_m_cut_0 hq.1 ?_
      refine w_m_cutWhy_0 q.1 ?_
      rw [q.r, b6, show (nb_wr (nb_wr M1 603 0 0) 603 11 0).1 603 14 = M.1 603 14 by rw [nb_wr_1, if_neg (by omega), nb_wr_1, if_neg (by omega), b3]]
      refine ⟨by omega, by omega, fun z => absurd z (by omega), fun _ => ⟨by omega, by omega, fun _ _ => ⟨_, rfl, q.1, fun z => absurd z (by decide), fun _ hL' => ⟨rfl, pu_MQ_no h7' hL'⟩⟩, fun _ => ⟨by omega, by omega, fun _ _ => ⟨_, rfl, q.1, fun z => absurd z (by decide), fun _ hL' => ⟨rfl, pu_MQ_no h7' hL'⟩⟩, fun z => absurd z (by omega)⟩⟩⟩
  obtain ⟨ec, j, hj, ej⟩ := pu_cut_same hI d.2
  have hrg := pu_evC_rg hI 0
  refine ⟨(j : Int), 0, fun h => absurd h (by decide), ?_, fun M1 hq => ?_⟩
  · refine w_c_cut_0 hL hHo hx2 ?_
    rw [o.2.2.2.2.1, o.2.2.2.1, o.1]
    repeat' (first | assumption | with_reducible apply And.intro | intro _)
    all_goals try (first | omega | (exfalso; omega))
    refine nb_W.imp (sp_c_bestCutQ hI ((pu_CQ_g hL).tr) d.2 d.1) ?_
    rintro r' N' ⟨rfl, q⟩
    rw [ej]
    exact ⟨_, rfl, q.1, q.x2 hx2, fun _ => ⟨rfl, q⟩⟩
  · obtain ⟨b3, b6, b8, b9, b12, b13, h7', c1, c2, c3⟩ := pu_CQ_ref hI hq
    obtain ⟨g1, g2⟩ := pu_evC_CQ hI hq
    refine w_m_cut_0 hq.1 ?_
    refine nb_W.imp (sp_m_cutWhyQ (pu_RF_of hI hq) (pu_MM_g hq.1) (by rw [nb_wr_1, if_neg (by omega), nb_wr_1, if_neg (by omega), b3]; omega) (by rw [b6]; exact d.2) (by rw [b6]; exact d.1) (fun j => by rw [g2]; exact pu_evC_ok hI j) (by rw [g1]; omega)) ?_
    rintro r' N' ⟨rfl, q, e27, e28⟩
    rw [g1, b6, ← ec, ej] at e27 e28
    refine ⟨_, rfl, q.1, fun _ _ => ⟨?_, q.mq h7'⟩, fun z => absurd rfl z⟩
    rw [e27]
theorem pa_cutWaits : pu_pair 42 [(19, 2)] 174 [(20, 603), (98, 0)] := by
  apply pu_pair_q
  intro M k hI hk0 hk1
  obtain ⟨Ho, hHo, hx2, hx3, hh, hSn, hT, -, h7, hL⟩ := pu_I_at hI
  have hr := hT.1
  have n5 := hr.2.2.2.2.2.2.1
  have n4 := hr.2.2.2.2.2.1
  have n1 := hr.2.2.1
  have h14 := pu_house hI
  have o := hh.1
  by_cases c : M.1 606 5 = 0
  case pos =>
    refine ⟨-1, 1, fun h => absurd h (by decide), ?_, fun M1 hq => ?_⟩
    · refine w_c_cutWaits_0 hL hHo hx2 ?_
      rw [o.2.2.2.2.1, o.2.2.2.1, o.1]
      repeat' (first | assumption | with_reducible apply And.intro | intro _)
      all_goals (first | omega | (exfalso; omega) | rfl | exact pu_CQ_g hL | exact pu_CQ.tr (pu_CQ_g hL) | exact pu_CQ.tr (pu_CQ.tr (pu_CQ_g hL)))
    · obtain ⟨b3, b6, b8, b9, b12, b13, h7', -⟩ := pu_CQ_ref hI hq
      have q := pu_MM_g hq.1
      refine w_m_cutWaits_0 hq.1 ?_
      refine w_m_cutWhy_0 q.1 ?_
      rw [q.r, b6, show (nb_wr (nb_wr M1 603 0 0) 603 11 0).1 603 14 = M.1 603 14 by rw [nb_wr_1, if_neg (by omega), nb_wr_1, if_neg (by omega), b3]]
      refine ⟨by omega, by omega, fun _ _ => ⟨_, rfl, q.1, fun z => absurd z (by decide), fun _ hL' => ⟨rfl, pu_MQ_no h7' hL'⟩⟩, fun z => absurd z (by omega)⟩
  by_cases d : 2 ≤ M.1 606 4 ∧ 2 ≤ M.1 606 1
  case neg =>
    refine ⟨-1, 5, fun h => absurd h (by decide), ?_, fun M1 hq => ?_⟩
    · refine w_c_cutWaits_0 hL hHo hx2 ?_
      rw [o.2.2.2.2.1, o.2.2.2.1, o.1]
      repeat' (first | assumption | with_reducible apply And.intro | intro _)
      all_goals (first | omega | (exfalso; omega) | rfl | exact pu_CQ_g hL | exact pu_CQ.tr (pu_CQ_g hL) | exact pu_CQ.tr (pu_CQ.tr (pu_CQ_g hL)))
    · obtain ⟨b3, b6, b8, b9, b12, b13, h7', -⟩ := pu_CQ_ref hI hq
      have q := pu_MM_g hq.1
      refine w_m_cutWaits_0 hq.1 ?_
      refine w_m_cutWhy_0 q.1 ?_
      rw [q.r, b6, show (nb_wr (nb_wr M1 603 0 0) 603 11 0).1 603 14 = M.1 603 14 by rw [nb_wr_1, if_neg (by omega), nb_wr_1, if_neg (by omega), b3]]
      refine ⟨by omega, by omega, fun z => absurd z (by omega), fun _ => ⟨by omega, by omega, fun _ _ => ⟨_, rfl, q.1, fun z => absurd z (by decide), fun _ hL' => ⟨rfl, pu_MQ_no h7' hL'⟩⟩, fun _ => ⟨by omega, by omega, fun _ _ => ⟨_, rfl, q.1, fun z => absurd z (by decide), fun _ hL' => ⟨rfl, pu_MQ_no h7' hL'⟩⟩, fun z => absurd z (by omega)⟩⟩⟩
  obtain ⟨ec, j, hj, ej⟩ := pu_cut_same hI d.2
  have hrg := pu_evC_rg hI 0
  refine ⟨pu_evC_f M j, 0, fun h => absurd h (by decide), ?_, fun M1 hq => ?_⟩
  · refine w_c_cutWaits_0 hL hHo hx2 ?_
    rw [o.2.2.2.2.1, o.2.2.2.1, o.1]
    repeat' (first | assumption | with_reducible apply And.intro | intro _)
    all_goals try (first | omega | (exfalso; omega))
    refine nb_W.imp (sp_c_bestCutQ hI ((pu_CQ_g hL).tr) d.2 d.1) ?_
    rintro r' N' ⟨rfl, q⟩
    rw [ej]
    refine ⟨_, rfl, q.1, q.x2 hx2, nb_W.imp (sp_c_waitsByCutQ hI q hj d.1) ?_⟩
    rintro r' N2 ⟨rfl, q2⟩
    exact ⟨_, rfl, q2.1, q2.x2 hx2, fun _ => ⟨rfl, q2⟩⟩
  · obtain ⟨b3, b6, b8, b9, b12, b13, h7', c1, c2, c3⟩ := pu_CQ_ref hI hq
    obtain ⟨g1, g2⟩ := pu_evC_CQ hI hq
    refine w_m_cutWaits_0 hq.1 ?_
    refine nb_W.imp (sp_m_cutWhyQ (pu_RF_of hI hq) (pu_MM_g hq.1) (by rw [nb_wr_1, if_neg (by omega), nb_wr_1, if_neg (by omega), b3]; omega) (by rw [b6]; exact d.2) (by rw [b6]; exact d.1) (fun j => by rw [g2]; exact pu_evC_ok hI j) (by rw [g1]; omega)) ?_
    rintro r' N' ⟨rfl, q, e27, e28⟩
    rw [g1, b6, ← ec, ej] at e27 e28
    refine ⟨_, rfl, q.1, fun _ _ => ⟨?_, q.mq h7'⟩, fun z => absurd rfl z⟩
    rw [e28]
