/-! CALLS: pass, undo, image, back -/
theorem pu_bgs_says {r cr pe : Int → Int} {np t s h q : Int} (hr : pu_Rr r) (hc : pu_Rc cr) (hnp : 0 ≤ np ∧ np ≤ 10) (hs : 0 ≤ s ∧ s ≤ 3) (hh : 1 ≤ h ∧ h ≤ 2) (ht : 0 ≤ t ∧ t ≤ 9999) (hq : 0 ≤ q ∧ q ≤ 9) : ∀ (n : Nat) (R : Int → Int), pu_Rw R → pu_Rk R → pu_bgs r cr pe np t s h n R (12 + 8 * q + 3) = R (12 + 8 * q + 3)
  | 0, R, hR, hk => rfl
  | n + 1, R, hR, hk => by
    unfold pu_bgs
    split
    · rfl
    · rename_i hx
      rcases pu_nf_rg (cr := cr) (pe := pe) (R := R) (s := s) hnp with h | ⟨h0, h9, hn, hw⟩
      · exact absurd h hx
      · obtain ⟨k1, k2, k3⟩ := pu_bg_rk (r := r) (cr := cr) (t := t) hs hh ⟨h0, h9⟩ hw hR hk
        have k4 := pu_bg_rw (h := h) hr hc hR hs hh ⟨h0, h9⟩ ht k3
        have k5 : pu_bg r cr t s h (pu_nf np cr pe R s) R (12 + 8 * q + 3) = R (12 + 8 * q + 3) := by
          have := hR.2.2.2.1
          unfold pu_bg
          rw [nb_ud_other (by omega), nb_ud_other (by omega), nb_ud_other (by omega), nb_ud_other (by omega), nb_ud_other (by omega), nb_ud_other (by omega), nb_ud_other (by omega), nb_ud_other (by omega), nb_ud_other (by omega)]
        split
        · exact (pu_bgs_says hr hc hnp hs hh ht hq n _ k4 k1).trans k5
        · exact k5
theorem pu_sh_says {r cr pe : Int → Int} {np t s q : Int} (hr : pu_Rr r) (hc : pu_Rc cr) (hnp : 0 ≤ np ∧ np ≤ 10) (hs : 0 ≤ s ∧ s ≤ 3) (ht : 0 ≤ t ∧ t ≤ 9999) (hq : 0 ≤ q ∧ q ≤ 9) {R : Int → Int} (hR : pu_Rw R) (hk : pu_Rk R) : ∀ (n : Nat), n ≤ 2 → pu_sh r cr pe np t s n R (12 + 8 * q + 3) = R (12 + 8 * q + 3)
  | 0, _ => rfl
  | n + 1, h => by
    obtain ⟨h1, h2, h3⟩ := pu_sh_ok (pe := pe) hr hc hnp hs ht hR hk n (by omega)
    have ih := pu_sh_says (pe := pe) hr hc hnp hs ht hq hR hk n (by omega)
    unfold pu_sh
    split
    · exact (pu_bgs_says (pe := pe) hr hc hnp hs (h := (n : Int) + 1) (by omega) ht hq 10 _ h1 h2).trans ih
    · exact ih
theorem pu_ss_says {r cr pe : Int → Int} {np t q : Int} (hr : pu_Rr r) (hc : pu_Rc cr) (hnp : 0 ≤ np ∧ np ≤ 10) (ht : 0 ≤ t ∧ t ≤ 9999) (hq : 0 ≤ q ∧ q ≤ 9) {R : Int → Int} (hR : pu_Rw R) (hk : pu_Rk R) : ∀ (n : Nat), n ≤ 4 → pu_ss r cr pe np t n R (12 + 8 * q + 3) = R (12 + 8 * q + 3)
  | 0, _ => rfl
  | n + 1, h => by
    obtain ⟨h1, h2, h3⟩ := pu_ss_ok (pe := pe) hr hc hnp ht hR hk n (by omega)
    have ih := pu_ss_says (pe := pe) hr hc hnp ht hq hR hk n (by omega)
    have h4 := (hc n (by omega) (by omega)).2.2
    exact (pu_sh_says (pe := pe) hr hc hnp (s := n) (by omega) ht hq h1 h2 (cr (6 * n + 5)).toNat (by omega)).trans ih
theorem pu_cms_says {pe R : Int → Int} {t q : Int} (hq : 0 ≤ q ∧ q ≤ 9) : ∀ n : Nat, n ≤ 10 → pu_cms pe t R n (12 + 8 * q + 3) = R (12 + 8 * q + 3)
  | 0, _ => rfl
  | n + 1, h => by
    have ih := pu_cms_says (pe := pe) (R := R) (t := t) hq n (by omega)
    refine Eq.trans ?_ ih
    show pu_cm pe t n (pu_cms pe t R n) (12 + 8 * q + 3) = _
    by_cases e : q = n
    · subst e
      exact pu_cm_man.2.2.1
    · exact pu_cm_other (by omega) hq.1 (by decide) e
theorem pu_secs_says {r cr pe : Int → Int} {ns q : Int} (hr : pu_Rr r) (hc : pu_Rc cr) (hns : 0 ≤ ns ∧ ns ≤ 4) (hq : 0 ≤ q ∧ q ≤ 9) {R : Int → Int} (hR : pu_Rw R) (hk : pu_Rk R) : ∀ n : Nat, R 0 + n ≤ 9999 → pu_secs r cr pe ns n R (12 + 8 * q + 3) = R (12 + 8 * q + 3)
  | 0, _ => rfl
  | n + 1, h => by
    obtain ⟨h1, h2, h3⟩ := pu_secs_ok (pe := pe) hr hc hns hR hk n (by omega)
    have ih := pu_secs_says (pe := pe) hr hc hns hq hR hk n (by omega)
    have ht := h1.2.2.1
    have hnp := hr.2.2.2.2.2.2.1
    have ht' : 0 ≤ pu_secs r cr pe ns n R 0 ∧ pu_secs r cr pe ns n R 0 ≤ 9999 := by omega
    obtain ⟨g1, g2, g3⟩ := pu_cms_ok (pe := pe) (t := pu_secs r cr pe ns n R 0) ht' h1 h2 (r 5).toNat (by omega)
    show pu_sec r cr pe ns (pu_secs r cr pe ns n R) (12 + 8 * q + 3) = _
    unfold pu_sec
    rw [nb_ud_other (by omega), pu_ss_says (pe := pe) hr hc hnp ht' hq g1 g2 ns.toNat (by omega), pu_cms_says hq _ (by omega), ih]
theorem pa_pass (n : Int) : pu_pair 64 [(19, 2), (0, n)] 201 [(20, 603), (0, n), (98, 0)] := by
  apply pu_pair_a
  intro M k hI hk0 hk1
  obtain ⟨Ho, hHo, hx2, hx3, hh, hSn, hT, -, h7, hL⟩ := pu_I_at hI
  obtain ⟨k1, k2, k3, k4, k5, k6, k7, k8⟩ := pu_sta_ok hI
  have hr := hT.1
  have n5 := hr.2.2.2.2.2.2.1
  have n4 := hr.2.2.2.2.2.1
  have n2 := hr.2.2.2.1
  have h14 := pu_house hI
  have o := hh.1
  have hU := hI.2.2.2.1
  obtain ⟨Ho', So', -, ⟨hU, -⟩, -⟩ := hU
  have u7 : M.1 84 7 = M.1 608 0 := hSn.2.2.2.2.1
  have q0 := k3.2.2.1
  have q1 : M.1 608 0 ≤ M.1 606 2 + 1 := hSn.2.2.2.2.2.2.1
  by_cases c : M.1 606 5 = 0
  case pos =>
    refine Or.inl ⟨-1, 1, fun h => absurd h (by decide), ?_, fun M1 hq => ?_⟩
    · refine w_c_pass_0 hL hHo hx2 ?_
      rw [o.2.2.2.2.1, o.2.1, u7]
      repeat' (first | assumption | with_reducible apply And.intro | intro _)
      all_goals (first | omega | (exfalso; omega) | rfl | exact pu_CQ_g hL | exact pu_CQ.tr (pu_CQ_g hL) | exact pu_CQ.tr (pu_CQ.tr (pu_CQ_g hL)))
    · obtain ⟨b3, b6, b8, b9, b12, b13, h7', -⟩ := pu_CQ_ref hI hq
      refine w_m_pass_0 hq.1 ?_
      rw [b3, b6, b8]
      repeat' (first | assumption | with_reducible apply And.intro | intro _)
      all_goals (first | omega | (exfalso; omega) | rfl | exact pu_MQ_no h7' (by assumption))
  by_cases d : 1 ≤ n ∧ n ≤ 200
  case neg =>
    refine Or.inl ⟨-1, 2, fun h => absurd h (by decide), ?_, fun M1 hq => ?_⟩
    · refine w_c_pass_0 hL hHo hx2 ?_
      rw [o.2.2.2.2.1, o.2.1, u7]
      repeat' (first | assumption | with_reducible apply And.intro | intro _)
      all_goals (first | omega | (exfalso; omega) | rfl | exact pu_CQ_g hL | exact pu_CQ.tr (pu_CQ_g hL) | exact pu_CQ.tr (pu_CQ.tr (pu_CQ_g hL)))
    · obtain ⟨b3, b6, b8, b9, b12, b13, h7', -⟩ := pu_CQ_ref hI hq
      refine w_m_pass_0 hq.1 ?_
      rw [b3, b6, b8]
      repeat' (first | assumption | with_reducible apply And.intro | intro _)
      all_goals (first | omega | (exfalso; omega) | rfl | exact pu_MQ_no h7' (by assumption))
  by_cases e : M.1 608 0 + n ≤ M.1 606 2 + 1
  case neg =>
    refine Or.inl ⟨-1, 3, fun h => absurd h (by decide), ?_, fun M1 hq => ?_⟩
    · refine w_c_pass_0 hL hHo hx2 ?_
      rw [o.2.2.2.2.1, o.2.1, u7]
      repeat' (first | assumption | with_reducible apply And.intro | intro _)
      all_goals (first | omega | (exfalso; omega) | rfl | exact pu_CQ_g hL | exact pu_CQ.tr (pu_CQ_g hL) | exact pu_CQ.tr (pu_CQ.tr (pu_CQ_g hL)))
    · obtain ⟨b3, b6, b8, b9, b12, b13, h7', -⟩ := pu_CQ_ref hI hq
      refine w_m_pass_0 hq.1 ?_
      rw [b3, b6, b8]
      repeat' (first | assumption | with_reducible apply And.intro | intro _)
      all_goals (first | omega | (exfalso; omega) | rfl | exact pu_MQ_no h7' (by assumption))
  have hop : 1 ≤ M.1 606 5 := by omega
  obtain ⟨kb1, kb2, kb3⟩ := pu_kB_rg (U := M.1 603 21) (O := M.1 2 8)
  refine Or.inr ⟨M.1 608 0 + n, ?_⟩
  have hq0 : pu_CQ M (nb_wr (nb_wr (nb_wr M 2 15 0) 2 15 0) 2 15 0) 0 := ((pu_CQ_g hL).tr).tr
  refine w_c_pass_0 hL hHo hx2 ?_
  rw [o.2.2.2.2.1, o.2.1, u7]
  repeat' (first | assumption | with_reducible apply And.intro | intro _)
  all_goals try (first | omega | (exfalso; omega))
  refine nb_W.imp (sp_c_keep hI hx2 hq0) ?_
  rintro r' N ⟨rfl, cf, c15, c9, c8, c11, sB, s84⟩
  have v7 : N.1 84 7 = M.1 608 0 := s84.2.2.2.2.1
  rw [v7]
  refine ⟨rfl, cf.1, cf.x2 hx2, by omega, by omega, by omega, by omega, ?_⟩
  -- the run, in the words of what is left from calls before
  have hhN : pu_Ho N Ho (M.1 606) := pu_Ho_congr hh hr (fun a i p q => by
    unfold nb_hs at hHo
    exact cf.2.2.2 a i (by omega) (by omega) (by omega))
  have e84 : N.1 84 3 = Ho := s84.2.2.2.1
  obtain ⟨b1, b2, b3⟩ := pu_Sn_as (R' := M.1 608) hT s84 (fun _ _ _ => rfl)
  refine nb_W.imp (sp_sc_runTo (np := M.1 606 5) (ns := M.1 606 4) (last := M.1 608 0 + n - 1) (cr := pu_cra M) (pe := pu_pea M) (R := M.1 608) cf.1 nb_sc84 hHo e84 hr hhN k5 k6 rfl (by omega) (by omega) v7 b1 b2 b3 k7) ?_
  rintro r' N2 ⟨rfl, d1, d2, d3, d4, d5, d6, d7, d8⟩
  have hn : (M.1 608 0 + n - 1 + 1 - M.1 608 0).toNat = n.toNat := by omega
  rw [hn] at d4 d5 d6 d7 d8
  obtain ⟨g1, g2, g3⟩ := pu_secs_ok (pe := pu_pea M) (ns := M.1 606 4) hr k5 (by omega) k3 k4 n.toNat (by omega)
  have hfr : pu_fr N N2 84 := ⟨d1, d2, fun a i p => d3 a i (by omega)⟩
  have cf2 := cf.fr84 hfr
  have vv : N2.1 84 7 = M.1 608 0 + n := by
    rw [d7, g3]
    omega
  rw [vv]
  refine ⟨rfl, d1, cf2.x2 hx2, fun _ => ⟨rfl, ⟨d1, cf2.sm (by have := (pu_kB_rg (U := M.1 603 21) (O := M.1 2 8)).1; omega)⟩, ?_⟩⟩
  have s84' : pu_Sn N2 84 Ho (M.1 606) (pu_secs (M.1 606) (pu_cra M) (pu_pea M) (M.1 606 4) n.toNat (M.1 608)) (k + 1) := by
    have r1 := d6.1.2.2.2.1
    have hw := d6.2.2.1.2
    refine ⟨pu_S_congr n5.2 (by omega) r1 (fun i a b => (pu_cra_eq M a (by omega)).symm) (fun i a b => (pu_pea_eq M a b).symm) (fun _ _ _ => rfl) d4, pu_X_congr n5.2 r1 (fun j a b => ⟨(hw j a b).1, (hw j a b).2.1⟩) (fun i a b => (pu_pea_eq M a b).symm) (fun _ _ _ => rfl) d5, pu_Ib_congr n5.2 (by omega) (fun i a b => (pu_pea_eq M a b).symm) (fun _ _ _ => rfl) d6, ?_, d7, ?_, ?_, fun p x y => ?_⟩
    · rw [d3 84 3 (by decide)]; exact e84
    · rw [d3 84 8 (by decide)]; exact s84.2.2.2.2.2.1
    · rw [g3]; omega
    · rw [pu_secs_says hr k5 (by omega) ⟨x, y⟩ k3 k4 _ (by omega)]
      have := s84.2.2.2.2.2.2.2 p x y
      omega
  have b3' := cf2.row (a := 603) (by omega) (by decide)
  have b6' := cf2.row (a := 606) (by omega) (by decide)
  have b8' := cf2.row (a := 608) (by omega) (by decide)
  have b12' := cf2.row (a := 612) (by omega) (by decide)
  have h7' : pu_I7 N2 := by
    unfold pu_I7
    rw [b12']
    exact h7
  clear d4 d5 d6 d7 d8 b1 b2 b3
  refine w_m_pass_0 d1 ?_
  rw [b3', b6', b8']
  repeat' (first | assumption | with_reducible apply And.intro | intro _)
  all_goals try (first | omega | (exfalso; omega))
  refine nb_W.imp (sp_m_noteQ (U := M.1 603 21) d1 (by rw [b3']) hU h7') ?_
  rintro r' N3 ⟨rfl, mf, m11, m21, m22, m8, m611, ur, ea⟩
  rw [b8'] at m8
  refine ⟨rfl, mf.1, ?_⟩
  have m6 : N3.1 606 = M.1 606 := (mf.2.2.2.1 606 (by decide) (by decide) (by decide) (by decide) (by decide) (by decide)).trans b6'
  have q3 : pu_MM N3 N3 (M.1 608) (N3.1 612) := ⟨mf.1, rfl, m8, m11, fun _ _ _ _ _ => rfl, fun _ _ _ _ _ _ _ _ => rfl, fun _ _ => rfl, fun _ _ => rfl, fun _ _ => rfl⟩
  refine nb_W.imp (sp_m_asToldQ q3) ?_
  rintro r' N4 ⟨rfl, q4, f25, fo, f12, f13, -⟩
  refine ⟨rfl, q4.1, ?_⟩
  rw [m6] at f25
  have e12 : N3.1 612 = M.1 612 := (ea 612 (by decide) (by decide)).trans b12'
  have e13 : N3.1 613 = M.1 613 := (ea 613 (by decide) (by decide)).trans (cf2.row (by omega) (by decide))
  have cN : pu_cpy (N3.1 606) (N3.1 612) 23 0 18 = pu_cra M := by
    unfold pu_cra
    rw [m6, e12]
  have pN : pu_pea N3 = pu_pea M := by
    unfold pu_pea
    rw [m6, e13]
  rw [cN] at f12
  rw [pN] at f13
  suffices hl : ∀ (m j : Nat), (j : Int) + m = n → ∀ N, pu_MM N3 N (pu_secs (M.1 606) (pu_cra M) (pu_pea M) (M.1 606 4) j (M.1 608)) (N3.1 612) → N.1 603 25 = M.1 606 4 → N.1 612 = pu_cra M → N.1 613 = pu_pea M → (∀ i, i ≠ 25 → N.1 603 i = N3.1 603 i) → (∀ a, a ≠ 603 → a ≠ 608 → a ≠ 609 → a < 612 → N.1 a = N3.1 a) → nb_W 201 14 [(20, 603), (0, n), (0, (j : Int))] [] N (fun r2 M2 => r2 = [(0, M.1 608 0 + n)] ∧ pu_I M2 (k + 1) ∧ pu_sm M2 M) from hl n.toNat 0 (by omega) N4 q4 f25 f12 f13 fo q4.2.2.2.2.1
  clear q4 f25 f12 f13 fo N4
  intro m
  induction m with
  | succ m ih =>
    intro j hj N q f25 f12 f13 fo fa
    obtain ⟨x1, x2, x3⟩ := pu_secs_ok (pe := pu_pea M) (ns := M.1 606 4) hr k5 (by omega) k3 k4 j (by omega)
    have e6 : N.1 606 = M.1 606 := (fa 606 (by decide) (by decide) (by decide) (by decide)).trans m6
    refine w_m_pass_14 q.1 (by omega) ⟨fun _ => ?_, fun z => absurd z (by omega)⟩
    have h8 := q.2.2.1
    have hs := sp_m_second (M := N) (A := 608) (v2 := (98, 0)) (v3 := (98, 0)) (v4 := (98, 0)) (v5 := (98, 0)) q.1 (Or.inl rfl) (by rw [e6]; exact hr) (by rw [f12]; exact k5) (by rw [f13]; exact k6) (by rw [h8]; exact x1) (by rw [h8]; exact x2) (by rw [f25]; omega) (by rw [h8, x3]; omega)
    rw [e6, f12, f13, f25, h8] at hs
    refine nb_Wp hs ?_
    have q' : pu_MM N3 (nb_up N 608 (pu_sec (M.1 606) (pu_cra M) (pu_pea M) (M.1 606 4) (pu_secs (M.1 606) (pu_cra M) (pu_pea M) (M.1 606 4) j (M.1 608)))) (pu_secs (M.1 606) (pu_cra M) (pu_pea M) (M.1 606 4) (j + 1) (M.1 608)) (N3.1 612) := by
      obtain ⟨g1, g2, g3, g4, g5, g6, g7, g8, g9⟩ := q
      refine ⟨g1.up (fun i w => nb_nrow (Or.inl rfl)), g2, nb_up_same _ _ _, ?_, fun a p q s t => ?_, fun j a b c d e f g => ?_, ?_, ?_, ?_⟩
      · rw [nb_up_other (by decide)]; exact g4
      · rw [nb_up_other q]; exact g5 a p q s t
      · rw [nb_up_other (by decide)]; exact g6 j a b c d e f g
      · rw [nb_up_other (by decide)]; exact g7
      · rw [nb_up_other (by decide)]; exact g8
      · rw [nb_up_other (by decide)]; exact g9
    refine ⟨rfl, q'.1, ih (j + 1) (by omega) _ q' ?_ ?_ ?_ (fun i hi => ?_) (fun a p q s t => ?_)⟩
    · rw [nb_up_other (by decide)]; exact f25
    · rw [nb_up_other (by decide)]; exact f12
    · rw [nb_up_other (by decide)]; exact f13
    · rw [nb_up_other (by decide)]; exact fo i hi
    · rw [nb_up_other q]; exact fa a p q s t
  | zero =>
    intro j hj N q f25 f12 f13 fo fa
    have ej : j = n.toNat := by omega
    subst ej
    refine w_m_pass_14 q.1 (by omega) ⟨fun z => absurd z (by omega), fun _ _ => ⟨?_, ?_, ?_⟩⟩
    · rw [q.2.2.1, g3]
      exact congrArg (fun z => [((0 : Nat), z)]) (by omega)
    · have m' : pu_MF N2 N := by
        refine ⟨q.1, q.2.1.trans mf.2.1, ?_, fun a p s t u v w => (fa a p s t w).trans (mf.2.2.2.1 a p s t u v w), fun i a b c d e f g x y => (fo i e).trans (mf.2.2.2.2 i a b c d e f g x y)⟩
        unfold pu_I7
        rw [f12]
        unfold pu_cra
        rw [pu_cpy12.1, pu_cpy12.2.1, pu_cpy12.2.2]
        exact h7
      refine pu_act_fin hI hx2 hop cf2 ?_ ?_ ?_ ?_ ?_ s84' m' ?_ ?_ ?_ ?_ ?_ ?_
      · rw [hfr.2.2 2 15 (by omega)]; exact c15
      · rw [hfr.2.2 2 9 (by omega)]; exact c9
      · rw [hfr.2.2 2 8 (by omega)]; exact c8
      · rw [hfr.2.2 2 11 (by omega)]; exact c11
      · exact pu_Sn_keep hr (Int.le_refl k) sB (fun a i x y => hfr.2.2 a i (by omega))
      · rw [fo 11 (by decide)]; exact m11
      · rw [fo 21 (by decide)]; exact m21
      · rw [fo 22 (by decide)]; exact m22
      · rw [fa 611 (by decide) (by decide) (by decide) (by decide)]; exact m611
      · rw [fa 610 (by decide) (by decide) (by decide) (by decide)]; exact ur
      · intro i _ _
        rw [q.2.2.1]
    · exact ⟨by rw [q.2.1, mf.2.1]; exact cf2.2.1, ((fa 1 (by decide) (by decide) (by decide) (by decide)).trans mf.row1).trans (cf2.row1 (by have := (pu_kB_rg (U := M.1 603 21) (O := M.1 2 8)).1; omega))⟩
theorem pu_MF_copy {N : nb_M} {f : Int → Int} {i v : Int} (W : nb_Lay N) (h7 : pu_I7 N) {a : Int} (ha : a = 608 ∨ a = 610 ∨ a = 611) (hi : i = 21 ∨ i = 22) : pu_MF N (nb_wr (nb_up (nb_wr (nb_wr N 603 0 0) 603 11 0) a f) 603 i v) ∧ pu_MF N (nb_up (nb_wr (nb_wr (nb_wr N 603 0 0) 603 11 0) 603 i v) a f) := by
  have hr : ∀ i w, ¬ nb_rf a i w := fun i w => by
    rcases ha with rfl | rfl | rfl
    · exact nb_nrow (Or.inl rfl)
    · exact nb_nnum (by decide) (by decide)
    · exact nb_nnum (by decide) (by decide)
  have hi' : ∀ w, ¬ nb_rf 603 i w := fun w => by rcases hi with rfl | rfl <;> exact nb_nlit (by decide) (by decide)
  have W2 : nb_Lay (nb_wr (nb_wr N 603 0 0) 603 11 0) := (W.wr (fun w => nb_nlit (by decide) (by decide))).wr (fun w => nb_nlit (by decide) (by decide))
  refine ⟨⟨(W2.up hr).wr hi', rfl, ?_, fun b p q s t u w => ?_, fun j x b c d e f g x' y => ?_⟩, ⟨(W2.wr hi').up hr, rfl, ?_, fun b p q s t u w => ?_, fun j x b c d e f g x' y => ?_⟩⟩
  · unfold pu_I7
    rw [nb_wr_b (by decide), nb_up_other (by omega), nb_wr_b (by decide), nb_wr_b (by decide)]
    exact h7
  · rw [nb_wr_b p, nb_up_other (by omega), nb_wr_b p, nb_wr_b p]
  · rw [nb_wr_1, if_neg (by omega), nb_up_other (by omega), nb_wr_1, if_neg (by omega), nb_wr_1, if_neg (by omega)]
  · unfold pu_I7
    rw [nb_up_other (by omega), nb_wr_b (by decide), nb_wr_b (by decide), nb_wr_b (by decide)]
    exact h7
  · rw [nb_up_other (by omega), nb_wr_b p, nb_wr_b p, nb_wr_b p]
  · rw [nb_up_other (by omega), nb_wr_1, if_neg (by omega), nb_wr_1, if_neg (by omega), nb_wr_1, if_neg (by omega)]
theorem pa_undo : pu_pair 70 [(19, 2)] 206 [(20, 603)] := by
  apply pu_pair_a
  intro M k hI hk0 hk1
  obtain ⟨Ho, hHo, hx2, hx3, hh, hSn, hT, -, h7, hL⟩ := pu_I_at hI
  have hr := hT.1
  have h14 := pu_house hI
  have hIa := hI
  obtain ⟨-, -, ⟨-, -, i3⟩, ⟨Ho', So, ⟨-, y2, -, -, -⟩, ⟨u1, u2, u3, u4⟩, v1, v2, v3⟩, -, -⟩ := hIa
  have eH : Ho' = Ho := y2.symm.trans hx2
  subst eH
  by_cases c : M.1 603 21 = 0
  case pos =>
    refine Or.inl ⟨0, 6, fun h => absurd h (by decide), ?_, fun M1 hq => ?_⟩
    · refine w_c_undo_0 hL hHo hx2 ?_
      rw [u2, c]
      exact ⟨fun z => absurd z (by decide), fun _ _ => ⟨rfl, pu_CQ_g hL⟩⟩
    · obtain ⟨b3, b6, b8, b9, b12, b13, h7', -⟩ := pu_CQ_ref hI hq
      refine w_m_undo_0 hq.1 ?_
      rw [b3, c]
      exact ⟨fun _ hL' => ⟨rfl, pu_MQ_no h7' hL'⟩, fun z => absurd rfl z⟩
  have hop : 1 ≤ M.1 606 5 := by
    rcases h14 with ⟨-, z⟩ | ⟨-, z, -⟩
    · exact absurd (i3 z).2.1 c
    · exact z
  refine Or.inr ⟨1, ?_⟩
  refine w_c_undo_0 hL hHo hx2 ?_
  rw [u2, pu_rem12i (x := M.1 2 8 + (M.1 603 21 - 1)) (by omega)]
  refine ⟨fun _ => ⟨by omega, by omega, by omega, by omega, by omega, by omega, ?_⟩, fun z => absurd z (by omega)⟩
  have g := u4 (M.1 603 21 - 1) (by omega) (by omega)
  have cf := (pu_CF_CQ (B := 84) (pu_CQ_g (t := 0) hL)).fld (i := 9) (v := M.1 603 21 - 1) (by omega)
  have hB : nb_sc (273 + 22 * ((M.1 2 8 + (M.1 603 21 - 1)) % 12)) := nb_scb (by omega) (by omega)
  have g2 : pu_Sn (nb_wr (nb_wr M 2 15 0) 2 9 (M.1 603 21 - 1)) (273 + 22 * ((M.1 2 8 + (M.1 603 21 - 1)) % 12)) Ho' (M.1 606) (fun i => M.1 610 (108 * (M.1 603 21 - 1) + i)) k := pu_Sn_keep hr (Int.le_refl k) g (fun a i p q => by rw [nb_wr_b (by omega), nb_wr_b (by omega)])
  refine nb_W.imp (sp_sc_takeSn cf.1 hr nb_sc84 hB (by omega) g2) ?_
  rintro r' N ⟨rfl, hf, s84⟩
  have cf2 := cf.fr84 hf
  refine ⟨rfl, cf2.1, cf2.x2 hx2, fun hL' => ⟨rfl, ⟨hL', cf2.sm (by omega)⟩, ?_⟩⟩
  have b3 := cf2.row (a := 603) (by omega) (by decide)
  have b6 := cf2.row (a := 606) (by omega) (by decide)
  have b8 := cf2.row (a := 608) (by omega) (by decide)
  have b10 := cf2.row (a := 610) (by omega) (by decide)
  have b11 := cf2.row (a := 611) (by omega) (by decide)
  have b12 := cf2.row (a := 612) (by omega) (by decide)
  have h7' : pu_I7 N := by
    unfold pu_I7
    rw [b12]
    exact h7
  have e29 : N.1 2 9 = M.1 603 21 - 1 := by rw [hf.2.2 2 9 (by omega), nb_wr_1, if_pos ⟨rfl, rfl⟩]
  have e28 : N.1 2 8 = M.1 2 8 := by rw [hf.2.2 2 8 (by omega), nb_wr_1, if_neg (by omega), nb_wr_1, if_neg (by omega)]
  have e211 : N.1 2 11 = M.1 2 11 := by rw [hf.2.2 2 11 (by omega), nb_wr_1, if_neg (by omega), nb_wr_1, if_neg (by omega)]
  have e215 : N.1 2 15 = 0 := by rw [hf.2.2 2 15 (by omega), nb_wr_1, if_neg (by omega), nb_wr_1, if_pos ⟨rfl, rfl⟩]
  have eoth : ∀ a i, 273 ≤ a → a < 603 → N.1 a i = M.1 a i := fun a i p q => by rw [hf.2.2 a i (by omega), nb_wr_b (by omega), nb_wr_b (by omega)]
  refine w_m_undo_0 cf2.1 ?_
  rw [b3]
  refine ⟨fun z => absurd z c, fun _ => ⟨by omega, by omega, by omega, by omega, ?_⟩⟩
  have W2 : nb_Lay (nb_wr (nb_wr (nb_wr N 603 0 0) 603 11 0) 603 21 (M.1 603 21 - 1)) := ((cf2.1.wr (fun w => nb_nlit (by decide) (by decide))).wr (fun w => nb_nlit (by decide) (by decide))).wr (fun w => nb_nlit (by decide) (by decide))
  refine nb_Wp (sp_m_copy (n0 := 1296) (n2 := 108) (by decide) (by decide) (by decide) (by decide) (W2.lk (by decide) (by decide +kernel)) (W2.lk (by decide) (by decide +kernel)) (by omega) (by decide) (by decide) (by omega) (by decide)) ?_
  have mf := (pu_MF_copy (f := pu_cpy ((nb_wr (nb_wr (nb_wr N 603 0 0) 603 11 0) 603 21 (M.1 603 21 - 1)).1 610) ((nb_wr (nb_wr (nb_wr N 603 0 0) 603 11 0) 603 21 (M.1 603 21 - 1)).1 608) (108 * (M.1 603 21 - 1)) 0 108) (i := 21) (v := M.1 603 21 - 1) cf2.1 h7' (a := 608) (Or.inl rfl) (Or.inl rfl)).2
  refine ⟨rfl, mf.1, fun _ => ⟨rfl, ?_, ⟨cf2.2.1, mf.row1.trans (cf2.row1 (by omega))⟩⟩⟩
  generalize hM2 : nb_up (nb_wr (nb_wr (nb_wr N 603 0 0) 603 11 0) 603 21 (M.1 603 21 - 1)) 608 (pu_cpy ((nb_wr (nb_wr (nb_wr N 603 0 0) 603 11 0) 603 21 (M.1 603 21 - 1)).1 610) ((nb_wr (nb_wr (nb_wr N 603 0 0) 603 11 0) 603 21 (M.1 603 21 - 1)).1 608) (108 * (M.1 603 21 - 1)) 0 108) = M2 at *
  have m3 : ∀ i, M2.1 603 i = if i = 21 then M.1 603 21 - 1 else if i = 11 then 0 else if i = 0 then 0 else M.1 603 i := fun i => by
    rw [← hM2, nb_up_other (by decide), nb_wr_1, nb_wr_1, nb_wr_1, b3]
    (repeat' split) <;> first | rfl | omega
  have mlo : ∀ a, a ≠ 603 → a ≠ 608 → M2.1 a = N.1 a := fun a p q => by rw [← hM2, nb_up_other q, nb_wr_b p, nb_wr_b p, nb_wr_b p]
  have m8 : ∀ i, 0 ≤ i → i < 108 → M2.1 608 i = M.1 610 (108 * (M.1 603 21 - 1) + i) := fun i a b => by
    rw [← hM2, nb_up_same]
    unfold pu_cpy
    rw [if_pos (by omega), nb_wr_b (by decide), nb_wr_b (by decide), nb_wr_b (by decide), b10]
    exact congrArg (M.1 610) (by omega)
  refine pu_I_asm (B := 84) hI hx2 hop (by decide) cf2 mf ⟨?_, ?_⟩ ?_ ⟨?_, ?_, ?_, fun j a b => ?_⟩ ⟨?_, ?_, fun j a b => ?_⟩
  · rw [mlo 2 (by decide) (by decide), e215, m3]
    rfl
  · rw [m3, if_neg (by decide), if_pos rfl]
    decide
  · exact pu_Sn_congr hr m8 (pu_Sn_keep hr (by omega) s84 (fun a i p q => by rw [mlo a (by omega) (by omega)]))
  · rw [m3, if_pos rfl]; omega
  · rw [mlo 2 (by decide) (by decide), e29, m3, if_pos rfl]
  · rw [mlo 2 (by decide) (by decide), e28]; exact u3
  · rw [m3, if_pos rfl] at b
    rw [mlo 2 (by decide) (by decide), e28, mlo 606 (by decide) (by decide), b6, mlo 610 (by decide) (by decide), b10]
    exact pu_Sn_keep hr (by omega) (u4 j a (by omega)) (fun a i p q => by rw [mlo a (by omega) (by omega)]; exact eoth a i (by omega) (by omega))
  · rw [m3, if_neg (by decide), if_neg (by decide), if_neg (by decide)]; exact v1
  · rw [mlo 2 (by decide) (by decide), e211, m3, if_neg (by decide), if_neg (by decide), if_neg (by decide)]; exact v2
  · rw [m3, if_neg (by decide), if_neg (by decide), if_neg (by decide)] at b
    rw [mlo 606 (by decide) (by decide), b6, mlo 611 (by decide) (by decide), b11]
    exact pu_Sn_keep hr (by omega) (v3 j a b) (fun a i p q => by rw [mlo a (by omega) (by omega)]; exact eoth a i (by omega) (by omega))
theorem pa_image : pu_pair 71 [(19, 2)] 207 [(20, 603)] := by
  apply pu_pair_a
  intro M k hI hk0 hk1
  obtain ⟨Ho, hHo, hx2, hx3, hh, hSn, hT, -, h7, hL⟩ := pu_I_at hI
  have hr := hT.1
  have n5 := hr.2.2.2.2.2.2.1
  have h14 := pu_house hI
  have o := hh.1
  have hIa := hI
  obtain ⟨-, -, ⟨-, -, i3⟩, ⟨Ho', So, ⟨-, y2, -, -, -⟩, ⟨u1, u2, u3, u4⟩, v1, v2, v3⟩, -, -⟩ := hIa
  have eH : Ho' = Ho := y2.symm.trans hx2
  subst eH
  by_cases c : M.1 606 5 = 0
  case pos =>
    refine Or.inl ⟨-1, 1, fun h => absurd h (by decide), ?_, fun M1 hq => ?_⟩
    · refine w_c_image_0 hL hHo hx2 ?_
      rw [o.2.2.2.2.1]
      exact ⟨by omega, by omega, fun z => absurd z (by omega), fun _ _ => ⟨rfl, pu_CQ_g hL⟩⟩
    · obtain ⟨b3, b6, b8, b9, b12, b13, h7', -⟩ := pu_CQ_ref hI hq
      refine w_m_image_0 hq.1 ?_
      rw [b3]
      exact ⟨by omega, by omega, fun _ hL' => ⟨rfl, pu_MQ_no h7' hL'⟩, fun z => absurd z (by omega)⟩
  by_cases d : M.1 603 22 = 3
  case pos =>
    refine Or.inl ⟨-1, 3, fun h => absurd h (by decide), ?_, fun M1 hq => ?_⟩
    · refine w_c_image_0 hL hHo hx2 ?_
      rw [o.2.2.2.2.1, v2, d]
      exact ⟨by omega, by omega, fun _ => ⟨fun z => absurd z (by decide), fun _ _ => ⟨rfl, (pu_CQ_g hL).tr⟩⟩, fun z => absurd z (by omega)⟩
    · obtain ⟨b3, b6, b8, b9, b12, b13, h7', -⟩ := pu_CQ_ref hI hq
      refine w_m_image_0 hq.1 ?_
      rw [b3]
      exact ⟨by omega, by omega, fun z => absurd z (by omega), fun _ => ⟨fun _ hL' => ⟨rfl, pu_MQ_no h7' hL'⟩, fun z => absurd d z⟩⟩
  have hop : 1 ≤ M.1 606 5 := by omega
  refine Or.inr ⟨M.1 603 22 + 1 - 1, ?_⟩
  refine w_c_image_0 hL hHo hx2 ?_
  rw [o.2.2.2.2.1, v2]
  refine ⟨by omega, by omega, fun _ => ⟨fun _ => ⟨by omega, ?_⟩, fun z => absurd z (by omega)⟩, fun z => absurd z (by omega)⟩
  have hB : nb_sc (537 + 22 * M.1 603 22) := nb_sci (by omega) (by omega)
  have hq0 : pu_CQ M (nb_wr (nb_wr M 2 15 0) 2 15 0) 0 := (pu_CQ_g hL).tr
  have cf := pu_CF_CQ (B := 537 + 22 * M.1 603 22) hq0
  have g2 : pu_Sn (nb_wr (nb_wr M 2 15 0) 2 15 0) 84 Ho' (M.1 606) (M.1 608) k := pu_Sn_keep hr (Int.le_refl k) hSn (fun a i p q => by rw [nb_wr_b (by omega), nb_wr_b (by omega)])
  refine nb_W.imp (sp_sc_takeSn cf.1 hr hB nb_sc84 (by omega) g2) ?_
  rintro r' N1 ⟨rfl, hf, sB⟩
  have cf1 := cf.fr hf (by omega)
  have f11 : N1.1 2 11 = M.1 603 22 := by rw [hf.2.2 2 11 (by omega), nb_wr_1, if_neg (by omega), nb_wr_1, if_neg (by omega)]; exact v2
  rw [f11]
  have cf2 := cf1.fld (i := 11) (v := M.1 603 22 + 1) (by omega)
  refine ⟨rfl, cf1.1, cf1.x2 hx2, by omega, by omega, by omega, by omega, fun hL' => ⟨rfl, ⟨hL', cf2.sm (by omega)⟩, ?_⟩⟩
  generalize hN : nb_wr N1 2 11 (M.1 603 22 + 1) = N at *
  have eoth : ∀ a i, a ≠ 2 → (a < 106 ∨ (128 ≤ a ∧ a < 130) ∨ 273 ≤ a) → (a < 537 + 22 * M.1 603 22 ∨ 537 + 22 * M.1 603 22 + 22 ≤ a) → N.1 a i = M.1 a i := fun a i p q s => by rw [← hN, nb_wr_b p, hf.2.2 a i s, nb_wr_b p, nb_wr_b p]
  have e2 : ∀ i, i ≠ 11 → i ≠ 15 → N.1 2 i = M.1 2 i := fun i p q => by rw [← hN, nb_wr_1, if_neg (by omega), hf.2.2 2 i (by omega), nb_wr_1, if_neg (by omega), nb_wr_1, if_neg (by omega)]
  have e211 : N.1 2 11 = M.1 603 22 + 1 := by rw [← hN, nb_wr_1, if_pos ⟨rfl, rfl⟩]
  have e215 : N.1 2 15 = 0 := by rw [← hN, nb_wr_1, if_neg (by omega), hf.2.2 2 15 (by omega), nb_wr_1, if_pos ⟨rfl, rfl⟩]
  have sB' : pu_Sn N (537 + 22 * M.1 603 22) Ho' (M.1 606) (M.1 608) k := pu_Sn_keep hr (Int.le_refl k) sB (fun a i p q => by rw [← hN, nb_wr_b (by omega)])
  have b3 := cf2.row (a := 603) (by omega) (by decide)
  have b6 := cf2.row (a := 606) (by omega) (by decide)
  have b8 := cf2.row (a := 608) (by omega) (by decide)
  have b10 := cf2.row (a := 610) (by omega) (by decide)
  have b11 := cf2.row (a := 611) (by omega) (by decide)
  have b12 := cf2.row (a := 612) (by omega) (by decide)
  have h7' : pu_I7 N := by
    unfold pu_I7
    rw [b12]
    exact h7
  refine w_m_image_0 cf2.1 ?_
  rw [b3]
  refine ⟨by omega, by omega, fun z => absurd z (by omega), fun _ => ⟨fun z => absurd z d, fun _ => ⟨by omega, by omega, ?_⟩⟩⟩
  have W2 : nb_Lay (nb_wr (nb_wr N 603 0 0) 603 11 0) := (cf2.1.wr (fun w => nb_nlit (by decide) (by decide))).wr (fun w => nb_nlit (by decide) (by decide))
  refine nb_Wp (sp_m_copy (n0 := 108) (n2 := 324) (by decide) (by decide) (by decide) (by decide) (W2.lk (by decide) (by decide +kernel)) (W2.lk (by decide) (by decide +kernel)) (by decide) (by omega) (by decide) (by decide) (by omega)) ?_
  have f22 : (nb_up (nb_wr (nb_wr N 603 0 0) 603 11 0) 611 (pu_cpy ((nb_wr (nb_wr N 603 0 0) 603 11 0).1 608) ((nb_wr (nb_wr N 603 0 0) 603 11 0).1 611) 0 (108 * M.1 603 22) 108)).1 603 22 = M.1 603 22 := by
    rw [nb_up_other (by decide), nb_wr_1, if_neg (by omega), nb_wr_1, if_neg (by omega), b3]
  rw [f22]
  have mf := (pu_MF_copy (f := pu_cpy ((nb_wr (nb_wr N 603 0 0) 603 11 0).1 608) ((nb_wr (nb_wr N 603 0 0) 603 11 0).1 611) 0 (108 * M.1 603 22) 108) (i := 22) (v := M.1 603 22 + 1) cf2.1 h7' (a := 611) (Or.inr (Or.inr rfl)) (Or.inr rfl)).1
  refine ⟨rfl, W2.up (fun i w => nb_nnum (by decide) (by decide)), by omega, by omega, by omega, by omega, fun _ => ⟨rfl, ?_, ⟨cf2.2.1, mf.row1.trans (cf2.row1 (by omega))⟩⟩⟩
  generalize hM2 : nb_wr (nb_up (nb_wr (nb_wr N 603 0 0) 603 11 0) 611 (pu_cpy ((nb_wr (nb_wr N 603 0 0) 603 11 0).1 608) ((nb_wr (nb_wr N 603 0 0) 603 11 0).1 611) 0 (108 * M.1 603 22) 108)) 603 22 (M.1 603 22 + 1) = M2 at *
  have m3 : ∀ i, M2.1 603 i = if i = 22 then M.1 603 22 + 1 else if i = 11 then 0 else if i = 0 then 0 else M.1 603 i := fun i => by
    rw [← hM2, nb_wr_1, nb_up_other (by decide), nb_wr_1, nb_wr_1, b3]
    (repeat' split) <;> first | rfl | omega
  have mlo : ∀ a, a ≠ 603 → a ≠ 611 → M2.1 a = N.1 a := fun a p q => by rw [← hM2, nb_wr_b p, nb_up_other q, nb_wr_b p, nb_wr_b p]
  have m11 : ∀ i, M2.1 611 i = if 108 * M.1 603 22 ≤ i ∧ i < 108 * M.1 603 22 + 108 then M.1 608 (i - 108 * M.1 603 22) else M.1 611 i := fun i => by
    rw [← hM2, nb_wr_b (by decide), nb_up_same]
    unfold pu_cpy
    rw [nb_wr_b (by decide), nb_wr_b (by decide), nb_wr_b (by decide), nb_wr_b (by decide), b8, b11, Int.add_zero]
  refine pu_I_asm (B := 537 + 22 * M.1 603 22) hI hx2 hop (by omega) cf2 mf ⟨?_, ?_⟩ ?_ ⟨?_, ?_, ?_, fun j a b => ?_⟩ ⟨?_, ?_, fun j a b => ?_⟩
  · rw [mlo 2 (by decide) (by decide), e215, m3]
    rfl
  · rw [m3, if_neg (by decide), if_pos rfl]
    decide
  · rw [mlo 608 (by decide) (by decide), b8]
    exact pu_Sn_keep hr (by omega) hSn (fun a i p q => by rw [mlo a (by omega) (by omega)]; exact eoth a i (by omega) (by omega) (by omega))
  · rw [m3, if_neg (by decide), if_neg (by decide), if_neg (by decide)]; exact u1
  · rw [mlo 2 (by decide) (by decide), e2 9 (by decide) (by decide), m3, if_neg (by decide), if_neg (by decide), if_neg (by decide)]; exact u2
  · rw [mlo 2 (by decide) (by decide), e2 8 (by decide) (by decide)]; exact u3
  · rw [m3, if_neg (by decide), if_neg (by decide), if_neg (by decide)] at b
    rw [mlo 2 (by decide) (by decide), e2 8 (by decide) (by decide), mlo 606 (by decide) (by decide), b6, mlo 610 (by decide) (by decide), b10]
    exact pu_Sn_keep hr (by omega) (u4 j a b) (fun a i p q => by rw [mlo a (by omega) (by omega)]; exact eoth a i (by omega) (by omega) (by omega))
  · rw [m3, if_pos rfl]; omega
  · rw [mlo 2 (by decide) (by decide), e211, m3, if_pos rfl]
  · rw [m3, if_pos rfl] at b
    rw [mlo 606 (by decide) (by decide), b6]
    by_cases e : j = M.1 603 22
    · rw [e]
      exact pu_Sn_congr hr (fun i p q => by rw [m11, if_pos (by omega)]; exact congrArg (M.1 608) (by omega)) (pu_Sn_keep hr (by omega) sB' (fun a i p q => by rw [mlo a (by omega) (by omega)]))
    · exact pu_Sn_congr hr (fun i p q => by rw [m11, if_neg (by omega)]) (pu_Sn_keep hr (by omega) (v3 j a (by omega)) (fun a i p q => by rw [mlo a (by omega) (by omega)]; exact eoth a i (by omega) (by omega) (by omega)))
theorem pa_back (n : Int) : pu_pair 72 [(19, 2), (0, n)] 208 [(20, 603), (0, n)] := by
  apply pu_pair_a
  intro M k hI hk0 hk1
  obtain ⟨Ho, hHo, hx2, hx3, hh, hSn, hT, -, h7, hL⟩ := pu_I_at hI
  have hr := hT.1
  have h14 := pu_house hI
  have hIa := hI
  obtain ⟨-, -, ⟨-, -, i3⟩, ⟨Ho', So, ⟨-, y2, -, -, -⟩, ⟨u1, u2, u3, u4⟩, v1, v2, v3⟩, -, -⟩ := hIa
  have eH : Ho' = Ho := y2.symm.trans hx2
  subst eH
  by_cases c : 0 ≤ n ∧ n < M.1 603 22
  case neg =>
    refine Or.inl ⟨0, 1, fun h => absurd h (by decide), ?_, fun M1 hq => ?_⟩
    · refine w_c_back_0 hL hHo hx2 ?_
      rw [v2]
      exact ⟨fun _ _ => ⟨rfl, pu_CQ_g hL⟩, fun _ => ⟨fun z => absurd z (by omega), fun _ _ => ⟨rfl, pu_CQ_g hL⟩⟩⟩
    · obtain ⟨b3, b6, b8, b9, b12, b13, h7', -⟩ := pu_CQ_ref hI hq
      refine w_m_back_0 hq.1 ?_
      rw [b3]
      exact ⟨by omega, by omega, fun _ hL' => ⟨rfl, pu_MQ_no h7' hL'⟩, fun _ => ⟨fun _ hL' => ⟨rfl, pu_MQ_no h7' hL'⟩, fun z => absurd z (by omega)⟩⟩
  have hop : 1 ≤ M.1 606 5 := by
    rcases h14 with ⟨-, z⟩ | ⟨-, z, -⟩
    · have := (i3 z).2.2
      omega
    · exact z
  refine Or.inr ⟨1, ?_⟩
  refine w_c_back_0 hL hHo hx2 ?_
  rw [v2]
  refine ⟨fun z => absurd z (by omega), fun _ => ⟨fun _ => ⟨by omega, ?_⟩, fun z => absurd z (by omega)⟩⟩
  have g := v3 n c.1 c.2
  have cf := pu_CF_CQ (B := 84) (pu_CQ_g (t := 0) hL)
  have hB : nb_sc (537 + 22 * n) := nb_sci (by omega) (by omega)
  have g2 : pu_Sn (nb_wr M 2 15 0) (537 + 22 * n) Ho' (M.1 606) (fun i => M.1 611 (108 * n + i)) k := pu_Sn_keep hr (Int.le_refl k) g (fun a i p q => by rw [nb_wr_b (by omega)])
  refine nb_W.imp (sp_sc_takeSn cf.1 hr nb_sc84 hB (by omega) g2) ?_
  rintro r' N1 ⟨rfl, hf, s84'⟩
  have cf1 := cf.fr84 hf
  have cf2 := cf1.fld (i := 9) (v := 0) (by omega)
  refine ⟨rfl, cf1.1, cf1.x2 hx2, fun hL' => ⟨rfl, ⟨hL', cf2.sm (by omega)⟩, ?_⟩⟩
  generalize hN : nb_wr N1 2 9 0 = N at *
  have s84 : pu_Sn N 84 Ho' (M.1 606) (fun i => M.1 611 (108 * n + i)) k := pu_Sn_keep hr (Int.le_refl k) s84' (fun a i p q => by rw [← hN, nb_wr_b (by omega)])
  have e2 : ∀ i, i ≠ 9 → i ≠ 15 → N.1 2 i = M.1 2 i := fun i p q => by rw [← hN, nb_wr_1, if_neg (by omega), hf.2.2 2 i (by omega), nb_wr_1, if_neg (by omega)]
  have e29 : N.1 2 9 = 0 := by rw [← hN, nb_wr_1, if_pos ⟨rfl, rfl⟩]
  have e215 : N.1 2 15 = 0 := by rw [← hN, nb_wr_1, if_neg (by omega), hf.2.2 2 15 (by omega), nb_wr_1, if_pos ⟨rfl, rfl⟩]
  have eoth : ∀ a i, 273 ≤ a → a < 603 → N.1 a i = M.1 a i := fun a i p q => by rw [← hN, nb_wr_b (by omega), hf.2.2 a i (by omega), nb_wr_b (by omega)]
  have b3 := cf2.row (a := 603) (by omega) (by decide)
  have b6 := cf2.row (a := 606) (by omega) (by decide)
  have b8 := cf2.row (a := 608) (by omega) (by decide)
  have b11 := cf2.row (a := 611) (by omega) (by decide)
  have b12 := cf2.row (a := 612) (by omega) (by decide)
  have h7' : pu_I7 N := by
    unfold pu_I7
    rw [b12]
    exact h7
  refine w_m_back_0 cf2.1 ?_
  rw [b3]
  refine ⟨by omega, by omega, fun z => absurd z (by omega), fun _ => ⟨fun z => absurd z (by omega), fun _ => ⟨by omega, by omega, ?_⟩⟩⟩
  have W2 : nb_Lay (nb_wr (nb_wr N 603 0 0) 603 11 0) := (cf2.1.wr (fun w => nb_nlit (by decide) (by decide))).wr (fun w => nb_nlit (by decide) (by decide))
  refine nb_Wp (sp_m_copy (n0 := 324) (n2 := 108) (by decide) (by decide) (by decide) (by decide) (W2.lk (by decide) (by decide +kernel)) (W2.lk (by decide) (by decide +kernel)) (by omega) (by decide) (by decide) (by omega) (by decide)) ?_
  have mf := (pu_MF_copy (f := pu_cpy ((nb_wr (nb_wr N 603 0 0) 603 11 0).1 611) ((nb_wr (nb_wr N 603 0 0) 603 11 0).1 608) (108 * n) 0 108) (i := 21) (v := 0) cf2.1 h7' (a := 608) (Or.inl rfl) (Or.inl rfl)).1
  refine ⟨rfl, W2.up (fun i w => nb_nrow (Or.inl rfl)), fun _ => ⟨rfl, ?_, ⟨cf2.2.1, mf.row1.trans (cf2.row1 (by omega))⟩⟩⟩
  generalize hM2 : nb_wr (nb_up (nb_wr (nb_wr N 603 0 0) 603 11 0) 608 (pu_cpy ((nb_wr (nb_wr N 603 0 0) 603 11 0).1 611) ((nb_wr (nb_wr N 603 0 0) 603 11 0).1 608) (108 * n) 0 108)) 603 21 0 = M2 at *
  have m3 : ∀ i, M2.1 603 i = if i = 21 then 0 else if i = 11 then 0 else if i = 0 then 0 else M.1 603 i := fun i => by
    rw [← hM2, nb_wr_1, nb_up_other (by decide), nb_wr_1, nb_wr_1, b3]
    (repeat' split) <;> first | rfl | omega
  have mlo : ∀ a, a ≠ 603 → a ≠ 608 → M2.1 a = N.1 a := fun a p q => by rw [← hM2, nb_wr_b p, nb_up_other q, nb_wr_b p, nb_wr_b p]
  have m8 : ∀ i, 0 ≤ i → i < 108 → M2.1 608 i = M.1 611 (108 * n + i) := fun i a b => by
    rw [← hM2, nb_wr_b (by decide), nb_up_same]
    unfold pu_cpy
    rw [if_pos (by omega), nb_wr_b (by decide), nb_wr_b (by decide), b11]
    exact congrArg (M.1 611) (by omega)
  refine pu_I_asm (B := 84) hI hx2 hop (by decide) cf2 mf ⟨?_, ?_⟩ ?_ ⟨?_, ?_, ?_, fun j a b => ?_⟩ ⟨?_, ?_, fun j a b => ?_⟩
  · rw [mlo 2 (by decide) (by decide), e215, m3]
    rfl
  · rw [m3, if_neg (by decide), if_pos rfl]
    decide
  · exact pu_Sn_congr hr m8 (pu_Sn_keep hr (by omega) s84 (fun a i p q => by rw [mlo a (by omega) (by omega)]))
  · rw [m3, if_pos rfl]; omega
  · rw [mlo 2 (by decide) (by decide), e29, m3, if_pos rfl]
  · rw [mlo 2 (by decide) (by decide), e2 8 (by decide) (by decide)]; exact u3
  · rw [m3, if_pos rfl] at b
    omega
  · rw [m3, if_neg (by decide), if_neg (by decide), if_neg (by decide)]; exact v1
  · rw [mlo 2 (by decide) (by decide), e2 11 (by decide) (by decide), m3, if_neg (by decide), if_neg (by decide), if_neg (by decide)]; exact v2
  · rw [m3, if_neg (by decide), if_neg (by decide), if_neg (by decide)] at b
    rw [mlo 606 (by decide) (by decide), b6, mlo 611 (by decide) (by decide), b11]
    exact pu_Sn_keep hr (by omega) (v3 j a b) (fun a i p q => by rw [mlo a (by omega) (by omega)]; exact eoth a i (by omega) (by omega))
