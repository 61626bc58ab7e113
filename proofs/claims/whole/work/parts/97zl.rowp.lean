/-! ROWS OF ORDERS: the calls -/
theorem pu_bit_z : ∀ i : Nat, i < 10 → ¬ pu_bit 0 i := by decide +kernel
theorem sp_m_rowWhy {M N : nb_M} {C : Int → Int} {s : Int} {cnt : Nat} {v2 : nb_V} (hr : pu_Rr (M.1 606)) (hT4 : M.1 603 14 = 1) (hs : 0 ≤ s ∧ s < M.1 606 4) (hl : -1 ≤ M.1 608 (92 + 4 * s + 3) - 1 ∧ M.1 608 (92 + 4 * s + 3) - 1 ≤ 9) (hc : (cnt : Int) = pu_cnt (M.1 608) 1 (M.1 606 5).toNat) (h7 : cnt ≤ 7) (q : pu_MM M N (M.1 608) C) : nb_W 192 0 [(20, 603), (0, s), v2] [] N (fun r' N' => r' = [(0, 0)] ∧ pu_MM M N' (M.1 608) C ∧ N'.1 603 33 = (pu_vb (pu_rT M s) cnt cnt (nb_shl 1 cnt - 1) 7).2 ∧ ∀ i : Nat, i < cnt → N'.1 617 i = pu_rw M (pu_lx (pu_rT M s) cnt cnt (nb_shl 1 cnt - 1) 7 i)) := by
  have n5 := hr.2.2.2.2.2.2.1
  have n4 := hr.2.2.2.2.2.1
  have hT : ∀ (d : Int) (i : Nat), pu_vl cnt d → i < cnt → 0 ≤ pu_rT M s d i ∧ pu_rT M s d i ≤ 4500 := fun d i hd hi => pu_rT_ok hr hc d i hd hi
  have hp := pu_pow7 cnt h7
  have o := pu_ones_full cnt h7
  obtain ⟨F, hF⟩ : ∃ F : Nat, nb_shl 1 cnt - 1 = F := ⟨(nb_shl 1 cnt - 1).toNat, by omega⟩
  have hb : ∀ i : Nat, i < cnt → pu_bit F i := fun i hi => by rw [← hF]; exact pu_full7 cnt h7 i hi
  rw [hF] at o ⊢
  have vb := (pu_vb_ok (T := pu_rT M s) h7 hT cnt F 7 (Or.inr rfl) (by omega) o).1
  have e14 : N.1 603 14 = 1 := (q.2.2.2.2.2.1 14 (by decide) (by decide) (by decide) (by decide) (by decide) (by decide) (by decide)).trans hT4
  refine w_m_rowWhy_0 q.1 ?_
  rw [e14, q.r, q.2.2.1, ← hc]
  refine ⟨by omega, by omega, fun z => absurd z (by decide), fun _ => ⟨by omega, by omega, fun z => absurd z (by omega), fun _ => ⟨fun z => absurd z (by omega), fun _ => ⟨hr, fun z => absurd z (by omega), fun _ => ⟨by omega, by omega, ?_⟩⟩⟩⟩⟩
  refine nb_W.imp (sp_m_rowFrom0 (s := s) (S := F) (d := 7) (n := cnt) (t := 0) (cnt := cnt) (C := C) (N := nb_wr N 603 33 1000000) rfl hr hc h7 ⟨q.fld (by omega), by omega, o, by omega, Or.inr rfl, by omega, fun i hi => ?_, hl, fun i hi => ?_, by omega, by omega, ?_⟩) ?_
  · have w := pu_rw_ok hc hi
    obtain ⟨x, hx⟩ : ∃ x : Nat, pu_rw M i = x := ⟨(pu_rw M i).toNat, by omega⟩
    rw [hx]
    exact ⟨fun z => absurd z (pu_bit_z x (by omega)), fun z => absurd (hb i hi) z⟩
  · unfold pu_rT
    rw [if_pos (show ((7 : Nat) : Int) = 7 from rfl)]
    rfl
  · rw [nb_wr_1, if_pos ⟨rfl, rfl⟩]
    decide
  rintro r' N' ⟨rfl, h1, h2, h3, h4⟩
  have e33 : (nb_wr N 603 33 1000000).1 603 33 = 1000000 := by rw [nb_wr_1, if_pos ⟨rfl, rfl⟩]
  have e7 : ((7 : Nat) : Int) = 7 := rfl
  have e0 : ((0 : Nat) : Int) = 0 := rfl
  rw [e33, e7] at h2 h3
  have z0 : (0 : Int) + (cnt : Int) * 0 + (pu_vb (pu_rT M s) cnt cnt F 7).2 = (pu_vb (pu_rT M s) cnt cnt F 7).2 := by omega
  rw [z0] at h2 h3
  refine ⟨rfl, h1.1, fun _ => ⟨rfl, h1, ?_, fun i hi => ?_⟩⟩
  · rw [h2, if_pos (by omega)]
  · rw [h3 i hi, if_pos (by omega), if_neg (by omega)]
    rfl
theorem pu_row_at {M : nb_M} {k : Int} (hI : pu_I M k) {s : Int} (hs : 0 ≤ s ∧ s < M.1 606 4) : -1 ≤ M.1 608 (92 + 4 * s + 3) - 1 ∧ M.1 608 (92 + 4 * s + 3) - 1 ≤ 9 := by
  obtain ⟨Ho, hHo, hx2, hx3, hh, hSn, hT, -, h7, hL⟩ := pu_I_at hI
  have n4 := hT.1.2.2.2.2.2.1
  have g := (hSn.2.2.1.1.2.1 s hs.1 (by omega)).2.2.2
  omega
theorem pa_row (s i : Int) : pu_pair 58 [(19, 2), (0, s), (0, i), (98, 0)] 193 [(20, 603), (0, s), (0, i), (98, 0)] := by
  apply pu_pair_r
  intro M k hI hk0 hk1
  obtain ⟨Ho, hHo, hx2, hx3, hh, hSn, hT, -, h7, hL⟩ := pu_I_at hI
  have hr := hT.1
  have n5 := hr.2.2.2.2.2.2.1
  have n4 := hr.2.2.2.2.2.1
  have h14 := pu_house hI
  have o := hh.1
  have cl := pu_cnt_le (R := M.1 608) (x := 1) (M.1 606 5).toNat
  obtain ⟨cnt, hc⟩ : ∃ cnt : Nat, (cnt : Int) = pu_cnt (M.1 608) 1 (M.1 606 5).toNat := ⟨(pu_cnt (M.1 608) 1 (M.1 606 5).toNat).toNat, by omega⟩
  -- the reference's refusals
  have r1 : ∀ M1, pu_CQ M M1 1 → (s < 0 ∨ M.1 606 4 ≤ s ∨ i < 0 ∨ (cnt : Int) ≤ i) → nb_W 193 0 [(20, 603), (0, s), (0, i), (98, 0)] [] M1 (fun r2 M2 => r2 = [(0, -1)] ∧ pu_MQ M1 M2 1) := by
    intro M1 hq hn
    obtain ⟨b3, b6, b8, b9, b12, b13, h7', -⟩ := pu_CQ_ref hI hq
    refine w_m_row_0 hq.1 ?_
    rw [b3, b6, b8, ← hc]
    repeat' (first | assumption | with_reducible apply And.intro | intro _)
    all_goals (first | omega | (exfalso; omega) | rfl | exact pu_MQ_no h7' (by assumption))
  have r3 : ∀ M1, pu_CQ M M1 3 → (0 ≤ s ∧ s < M.1 606 4 ∧ 0 ≤ i ∧ i < (cnt : Int) ∧ 7 < (cnt : Int)) → nb_W 193 0 [(20, 603), (0, s), (0, i), (98, 0)] [] M1 (fun r2 M2 => r2 = [(0, -1)] ∧ pu_MQ M1 M2 3) := by
    intro M1 hq hn
    obtain ⟨b3, b6, b8, b9, b12, b13, h7', -⟩ := pu_CQ_ref hI hq
    refine w_m_row_0 hq.1 ?_
    rw [b3, b6, b8, ← hc]
    refine ⟨by omega, by omega, fun z => absurd z (by omega), fun _ => ⟨by omega, by omega, fun z => absurd z (by omega), fun _ => ⟨fun z => absurd z (by omega), fun _ => ⟨hr, by omega, by omega, fun z => absurd z (by omega), fun _ => ⟨fun z => absurd z (by omega), fun _ => ?_⟩⟩⟩⟩⟩
    have hg := (pu_MM_g hq.1)
    have g14 : (nb_wr (nb_wr M1 603 0 0) 603 11 0).1 603 14 = M1.1 603 14 := by rw [nb_wr_1, if_neg (by omega), nb_wr_1, if_neg (by omega)]
    refine w_m_rowWhy_0 hg.1 ?_
    rw [g14, hg.r, hg.2.2.1, b3, b6, b8, ← hc]
    refine ⟨by omega, by omega, fun z => absurd z (by omega), fun _ => ⟨by omega, by omega, fun z => absurd z (by omega), fun _ => ⟨fun z => absurd z (by omega), fun _ => ⟨hr, fun _ hL' => ⟨3, rfl, hL', fun z => absurd z (by decide), fun _ hL2 => ⟨rfl, pu_MQ_no h7' hL2⟩⟩, fun z => absurd z (by omega)⟩⟩⟩⟩
  refine w_c_row_0 hL hHo hx2 ?_
  refine nb_Wp (sp_sc_countOf hL nb_sc84 n5 hSn.1) ⟨_, rfl, hL, hx2, ?_⟩
  rw [← hc, o.2.2.2.1]
  have no1 : (s < 0 ∨ M.1 606 4 ≤ s ∨ i < 0 ∨ (cnt : Int) ≤ i) → nb_Lay (nb_wr M 2 15 1) → ∃ v tr : Int, ([((0 : Nat), (-1 : Int))] : List nb_V) = [(0, v)] ∧ pu_CQ M (nb_wr M 2 15 1) tr ∧ (tr = 4 → M.1 603 11 = 4) ∧ nb_W 193 0 [(20, 603), (0, s), (0, i), (98, 0)] [] (nb_wr M 2 15 1) (fun r2 M2 => r2 = [(0, v)] ∧ pu_MQ (nb_wr M 2 15 1) M2 tr) := fun hn _ => ⟨-1, 1, rfl, pu_CQ_g hL, fun z => absurd z (by decide), r1 _ (pu_CQ_g hL) hn⟩
  refine ⟨fun a => no1 (Or.inl a), fun a => ⟨fun b => ⟨fun c => no1 (Or.inr (Or.inr (Or.inl c))), fun c => ⟨fun d => ⟨fun e _ => ?_, fun e => ?_⟩, fun d => no1 (Or.inr (Or.inr (Or.inr d)))⟩⟩, fun b => no1 (Or.inr (Or.inl b))⟩⟩
  · have hq : pu_CQ M (nb_wr (nb_wr M 2 15 0) 2 15 3) 3 := pu_CQ.tr (pu_CQ_g (t := 0) hL)
    exact ⟨-1, 3, rfl, hq, fun z => absurd z (by decide), r3 _ hq (by omega)⟩
  · have hq0 : pu_CQ M (nb_wr (nb_wr M 2 15 0) 2 15 0) 0 := pu_CQ.tr (pu_CQ_g (t := 0) hL)
    have h7c : cnt ≤ 7 := by omega
    refine nb_W.imp (sp_rw_settle hI hq0 hc h7c ⟨a, b⟩) ?_
    rintro r' N1 ⟨rfl, hq, h4⟩
    refine ⟨rfl, hq.1, hq.x2 hx2, ?_⟩
    obtain ⟨ii, hii⟩ : ∃ ii : Nat, i = ii := ⟨i.toNat, by omega⟩
    subst hii
    refine nb_W.imp (sp_rw_inRow hq.1 hr hc h7c h4 (by omega)) ?_
    rintro r' N2 ⟨rfl, rfl⟩
    refine ⟨_, rfl, hq.1, hq.x2 hx2, fun _ => ⟨_, 0, rfl, hq, fun z => absurd z (by decide), ?_⟩⟩
    obtain ⟨b3, b6, b8, b9, b12, b13, h7', -⟩ := pu_CQ_ref hI hq
    have eW : pu_rw N2 = pu_rw M := by funext j; unfold pu_rw; rw [b6, b8]
    have eT : pu_rT N2 s = pu_rT M s := by funext d j; unfold pu_rT; rw [b6, b8, eW]
    refine w_m_row_0 hq.1 ?_
    rw [b3, b6, b8, ← hc]
    refine ⟨by omega, by omega, fun z => absurd z (by omega), fun _ => ⟨by omega, by omega, fun z => absurd z (by omega), fun _ => ⟨fun z => absurd z (by omega), fun _ => ⟨hr, by omega, by omega, fun z => absurd z (by omega), fun _ => ⟨fun z => absurd z (by omega), fun _ => ?_⟩⟩⟩⟩⟩
    refine nb_W.imp (sp_m_rowWhy (M := N2) (by rw [b6]; exact hr) (by rw [b3]; omega) (by rw [b6]; exact ⟨a, b⟩) (by rw [b8]; exact pu_row_at hI ⟨a, b⟩) (by rw [b6, b8]; exact hc) h7c (pu_MM_g hq.1)) ?_
    rintro r2 M2 ⟨rfl, q, -, e17⟩
    refine ⟨0, rfl, q.1, fun _ => ⟨by omega, fun _ => ⟨?_, q.mq h7'⟩⟩, fun z => absurd rfl z⟩
    rw [e17 ii (by omega), eT, eW]
theorem pa_rowSum (s : Int) : pu_pair 59 [(19, 2), (0, s)] 194 [(20, 603), (0, s), (98, 0)] := by
  apply pu_pair_r
  intro M k hI hk0 hk1
  obtain ⟨Ho, hHo, hx2, hx3, hh, hSn, hT, -, h7, hL⟩ := pu_I_at hI
  have hr := hT.1
  have n5 := hr.2.2.2.2.2.2.1
  have n4 := hr.2.2.2.2.2.1
  have h14 := pu_house hI
  have hz := hT.2.2.2.2.2.2.1
  have o := hh.1
  have cl := pu_cnt_le (R := M.1 608) (x := 1) (M.1 606 5).toNat
  obtain ⟨cnt, hc⟩ : ∃ cnt : Nat, (cnt : Int) = pu_cnt (M.1 608) 1 (M.1 606 5).toNat := ⟨(pu_cnt (M.1 608) 1 (M.1 606 5).toNat).toNat, by omega⟩
  have r1 : ∀ M1, pu_CQ M M1 1 → (s < 0 ∨ M.1 606 4 ≤ s) → nb_W 194 0 [(20, 603), (0, s), (98, 0)] [] M1 (fun r2 M2 => r2 = [(0, -1)] ∧ pu_MQ M1 M2 1) := by
    intro M1 hq hn
    obtain ⟨b3, b6, b8, b9, b12, b13, h7', -⟩ := pu_CQ_ref hI hq
    refine w_m_rowSum_0 hq.1 ?_
    have hg := (pu_MM_g hq.1)
    have g14 : (nb_wr (nb_wr M1 603 0 0) 603 11 0).1 603 14 = M1.1 603 14 := by rw [nb_wr_1, if_neg (by omega), nb_wr_1, if_neg (by omega)]
    refine w_m_rowWhy_0 hg.1 ?_
    rw [g14, hg.r, hg.2.2.1, b3, b6, b8, ← hc]
    have fin : nb_Lay (nb_wr (nb_wr M1 603 0 0) 603 11 0) → ∃ x3 : Int, ([((0 : Nat), (1 : Int))] : List nb_V) = [(0, x3)] ∧ nb_Lay (nb_wr (nb_wr M1 603 0 0) 603 11 0) ∧ (x3 = 0 → (nb_Lay (nb_wr (nb_wr M1 603 0 0) 603 11 0) → ([((0 : Nat), (nb_wr (nb_wr M1 603 0 0) 603 11 0).1 603 33)] : List nb_V) = [(0, -1)] ∧ pu_MQ M1 (nb_wr (nb_wr M1 603 0 0) 603 11 0) 1)) ∧ (x3 ≠ 0 → (nb_Lay (nb_wr (nb_wr (nb_wr M1 603 0 0) 603 11 0) 603 11 x3) → ([((0 : Nat), (-1 : Int))] : List nb_V) = [(0, -1)] ∧ pu_MQ M1 (nb_wr (nb_wr (nb_wr M1 603 0 0) 603 11 0) 603 11 x3) 1)) := fun hL' => ⟨1, rfl, hL', fun z => absurd z (by decide), fun _ hL2 => ⟨rfl, pu_MQ_no h7' hL2⟩⟩
    refine ⟨by omega, by omega, fun _ => fin, fun z => ⟨by omega, by omega, fun _ => fin, fun z2 => ⟨fun _ => fin, fun z3 => absurd z3 (by omega)⟩⟩⟩
  have r3 : ∀ M1, pu_CQ M M1 3 → (0 ≤ s ∧ s < M.1 606 4 ∧ 7 < (cnt : Int)) → nb_W 194 0 [(20, 603), (0, s), (98, 0)] [] M1 (fun r2 M2 => r2 = [(0, -1)] ∧ pu_MQ M1 M2 3) := by
    intro M1 hq hn
    obtain ⟨b3, b6, b8, b9, b12, b13, h7', -⟩ := pu_CQ_ref hI hq
    refine w_m_rowSum_0 hq.1 ?_
    have hg := (pu_MM_g hq.1)
    have g14 : (nb_wr (nb_wr M1 603 0 0) 603 11 0).1 603 14 = M1.1 603 14 := by rw [nb_wr_1, if_neg (by omega), nb_wr_1, if_neg (by omega)]
    refine w_m_rowWhy_0 hg.1 ?_
    rw [g14, hg.r, hg.2.2.1, b3, b6, b8, ← hc]
    refine ⟨by omega, by omega, fun z => absurd z (by omega), fun _ => ⟨by omega, by omega, fun z => absurd z (by omega), fun _ => ⟨fun z => absurd z (by omega), fun _ => ⟨hr, fun _ hL' => ⟨3, rfl, hL', fun z => absurd z (by decide), fun _ hL2 => ⟨rfl, pu_MQ_no h7' hL2⟩⟩, fun z => absurd z (by omega)⟩⟩⟩⟩
  refine w_c_rowSum_0 hL hHo hx2 ?_
  rw [o.2.2.2.1]
  have no1 : (s < 0 ∨ M.1 606 4 ≤ s) → nb_Lay (nb_wr M 2 15 1) → ∃ v tr : Int, ([((0 : Nat), (-1 : Int))] : List nb_V) = [(0, v)] ∧ pu_CQ M (nb_wr M 2 15 1) tr ∧ (tr = 4 → M.1 603 11 = 4) ∧ nb_W 194 0 [(20, 603), (0, s), (98, 0)] [] (nb_wr M 2 15 1) (fun r2 M2 => r2 = [(0, v)] ∧ pu_MQ (nb_wr M 2 15 1) M2 tr) := fun hn _ => ⟨-1, 1, rfl, pu_CQ_g hL, fun z => absurd z (by decide), r1 _ (pu_CQ_g hL) hn⟩
  refine ⟨fun a => no1 (Or.inl a), fun a => ⟨by omega, by omega, fun b => ?_, fun b => no1 (Or.inr b)⟩⟩
  have hq1 : pu_CQ M (nb_wr M 2 15 0) 0 := pu_CQ_g hL
  have hSn1 := pu_Sn_keep hr (Int.le_refl k) hSn (fun a i x y => hq1.2.2.2 a i (Or.inl (by omega)) (Or.inl (by omega)))
  refine nb_Wp (sp_sc_countOf hq1.1 nb_sc84 n5 hSn1.1) ⟨_, rfl, hq1.1, hq1.x2 hx2, ?_⟩
  rw [← hc]
  refine ⟨fun e _ => ?_, fun e => ?_⟩
  · have hq : pu_CQ M (nb_wr (nb_wr M 2 15 0) 2 15 3) 3 := pu_CQ.tr hq1
    exact ⟨-1, 3, rfl, hq, fun z => absurd z (by decide), r3 _ hq (by omega)⟩
  · have hq0 : pu_CQ M (nb_wr (nb_wr M 2 15 0) 2 15 0) 0 := pu_CQ.tr hq1
    have h7c : cnt ≤ 7 := by omega
    refine nb_W.imp (sp_rw_settle hI hq0 hc h7c ⟨a, b⟩) ?_
    rintro r' N1 ⟨rfl, hq, h4⟩
    refine ⟨rfl, hq.1, hq.x2 hx2, ?_⟩
    refine nb_W.imp (sp_rw_leastSum hq.1 h7c h4) ?_
    rintro r' N2 ⟨rfl, rfl⟩
    refine ⟨_, rfl, hq.1, hq.x2 hx2, fun _ => ⟨_, 0, rfl, hq, fun z => absurd z (by decide), ?_⟩⟩
    obtain ⟨b3, b6, b8, b9, b12, b13, h7', -⟩ := pu_CQ_ref hI hq
    have eW : pu_rw N2 = pu_rw M := by funext j; unfold pu_rw; rw [b6, b8]
    have eT : pu_rT N2 s = pu_rT M s := by funext d j; unfold pu_rT; rw [b6, b8, eW]
    refine w_m_rowSum_0 hq.1 ?_
    refine nb_W.imp (sp_m_rowWhy (M := N2) (by rw [b6]; exact hr) (by rw [b3]; omega) (by rw [b6]; exact ⟨a, b⟩) (by rw [b8]; exact pu_row_at hI ⟨a, b⟩) (by rw [b6, b8]; exact hc) h7c (pu_MM_g hq.1)) ?_
    rintro r2 M2 ⟨rfl, q, e33, -⟩
    refine ⟨0, rfl, q.1, fun _ _ => ⟨?_, q.mq h7'⟩, fun z => absurd rfl z⟩
    rw [e33, eT]
