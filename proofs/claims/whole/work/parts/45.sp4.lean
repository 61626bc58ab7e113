/-! CONTRACTS: begin, a second -/
theorem sp_m_begin {M : nb_M} {A s h t : Int} {v4 v5 v6 v7 v8 : nb_V} (W : nb_Lay M) (hA : A = 608 ∨ A = 609) (hr : pu_Rr (M.1 606)) (hc : pu_Rc (M.1 612)) (hR : pu_Rw (M.1 A)) (hk : pu_Rk (M.1 A)) (hs : 0 ≤ s ∧ s ≤ 3) (hh : 1 ≤ h ∧ h ≤ 2) (ht : M.1 A 0 = t) (ht2 : t ≤ 9999) : nb_R nb_P 133 0 [(20, 603), (3, A), (0, s), (0, h), v4, v5, v6, v7, v8] [] M = some ([], nb_up M A (pu_bgs (M.1 606) (M.1 612) (M.1 613) (M.1 606 5) t s h 10 (M.1 A))) := by
  have h0 : A ≠ 0 := by omega
  have h1 : A ≠ 1 := by omega
  have hl : nb_ln M A = 108 := by rcases hA with rfl | rfl <;> exact W.lk (by decide) (by decide +kernel)
  have a1 : 606 ≠ A := by omega
  have a2 : 612 ≠ A := by omega
  have a3 : 613 ≠ A := by omega
  have hnp := hr.2.2.2.2.2.2.1
  apply nb_Wq
  refine w_m_begin_0 W h0 h1 hl hs hh ⟨hr, hR, ?_⟩
  rw [ht]
  have ht0 : 0 ≤ t := by
    have := hR.2.2.1
    omega
  suffices H : ∀ (n : Nat) (R : Int → Int) v6 v7 v8, n ≤ 10 → pu_Rw R → pu_Rk R → pu_nb R 10 ≤ n → nb_W 133 2 [(20, 603), (3, A), (0, s), (0, h), (0, t), (0, pu_nf (M.1 606 5) (M.1 612) (M.1 613) R s), v6, v7, v8] [] (nb_up M A R) (fun r' M' => r' = [] ∧ M' = nb_up M A (pu_bgs (M.1 606) (M.1 612) (M.1 613) (M.1 606 5) t s h n R)) by
    have := H 10 (M.1 A) v6 v7 v8 (by omega) hR hk (pu_nb_le 10).2
    rw [nb_up_id] at this
    exact this
  intro n
  induction n with
  | zero =>
    intro R v6 v7 v8 hn hR hk hb
    have hx : pu_nf (M.1 606 5) (M.1 612) (M.1 613) R s = -2 := by
      rcases pu_nf_rg (cr := M.1 612) (pe := M.1 613) (R := R) (s := s) hnp with h | ⟨h2, h3, h4, h5⟩
      · exact h
      · obtain ⟨n, hn⟩ : ∃ n : Nat, pu_nf (M.1 606 5) (M.1 612) (M.1 613) R s = n := ⟨_, (Int.toNat_of_nonneg h2).symm⟩
        rw [hn] at h5
        have := pu_nb_pos (Or.inr h5) 10 (by omega)
        omega
    rw [hx]
    exact w_m_begin_2n (W.up (fun i w => nb_nrow hA)) h0 h1 hl ⟨rfl, rfl⟩
  | succ n ih =>
    intro R v6 v7 v8 hn hR hk hb
    have hW := W.up (f := R) (fun i w => nb_nrow (i := i) (w := w) hA)
    rcases pu_nf_rg (cr := M.1 612) (pe := M.1 613) (R := R) (s := s) hnp with hx | ⟨hx0, hx9, hxn, hxw⟩
    · have e : pu_bgs (M.1 606) (M.1 612) (M.1 613) (M.1 606 5) t s h (n + 1) R = R := by
        unfold pu_bgs
        rw [if_pos hx]
      rw [hx, e]
      exact w_m_begin_2n hW h0 h1 hl ⟨rfl, rfl⟩
    · have hx2 : pu_nf (M.1 606 5) (M.1 612) (M.1 613) R s ≠ -2 := by omega
      obtain ⟨k1, k2, k3⟩ := pu_bg_rk (r := M.1 606) (cr := M.1 612) (t := t) hs hh ⟨hx0, hx9⟩ hxw hR hk
      have k4 := pu_bg_rw (h := h) hr hc hR hs hh ⟨hx0, hx9⟩ ⟨ht0, ht2⟩ k3
      have hd := pu_dn_rg (t := t) hr hc hR hs ⟨hx0, hx9⟩
      have hf := pu_far_rg (hR.2.1 s hs.1 hs.2).1 (hR.1 _ hx0 hx9).2.1
      have hm := pu_mul (hc s hs.1 hs.2).2.1 hf
      have hb2 := pu_tb_rg hr ⟨hx0, hx9⟩ (last := R (92 + 4 * s + 3) - 1)
      have q1 := hR.1 _ hx0 hx9
      have q2 := hR.2.1 s hs.1 hs.2
      have q3 := hR.2.2.2.1
      have ih := fun v6 v7 v8 => ih (pu_bg (M.1 606) (M.1 612) t s h (pu_nf (M.1 606 5) (M.1 612) (M.1 613) R s) R) v6 v7 v8 (by omega) k4 k1 (by omega)
      generalize hg : pu_nf (M.1 606 5) (M.1 612) (M.1 613) R s = p at *
      have e : pu_bgs (M.1 606) (M.1 612) (M.1 613) (M.1 606 5) t s h (n + 1) R = if pu_dn (M.1 606) (M.1 612) R t s p ≤ t then pu_bgs (M.1 606) (M.1 612) (M.1 613) (M.1 606 5) t s h n (pu_bg (M.1 606) (M.1 612) t s h p R) else pu_bg (M.1 606) (M.1 612) t s h p R := by
        rw [pu_bgs, hg, if_neg hx2]
      rw [e]
      refine w_m_begin_2 hW h0 h1 hl hA hs hh ⟨hx0, hx9⟩ ⟨ht0, by omega⟩ ?_ ?_ ?_ ?_ ?_ ?_
      all_goals simp only [nb_up_same, nb_up_other a1, nb_up_other a2, nb_up_other a3]
      · exact q2.1
      · exact q1.2.1
      · exact (hc s hs.1 hs.2).2.1
      · exact ⟨q3.1, k3⟩
      · exact q2.2.2.2
      refine ⟨by omega, by omega, by omega, by omega, by omega, by omega, by omega, by omega, hr, by omega, by omega, hx0, hx9, by omega, by omega, ?_⟩
      refine nb_WL (M' := nb_up M A (pu_bg (M.1 606) (M.1 612) t s h p R)) ?_ rfl rfl (by
        simp only [nb_wr_up, nb_up_same, nb_up_up]
        rfl)
      refine w_m_begin_14 (W.up (fun i w => nb_nrow hA)) h0 h1 hl hs ⟨fun h3 => ?_, fun h3 => ⟨by rw [nb_up_other a1]; exact hr, ?_, ?_⟩⟩
      · rw [if_neg (by unfold pu_dn; omega)]
        exact w_m_begin_2n (W.up (fun i w => nb_nrow hA)) h0 h1 hl ⟨rfl, rfl⟩
      · rw [nb_up_same]
        exact k4
      · rw [if_pos (by unfold pu_dn; omega), nb_up_same, nb_up_other a1, nb_up_other a2, nb_up_other a3]
        exact ih _ _ _
