/-! CONTRACTS: a second, a copy -/
theorem sp_m_copy {M : nb_M} {a i b j n : Int} {v5 : nb_V} {n0 n2 : Int} (h0 : a ≠ 0) (h2 : b ≠ 0) (h21 : b ≠ 1) (hab : a ≠ b) (hn0 : nb_ln M a = n0) (hn2 : nb_ln M b = n2) (hi : 0 ≤ i ∧ i ≤ 2000) (hj : 0 ≤ j ∧ j ≤ 2000) (hn : 0 ≤ n ∧ n ≤ 2000) (h3 : i + n ≤ n0) (h4 : j + n ≤ n2) : nb_R nb_P 86 0 [(3, a), (0, i), (3, b), (0, j), (0, n), v5] [] M = some ([], nb_up M b (pu_cpy (M.1 a) (M.1 b) i j n)) := by
  apply nb_Wq
  refine w_m_copy_0 h0 h2 h21 hn0 hn2 hi hj hn ?_
  suffices h : ∀ (m k : Nat), k + m = n.toNat → nb_W 86 1 [(3, a), (0, i), (3, b), (0, j), (0, n), (0, (k : Int))] [] (nb_up M b (pu_cpy (M.1 a) (M.1 b) i j k)) (fun r' M' => r' = [] ∧ M' = nb_up M b (pu_cpy (M.1 a) (M.1 b) i j n)) by
    have := h n.toNat 0 (by omega)
    rw [show pu_cpy (M.1 a) (M.1 b) i j ((0 : Nat) : Int) = M.1 b by
      funext q
      unfold pu_cpy
      rw [if_neg (by omega)], nb_up_id] at this
    exact this
  intro m
  induction m with
  | zero =>
    intro k hk
    obtain rfl : n = k := by omega
    exact w_m_copy_1 h0 h2 h21 (by exact hn0) (by exact hn2) hi hj (by omega) (by omega) ⟨fun h => absurd h (by omega), fun _ => ⟨rfl, rfl⟩⟩
  | succ m ih =>
    intro k hk
    have ih := ih (k + 1) (by omega)
    refine w_m_copy_1 h0 h2 h21 (by exact hn0) (by exact hn2) hi hj (by omega) (by omega) ⟨fun h => ?_, fun h => absurd h (by omega)⟩
    refine ⟨by omega, by omega, by omega, by omega, ?_⟩
    refine nb_WL ih rfl rfl ?_
    rw [nb_wr_up, nb_up_up, nb_up_same, nb_up_other hab]
    congr 1
    funext q
    unfold nb_ud pu_cpy
    by_cases e : q = j + k
    · subst e
      rw [if_pos rfl, if_pos (by omega), show j + (k : Int) - j + i = i + k by omega]
    · rw [if_neg e]
      by_cases e2 : j ≤ q ∧ q < j + k
      · rw [if_pos e2, if_pos (by omega)]
      · rw [if_neg e2, if_neg (by omega)]
theorem sp_m_second {M : nb_M} {A : Int} {v2 v3 v4 v5 : nb_V} (W : nb_Lay M) (hA : A = 608 ∨ A = 609) (hr : pu_Rr (M.1 606)) (hc : pu_Rc (M.1 612)) (hp : pu_Rp (M.1 613)) (hR : pu_Rw (M.1 A)) (hk : pu_Rk (M.1 A)) (hns : 0 ≤ M.1 603 25 ∧ M.1 603 25 ≤ 4) (h9 : M.1 A 0 ≤ 9998) : nb_R nb_P 132 0 [(20, 603), (3, A), v2, v3, v4, v5] [] M = some ([], nb_up M A (pu_sec (M.1 606) (M.1 612) (M.1 613) (M.1 603 25) (M.1 A))) := by
  have h0 : A ≠ 0 := by omega
  have h1 : A ≠ 1 := by omega
  have hl : nb_ln M A = 108 := by rcases hA with rfl | rfl <;> exact W.lk (by decide) (by decide +kernel)
  have a0 : 603 ≠ A := by omega
  have a1 : 606 ≠ A := by omega
  have a2 : 612 ≠ A := by omega
  have a3 : 613 ≠ A := by omega
  have hnp := hr.2.2.2.2.2.2.1
  have ht := hR.2.2.1
  have hW : ∀ R, nb_Lay (nb_up M A R) := fun R => W.up (fun i w => nb_nrow hA)
  apply nb_Wq
  refine w_m_second_0 W h0 h1 hl hA ?_
  generalize hg : M.1 A 0 = t at *
  have hm : ∀ n : Nat, n ≤ 10 → _ := fun n hn => pu_cms_ok (pe := M.1 613) (t := t) (by omega) hR hk n hn
  -- who comes
  suffices H : ∀ (n k : Nat), k + n = (M.1 606 5).toNat → ∀ v4 v5, nb_W 132 1 [(20, 603), (3, A), (0, t), (0, (k : Int)), v4, v5] [] (nb_up M A (pu_cms (M.1 613) t (M.1 A) k)) (fun r' M' => r' = [] ∧ M' = nb_up M A (pu_sec (M.1 606) (M.1 612) (M.1 613) (M.1 603 25) (M.1 A))) by
    have := H _ 0 (Nat.zero_add _) v4 v5
    rw [show pu_cms (M.1 613) t (M.1 A) 0 = M.1 A from rfl, nb_up_id] at this
    exact this
  intro n
  induction n with
  | zero =>
    intro k hk2 v4 v5
    refine w_m_second_1 (hW _) h0 h1 hl hA (by omega) (by omega) (by rw [nb_up_other a1]; exact hnp) ⟨fun h => ?_, fun _ => ?_⟩
    · rw [nb_up_other a1] at h
      omega
    -- the staff
    have hk3 : k = (M.1 606 5).toNat := by omega
    subst hk3
    obtain ⟨g1, g2, g3⟩ := hm (M.1 606 5).toNat (by omega)
    have gs : ∀ n : Nat, n ≤ 4 → _ := fun n hn => pu_ss_ok (pe := M.1 613) hr hc hnp (t := t) (by omega) g1 g2 n hn
    suffices H : ∀ (n s : Nat), s + n = (M.1 603 25).toNat → ∀ v4 v5, nb_W 132 22 [(20, 603), (3, A), (0, t), (0, (s : Int)), v4, v5] [] (nb_up M A (pu_ss (M.1 606) (M.1 612) (M.1 613) (M.1 606 5) t s (pu_cms (M.1 613) t (M.1 A) (M.1 606 5).toNat))) (fun r' M' => r' = [] ∧ M' = nb_up M A (pu_sec (M.1 606) (M.1 612) (M.1 613) (M.1 603 25) (M.1 A))) from H _ 0 (Nat.zero_add _) v4 v5
    intro n
    induction n with
    | zero =>
      intro s hs v4 v5
      obtain ⟨j1, j2, j3⟩ := gs s (by omega)
      refine w_m_second_22 (hW _) h0 h1 hl hA (by omega) (by omega) (by rw [nb_up_other a0]; exact hns) (by rw [nb_up_same, j3, g3]; omega) ⟨fun h => ?_, fun _ => ⟨rfl, ?_⟩⟩
      · rw [nb_up_other a0] at h
        omega
      · have hs3 : s = (M.1 603 25).toNat := by omega
        subst hs3
        rw [nb_wr_up, nb_up_up, nb_up_same, j3, g3]
        unfold pu_sec
        rw [hg]
    | succ n ih =>
      intro s hs v4 v5
      obtain ⟨j1, j2, j3⟩ := gs s (by omega)
      have ih := ih (s + 1) (by omega)
      refine w_m_second_22 (hW _) h0 h1 hl hA (by omega) (by omega) (by rw [nb_up_other a0]; exact hns) (by rw [nb_up_same, j3, g3]; omega) ⟨fun _ => ?_, fun h => ?_⟩
      · have hh := (hc s (by omega) (by omega)).2.2
        have gh : ∀ n : Nat, n ≤ 2 → _ := fun n hn => pu_sh_ok (pe := M.1 613) hr hc hnp (s := s) (by omega) (t := t) (by omega) j1 j2 n hn
        suffices H : ∀ (n h : Nat), h + n = (M.1 612 (6 * s + 5)).toNat → ∀ v5, nb_W 132 24 [(20, 603), (3, A), (0, t), (0, (s : Int)), (0, (h : Int) + 1), v5] [] (nb_up M A (pu_sh (M.1 606) (M.1 612) (M.1 613) (M.1 606 5) t s h (pu_ss (M.1 606) (M.1 612) (M.1 613) (M.1 606 5) t s (pu_cms (M.1 613) t (M.1 A) (M.1 606 5).toNat)))) (fun r' M' => r' = [] ∧ M' = nb_up M A (pu_sec (M.1 606) (M.1 612) (M.1 613) (M.1 603 25) (M.1 A))) from H _ 0 (Nat.zero_add _) v5
        intro n
        induction n with
        | zero =>
          intro h hh2 v5
          refine w_m_second_24 (hW _) h0 h1 hl hA (by omega) (by omega) (by omega) (by rw [nb_up_other a2]; exact hh) ⟨fun _ => ?_, fun h => ?_⟩
          · have hh3 : h = (M.1 612 (6 * s + 5)).toNat := by omega
            subst hh3
            exact ih _ _
          · rw [nb_up_other a2] at h
            omega
        | succ n ih2 =>
          intro h hh2 v5
          have ih2 := ih2 (h + 1) (by omega)
          obtain ⟨l1, l2, l3⟩ := gh h (by omega)
          refine w_m_second_24 (hW _) h0 h1 hl hA (by omega) (by omega) (by omega) (by rw [nb_up_other a2]; exact hh) ⟨fun h => ?_, fun _ => ⟨fun h5 => ?_, fun h5 => ?_⟩⟩
          · rw [nb_up_other a2] at h
            omega
          · rw [nb_up_same] at h5
            unfold pu_sh at ih2
            rw [if_neg (by omega)] at ih2
            exact ih2 _
          · rw [nb_up_same] at h5
            unfold pu_sh at ih2
            rw [if_pos h5] at ih2
            have hb := sp_m_begin (M := nb_up M A (pu_sh (M.1 606) (M.1 612) (M.1 613) (M.1 606 5) t s h (pu_ss (M.1 606) (M.1 612) (M.1 613) (M.1 606 5) t s (pu_cms (M.1 613) t (M.1 A) (M.1 606 5).toNat)))) (s := s) (h := (h : Int) + 1) (t := t) (v4 := (98, 0)) (v5 := (98, 0)) (v6 := (98, 0)) (v7 := (98, 0)) (v8 := (98, 0)) (hW _) hA (by rw [nb_up_other a1]; exact hr) (by rw [nb_up_other a2]; exact hc) (by rw [nb_up_same]; exact l1) (by rw [nb_up_same]; exact l2) (by omega) (by omega) (by rw [nb_up_same, l3, j3, g3]; exact hg) (by omega)
            rw [nb_up_other a1, nb_up_other a2, nb_up_other a3, nb_up_same, nb_up_up] at hb
            exact nb_Wp hb ⟨rfl, hW _, ih2 _⟩
      · rw [nb_up_other a0] at h
        omega
  | succ n ih =>
    intro k hk2 v4 v5
    have ih := ih (k + 1) (by omega)
    have hq := hp k (by omega) (by omega)
    unfold pu_cms pu_cm at ih
    refine w_m_second_1 (hW _) h0 h1 hl hA (by omega) (by omega) (by rw [nb_up_other a1]; exact hnp) ⟨fun h => ?_, fun h => ?_⟩
    · simp only [nb_up_same, nb_up_other a3]
      generalize pu_cms (M.1 613) t (M.1 A) k = T at *
      repeat' (first | with_reducible apply And.intro | intro _)
      all_goals first
        | omega
        | (refine nb_WL (ih ?_ ?_) ?_ rfl ?_
           rotate_left 2
           · (repeat' (first | with_reducible rfl | refine nb_Lc ?_ ?_ | refine nb_Pc ?_)) <;> omega
           · (try simp only [nb_wr_up, nb_up_up, nb_up_same, nb_ud_ud])
             refine congrArg (nb_up M A) ?_
             (repeat' split) <;> first | rfl | omega | exact (nb_ud_id (by assumption)).symm)
    · rw [nb_up_other a1] at h
      omega
