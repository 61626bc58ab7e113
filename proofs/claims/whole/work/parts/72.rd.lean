/-! CONTRACTS: what is counted, what became of someone, who was passed -/
def pu_cnt (R : Int → Int) (x : Int) : Nat → Int
  | 0 => 0
  | n + 1 => pu_cnt R x n + (if R (12 + 8 * n) = x then 1 else 0)
theorem pu_cnt_le {R : Int → Int} {x : Int} : ∀ n : Nat, 0 ≤ pu_cnt R x n ∧ pu_cnt R x n ≤ n
  | 0 => by
    unfold pu_cnt
    omega
  | n + 1 => by
    have h := pu_cnt_le (R := R) (x := x) n
    unfold pu_cnt
    split <;> omega
theorem sp_sc_countOf {M : nb_M} {A np ns x : Int} {cr pe R : Int → Int} {v2 v3 : nb_V} (W : nb_Lay M) (hA : nb_sc A) (hnp : 0 ≤ np ∧ np ≤ 10) (hS : pu_S M A np ns cr pe R) : nb_R nb_P 265 0 [(15, A), (0, x), v2, v3] [] M = some ([(0, pu_cnt R x np.toNat)], M) := by
  obtain ⟨h4, h5, h6, h7, hG, hV⟩ := hS
  apply nb_Wq
  refine w_sc_countOf_0 W hA ?_
  suffices h : ∀ (n k : Nat), k + n = np.toNat → nb_W 265 1 [(15, A), (0, x), (0, pu_cnt R x k), (0, (k : Int))] [] M (fun r' M' => r' = [(0, pu_cnt R x np.toNat)] ∧ M' = M) from h _ 0 (Nat.zero_add _)
  intro n
  induction n with
  | zero =>
    intro k hk
    have := pu_cnt_le (R := R) (x := x) k
    refine w_sc_countOf_1 W hA (by omega) (by omega) ?_
    rw [h4]
    refine ⟨by omega, by omega, fun h => absurd h (by omega), fun _ => ⟨?_, rfl⟩⟩
    rw [show np.toNat = k by omega]
  | succ n ih =>
    intro k hk
    have := pu_cnt_le (R := R) (x := x) k
    have ih := ih (k + 1) (by omega)
    obtain ⟨g0, g2, g3, g4, g5, g6, g7, g8, -⟩ := hG k (by omega) (by omega)
    have e2 : pu_cnt R x (k + 1) = pu_cnt R x k + (if R (12 + 8 * k) = x then 1 else 0) := rfl
    rw [e2] at ih
    refine w_sc_countOf_1 W hA (by omega) (by omega) ?_
    rw [h4, g8]
    refine ⟨by omega, by omega, fun _ => ⟨fun c => ?_, fun c => ?_⟩, fun h => absurd h (by omega)⟩
    · rw [if_pos c] at ih
      exact ih
    · rw [if_neg c, Int.add_zero] at ih
      exact ih
/-- the wait, as the class counts -/
def pu_wc (pe R : Int → Int) (bell p : Int) : Int := if R (12 + 8 * p) = 0 ∨ R (12 + 8 * p) = 5 then 0 else if R (12 + 8 * p) = 1 then bell - pe (7 * p + 2) else if R (12 + 8 * p) = 2 then R (12 + 8 * p + 4) - pe (7 * p + 2) else R (12 + 8 * p + 7) - pe (7 * p + 2)
theorem sp_sc_waitOf {M : nb_M} {A np ns p bell : Int} {cr pe R : Int → Int} {v2 : nb_V} (W : nb_Lay M) (hA : nb_sc A) (hnp : np ≤ 10) (hp : 0 ≤ p ∧ p < np) (hR : pu_Rw R) (hpe : 0 ≤ pe (7 * p + 2) ∧ pe (7 * p + 2) ≤ 600) (hS : pu_S M A np ns cr pe R) (hX : pu_X M A np pe R) (h8 : M.1 A 8 = bell) (hb : 0 ≤ bell ∧ bell ≤ 9000) : nb_R nb_P 266 0 [(15, A), (0, p), v2] [] M = some ([(0, pu_wc pe R bell p)], M) := by
  obtain ⟨g0, g2, g3, g4, g5, g6, g7, g8, -⟩ := hS.2.2.2.2.1 p hp.1 hp.2
  obtain ⟨x1, x2, -⟩ := hX p hp.1 hp.2
  have q := hR.1 p hp.1 (by omega)
  apply nb_Wq
  refine w_sc_waitOf_0 W hA (by omega) ?_
  rw [g8, g2, h8]
  unfold pu_wc
  refine ⟨fun h => ⟨?_, rfl⟩, fun h0 => ⟨fun h => ⟨?_, rfl⟩, fun h5 => ⟨fun h => ⟨by omega, by omega, ?_, rfl⟩, fun h => ?_⟩⟩⟩
  · rw [if_pos (Or.inl h)]
  · rw [if_pos (Or.inr h)]
  · rw [if_neg (by omega), if_pos h]
  · rw [if_neg (by omega), if_neg h]
    by_cases h2 : R (12 + 8 * p) = 2
    · rw [if_pos h2, x1 h2]
      exact ⟨by omega, by omega, rfl, rfl⟩
    · rw [if_neg h2, x2 (by omega)]
      exact ⟨by omega, by omega, rfl, rfl⟩
theorem sp_sc_servedWait {M : nb_M} {A np ns p : Int} {cr pe R : Int → Int} (W : nb_Lay M) (hA : nb_sc A) (hnp : np ≤ 10) (hp : 0 ≤ p ∧ p < np) (hR : pu_Rw R) (hpe : 0 ≤ pe (7 * p + 2) ∧ pe (7 * p + 2) ≤ 600) (hS : pu_S M A np ns cr pe R) (hX : pu_X M A np pe R) : nb_R nb_P 267 0 [(15, A), (0, p)] [] M = some ([(0, if R (12 + 8 * p) = 2 ∨ R (12 + 8 * p) = 3 then pu_wc pe R 0 p else 1000000)], M) := by
  obtain ⟨g0, g2, g3, g4, g5, g6, g7, g8, -⟩ := hS.2.2.2.2.1 p hp.1 hp.2
  obtain ⟨x1, x2, -⟩ := hX p hp.1 hp.2
  have q := hR.1 p hp.1 (by omega)
  apply nb_Wq
  refine w_sc_servedWait_0 W hA (by omega) ?_
  rw [g8, g2]
  unfold pu_wc
  refine ⟨fun h => ?_, fun h2 => ⟨fun h => ?_, fun h => ⟨?_, rfl⟩⟩⟩
  · rw [x1 h, if_pos (Or.inl h), if_neg (by omega), if_neg (by omega), if_pos h]
    exact ⟨by omega, by omega, rfl, rfl⟩
  · rw [x2 (Or.inl h), if_pos (Or.inr h), if_neg (by omega), if_neg (by omega), if_neg (by omega)]
    exact ⟨by omega, by omega, rfl, rfl⟩
  · rw [if_neg (by omega)]
/-- the i-th who waits; -1 -/
def pu_wn (R : Int → Int) (i : Int) : Nat → Int
  | 0 => -1
  | n + 1 => if pu_wn R i n ≠ -1 then pu_wn R i n else if R (12 + 8 * n) = 1 ∧ pu_cnt R 1 n = i then (n : Int) else -1
theorem pu_wn_rg {R : Int → Int} {i : Int} : ∀ n : Nat, pu_wn R i n = -1 ∨ (0 ≤ pu_wn R i n ∧ pu_wn R i n < n ∧ R (12 + 8 * pu_wn R i n) = 1)
  | 0 => Or.inl rfl
  | n + 1 => by
    have h := pu_wn_rg (R := R) (i := i) n
    unfold pu_wn
    split
    · rename_i h2
      rcases h with h | h
      · exact absurd h h2
      · exact Or.inr ⟨h.1, by omega, h.2.2⟩
    · split
      · rename_i h3
        exact Or.inr ⟨by omega, by omega, h3.1⟩
      · exact Or.inl rfl
theorem pu_wn_end {R : Int → Int} {i : Int} {k : Nat} (h : pu_wn R i k ≠ -1) : ∀ n : Nat, pu_wn R i (k + n) = pu_wn R i k
  | 0 => rfl
  | n + 1 => by
    have ih := pu_wn_end h n
    show pu_wn R i ((k + n) + 1) = _
    rw [pu_wn, ih, if_pos h]
theorem sp_sc_waitN {M : nb_M} {A np ns i : Int} {cr pe R : Int → Int} {v2 v3 : nb_V} (W : nb_Lay M) (hA : nb_sc A) (hnp : 0 ≤ np ∧ np ≤ 10) (hi : 0 ≤ i ∧ i ≤ 2147483647) (hS : pu_S M A np ns cr pe R) : nb_R nb_P 0 0 [(15, A), (0, i), v2, v3] [] M = some ([(0, pu_wn R i np.toNat)], M) := by
  obtain ⟨h4, h5, h6, h7, hG, hV⟩ := hS
  apply nb_Wq
  refine w_sc_waitN_0 W hA ?_
  suffices h : ∀ (n k : Nat), k + n = np.toNat → pu_wn R i k = -1 → pu_cnt R 1 k ≤ i → ∀ v1, nb_W 0 1 [(15, A), v1, (0, i - pu_cnt R 1 k), (0, (k : Int))] [] M (fun r' M' => r' = [(0, pu_wn R i np.toNat)] ∧ M' = M) by
    have := h _ 0 (Nat.zero_add _) rfl hi.1 (0, i)
    rwa [show i - pu_cnt R 1 0 = i from Int.sub_zero i] at this
  intro n
  induction n with
  | zero =>
    intro k hk hw hc v1
    have := pu_cnt_le (R := R) (x := 1) k
    refine w_sc_waitN_1 W hA (by omega) (by omega) ?_
    rw [h4]
    refine ⟨by omega, by omega, fun h => absurd h (by omega), fun _ => ⟨?_, rfl⟩⟩
    rw [show np.toNat = k by omega, hw]
  | succ n ih =>
    intro k hk hw hc v1
    have := pu_cnt_le (R := R) (x := 1) k
    have ih := ih (k + 1) (by omega)
    obtain ⟨g0, g2, g3, g4, g5, g6, g7, g8, -⟩ := hG k (by omega) (by omega)
    have e1 : pu_wn R i (k + 1) = if R (12 + 8 * k) = 1 ∧ pu_cnt R 1 k = i then (k : Int) else -1 := by
      rw [pu_wn, if_neg (by omega)]
    have e2 : pu_cnt R 1 (k + 1) = pu_cnt R 1 k + (if R (12 + 8 * k) = 1 then 1 else 0) := rfl
    refine w_sc_waitN_1 W hA (by omega) (by omega) ?_
    rw [h4, g8]
    refine ⟨by omega, by omega, fun _ => ⟨fun c => ⟨fun c2 => ⟨?_, rfl⟩, fun c2 => ?_⟩, fun c => ?_⟩, fun h => absurd h (by omega)⟩
    · rw [if_pos ⟨c, by omega⟩] at e1
      have e3 := pu_wn_end (R := R) (i := i) (k := k + 1) (by omega) n
      rw [show k + 1 + n = np.toNat by omega] at e3
      rw [e3, e1]
    · rw [if_neg (by omega)] at e1
      rw [if_pos c] at e2
      have := ih e1 (by omega) (nb_clr v1)
      rwa [show i - pu_cnt R 1 (k + 1) = i - pu_cnt R 1 k - 1 by omega] at this
    · rw [if_neg (by omega)] at e1
      rw [if_neg c] at e2
      have := ih e1 (by omega) v1
      rwa [show i - pu_cnt R 1 (k + 1) = i - pu_cnt R 1 k by omega] at this
/-! the reference's -/
def pu_fo (R : Int → Int) (p : Int) : Int := if R (12 + 8 * p) = 2 then 0 else if R (12 + 8 * p) = 3 then (if R (12 + 8 * p + 4) = -2 then 1 else 0) else if R (12 + 8 * p) = 4 then 2 else if R (12 + 8 * p) = 5 then 4 else 3
def pu_wo (pe R : Int → Int) (bell p : Int) : Int := if pu_fo R p = 4 then -2 else (if R (12 + 8 * p + 4) ≠ -2 then R (12 + 8 * p + 4) else if R (12 + 8 * p + 7) ≠ -2 then R (12 + 8 * p + 7) else bell) - pe (7 * p + 2)
theorem sp_m_fateOf {M : nb_M} {p : Int} (W : nb_Lay M) (hp : 0 ≤ p ∧ p ≤ 9) : nb_R nb_P 135 0 [(20, 603), (0, p)] [] M = some ([(0, pu_fo (M.1 609) p)], M) := by
  apply nb_Wq
  refine w_m_fateOf_0 W hp ?_
  unfold pu_fo
  refine ⟨fun h => ⟨?_, rfl⟩, fun h => ⟨fun h2 => ⟨?_, rfl⟩, fun h2 => ⟨?_, rfl⟩⟩, fun h => ⟨?_, rfl⟩, fun h => ⟨?_, rfl⟩, fun h2 h3 h4 h5 => ⟨?_, rfl⟩⟩
  · rw [if_pos h]
  · rw [if_neg (by omega), if_pos h, if_pos h2]
  · rw [if_neg (by omega), if_pos h, if_neg h2]
  · rw [if_neg (by omega), if_neg (by omega), if_pos h]
  · rw [if_neg (by omega), if_neg (by omega), if_neg (by omega), if_pos h]
  · rw [if_neg h2, if_neg h3, if_neg h4, if_neg h5]
theorem sp_m_waitOf {M : nb_M} {p : Int} {v2 : nb_V} (W : nb_Lay M) (hp : 0 ≤ p ∧ p ≤ 9) (hR : pu_Rw (M.1 609)) (hP : pu_Rp (M.1 613)) (hb : 0 ≤ M.1 603 26 ∧ M.1 603 26 ≤ 9000) : nb_R nb_P 136 0 [(20, 603), (0, p), v2] [] M = some ([(0, pu_wo (M.1 613) (M.1 609) (M.1 603 26) p)], M) := by
  have q := hR.1 p hp.1 hp.2
  have q2 := (hP p hp.1 hp.2).2.2.1
  apply nb_Wq
  refine w_m_waitOf_0 W hp ?_
  unfold pu_wo pu_fo
  repeat' (first | with_reducible apply And.intro | intro _)
  all_goals first
    | omega
    | rfl
    | (simp [*]; done)
    | (simp [*] <;> omega)
theorem sp_m_passedOf {M : nb_M} {p : Int} {v2 v3 v4 v5 v6 : nb_V} (W : nb_Lay M) (hR : pu_Rw (M.1 609)) (hp : 0 ≤ p ∧ p ≤ 9) : nb_R nb_P 138 0 [(20, 603), (0, p), v2, v3, v4, v5, v6] [] M = some ([(0, pu_pa (M.1 613) (M.1 609) p)], M) := by
  have h1 := hR.2.2.2.1
  have hstop : ∀ k : Nat, (pu_pas (M.1 613) (M.1 609) p k).2 = true → ∀ n : Nat, pu_pas (M.1 613) (M.1 609) p (k + n) = pu_pas (M.1 613) (M.1 609) p k := by
    intro k hk n
    induction n with
    | zero => rfl
    | succ n ih =>
      show pu_pas _ _ p ((k + n) + 1) = _
      rw [pu_pas, ih, if_pos hk]
  apply nb_Wq
  refine w_m_passedOf_0 W ?_
  suffices h : ∀ (n k : Nat), k + n = (M.1 609 1).toNat → (pu_pas (M.1 613) (M.1 609) p k).2 = false → ∀ v4 v5 v6, nb_W 138 1 [(20, 603), (0, p), (0, (pu_pas (M.1 613) (M.1 609) p k).1), (0, (k : Int)), v4, v5, v6] [] M (fun r' M' => r' = [(0, pu_pa (M.1 613) (M.1 609) p)] ∧ M' = M) from h _ 0 (Nat.zero_add _) rfl _ _ _
  intro n
  induction n with
  | zero =>
    intro k hk hs v4 v5 v6
    refine w_m_passedOf_1 W hp (by omega) ⟨by omega, by omega, fun h => absurd h (by omega), fun _ => ⟨?_, rfl⟩⟩
    unfold pu_pa
    rw [← show k = (M.1 609 1).toNat by omega]
  | succ n ih =>
    intro k hk hs v4 v5 v6
    have ih := ih (k + 1) (by omega)
    have hw := hR.2.2.2.2 k (by omega) (by omega)
    have e : pu_pas (M.1 613) (M.1 609) p (k + 1) = if M.1 609 (2 + k) = p then ((pu_pas (M.1 613) (M.1 609) p k).1, true) else
      (if (M.1 613 (7 * p + 2) < M.1 613 (7 * M.1 609 (2 + k) + 2) ∨ (M.1 613 (7 * M.1 609 (2 + k) + 2) = M.1 613 (7 * p + 2) ∧ p < M.1 609 (2 + k))) ∧ M.1 613 (7 * p + 2) ≤ M.1 609 (12 + 8 * M.1 609 (2 + k) + 4) ∧ ¬ (M.1 609 (12 + 8 * p + 7) ≠ -2 ∧ M.1 609 (12 + 8 * p + 7) ≤ M.1 609 (12 + 8 * M.1 609 (2 + k) + 4)) then nb_or (pu_pas (M.1 613) (M.1 609) p k).1 (nb_shl 1 (M.1 609 (2 + k))) else (pu_pas (M.1 613) (M.1 609) p k).1, false) := by
      rw [pu_pas, hs]
      rfl
    by_cases hq : M.1 609 (2 + k) = p
    · rw [if_pos hq] at e
      refine w_m_passedOf_1 W hp (by omega) ⟨by omega, by omega, fun _ => ⟨hw.1, hw.2, fun _ => ⟨?_, rfl⟩, fun h => absurd hq h⟩, fun h => absurd h (by omega)⟩
      have := hstop (k + 1) (by rw [e]) n
      unfold pu_pa
      rw [← show k + 1 + n = (M.1 609 1).toNat by omega, this, e]
    · rw [if_neg hq] at e
      rw [e] at ih
      have ih := ih rfl
      clear e hstop
      refine w_m_passedOf_1 W hp (by omega) ⟨by omega, by omega, fun _ => ⟨hw.1, hw.2, fun h => absurd h hq, fun _ => ?_⟩, fun h => absurd h (by omega)⟩
      generalize hu : M.1 609 (2 + k) = u at *
      simp only at ih
      repeat' (first | with_reducible apply And.intro | intro _)
      all_goals first
        | omega
        | (rw [if_pos (by omega)] at ih; exact ih _ _ _)
        | (rw [if_neg (by omega)] at ih; exact ih _ _ _)
