/-! CONTRACTS: pushedOf, manyWaiting, ones -/
theorem sp_m_pushedOf {M : nb_M} {p : Int} {v2 v3 : nb_V} (W : nb_Lay M) (hr : pu_Rr (M.1 606)) (hR : pu_Rw (M.1 609)) (hp : 0 ≤ p ∧ p ≤ 9) : nb_R nb_P 139 0 [(20, 603), (0, p), v2, v3] [] M = some ([(0, pu_pu (M.1 613) (M.1 609) (M.1 606 5) p)], M) := by
  have hnp := hr.2.2.2.2.2.2.1
  apply nb_Wq
  refine w_m_pushedOf_0 W hp ⟨fun h => ⟨?_, rfl⟩, fun h => ?_⟩
  · unfold pu_pu
    rw [if_pos h]
  · have e : pu_pu (M.1 613) (M.1 609) (M.1 606 5) p = pu_pus (M.1 613) (M.1 609) p (M.1 606 5).toNat := by
      unfold pu_pu
      rw [if_neg h]
    rw [e]
    suffices h : ∀ (n k : Nat), k + n = (M.1 606 5).toNat → nb_W 139 4 [(20, 603), (0, p), (0, pu_pus (M.1 613) (M.1 609) p k), (0, (k : Int))] [] M (fun r' M' => r' = [(0, pu_pus (M.1 613) (M.1 609) p (M.1 606 5).toNat)] ∧ M' = M) from h _ 0 (Nat.zero_add _)
    intro n
    induction n with
    | zero =>
      intro k hk
      refine w_m_pushedOf_4 W hp (by omega) ⟨by omega, by omega, fun h => absurd h (by omega), fun _ => ⟨?_, rfl⟩⟩
      rw [show (M.1 606 5).toNat = k by omega]
    | succ n ih =>
      intro k hk
      have ih := ih (k + 1) (by omega)
      have e2 : pu_pus (M.1 613) (M.1 609) p (k + 1) = if (k : Int) ≠ p ∧ (M.1 613 (7 * k + 2) < M.1 613 (7 * p + 2) ∨ (M.1 613 (7 * p + 2) = M.1 613 (7 * k + 2) ∧ (k : Int) < p)) ∧ pu_bit (pu_pa (M.1 613) (M.1 609) k) p then nb_or (pu_pus (M.1 613) (M.1 609) p k) (nb_shl 1 k) else pu_pus (M.1 613) (M.1 609) p k := rfl
      rw [e2] at ih
      clear e2 e
      refine w_m_pushedOf_4 W hp (by omega) ⟨by omega, by omega, fun _ => ?_, fun h => absurd h (by omega)⟩
      unfold pu_bit at ih
      generalize nb_and (nb_shr (pu_pa (M.1 613) (M.1 609) k) p) 1 = b at *
      repeat' (first | with_reducible apply And.intro | intro _)
      all_goals first
        | assumption
        | omega
        | (rw [if_pos (by omega)] at ih; exact ih)
        | (rw [if_neg (by omega)] at ih; exact ih)
theorem sp_m_manyWaiting {M : nb_M} {A : Int} {v2 v3 : nb_V} (W : nb_Lay M) (h0 : A ≠ 0) (h1 : A ≠ 1) (hl : nb_ln M A = 108) (hr : pu_Rr (M.1 606)) : nb_R nb_P 145 0 [(20, 603), (3, A), v2, v3] [] M = some ([(0, pu_cnt (M.1 A) 1 (M.1 606 5).toNat)], M) := by
  have hnp := hr.2.2.2.2.2.2.1
  apply nb_Wq
  refine w_m_manyW_0 W h0 h1 hl ?_
  suffices h : ∀ (n k : Nat), k + n = (M.1 606 5).toNat → nb_W 145 1 [(20, 603), (3, A), (0, pu_cnt (M.1 A) 1 k), (0, (k : Int))] [] M (fun r' M' => r' = [(0, pu_cnt (M.1 A) 1 (M.1 606 5).toNat)] ∧ M' = M) from h _ 0 (Nat.zero_add _)
  intro n
  induction n with
  | zero =>
    intro k hk
    have := pu_cnt_le (R := M.1 A) (x := 1) k
    refine w_m_manyW_1 W h0 h1 hl (by omega) (by omega) ⟨by omega, by omega, fun h => absurd h (by omega), fun _ => ⟨?_, rfl⟩⟩
    rw [show (M.1 606 5).toNat = k by omega]
  | succ n ih =>
    intro k hk
    have := pu_cnt_le (R := M.1 A) (x := 1) k
    have ih := ih (k + 1) (by omega)
    have e2 : pu_cnt (M.1 A) 1 (k + 1) = pu_cnt (M.1 A) 1 k + (if M.1 A (12 + 8 * k) = 1 then 1 else 0) := rfl
    rw [e2] at ih
    refine w_m_manyW_1 W h0 h1 hl (by omega) (by omega) ⟨by omega, by omega, fun _ => ⟨fun c => ?_, fun c => ?_⟩, fun h => absurd h (by omega)⟩
    · rw [if_pos c] at ih
      exact ih
    · rw [if_neg c, Int.add_zero] at ih
      exact ih
def pu_onesn (s : Int) : Nat → Int
  | 0 => 0
  | n + 1 => pu_onesn s n + nb_and (nb_shr s n) 1
def pu_ones (s : Int) : Int := pu_onesn s 10
theorem pu_onesn_rg {s : Int} : ∀ n : Nat, n ≤ 10 → 0 ≤ pu_onesn s n ∧ pu_onesn s n ≤ n
  | 0, _ => by
    unfold pu_onesn
    omega
  | n + 1, h => by
    have h1 := pu_onesn_rg (s := s) n (by omega)
    have h2 := pu_bit_01 (s := s) (k := n) (by omega)
    unfold pu_onesn
    omega
theorem sp_m_ones {M : nb_M} {s : Int} {v1 v2 : nb_V} : nb_R nb_P 85 0 [(0, s), v1, v2] [] M = some ([(0, pu_ones s)], M) := by
  apply nb_Wq
  refine w_m_ones_0 ?_
  suffices h : ∀ (n k : Nat), k + n = 10 → nb_W 85 1 [(0, s), (0, pu_onesn s k), (0, (k : Int))] [] M (fun r' M' => r' = [(0, pu_ones s)] ∧ M' = M) from h 10 0 rfl
  intro n
  induction n with
  | zero =>
    intro k hk
    obtain rfl : k = 10 := by omega
    exact w_m_ones_1 (pu_onesn_rg 10 (by omega)) (by omega) ⟨fun h => absurd h (by omega), fun _ => ⟨rfl, rfl⟩⟩
  | succ n ih =>
    intro k hk
    have ih := ih (k + 1) (by omega)
    have h1 := pu_onesn_rg (s := s) k (by omega)
    have h2 := pu_bit_01 (s := s) (k := k) (by omega)
    exact w_m_ones_1 ⟨by omega, by omega⟩ (by omega) ⟨fun _ => ⟨by omega, by omega, ih⟩, fun h => absurd h (by omega)⟩
