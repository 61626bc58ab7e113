/-! CONTRACTS: next, begin, a second -/
theorem pu_nfs_rg {cr pe R : Int → Int} {s : Int} : ∀ n : Nat, pu_nfs cr pe R s n = -2 ∨ (0 ≤ pu_nfs cr pe R s n ∧ pu_nfs cr pe R s n < n ∧ R (12 + 8 * pu_nfs cr pe R s n) = 1 ∧ cr (6 * s + 2) ≤ R (12 + 8 * pu_nfs cr pe R s n + 1) ∧ R (12 + 8 * pu_nfs cr pe R s n + 1) ≤ cr (6 * s + 3))
  | 0 => Or.inl rfl
  | n + 1 => by
    have h := pu_nfs_rg (cr := cr) (pe := pe) (R := R) (s := s) n
    unfold pu_nfs
    by_cases h1 : R (12 + 8 * n) = 1 ∧ cr (6 * s + 2) ≤ R (12 + 8 * n + 1) ∧ R (12 + 8 * n + 1) ≤ cr (6 * s + 3)
    · rw [if_pos h1]
      by_cases h2 : pu_nfs cr pe R s n = -2
      · rw [if_pos h2]
        exact Or.inr ⟨by omega, by omega, h1⟩
      · rw [if_neg h2]
        rcases h with h | ⟨h3, h4, h5⟩
        · exact absurd h h2
        · split
          · exact Or.inr ⟨by omega, by omega, h1⟩
          · exact Or.inr ⟨h3, by omega, h5⟩
    · rw [if_neg h1]
      rcases h with h | ⟨h3, h4, h5⟩
      · exact Or.inl h
      · exact Or.inr ⟨h3, by omega, h5⟩
theorem sp_m_nextFor {M : nb_M} {A s : Int} {v3 v4 v5 v6 : nb_V} (W : nb_Lay M) (h0 : A ≠ 0) (h1 : A ≠ 1) (hl : nb_ln M A = 108) (hr : pu_Rr (M.1 606)) (hR : pu_Rw (M.1 A)) (hs : 0 ≤ s ∧ s ≤ 3) : nb_R nb_P 131 0 [(20, 603), (3, A), (0, s), v3, v4, v5, v6] [] M = some ([(0, pu_nf (M.1 606 5) (M.1 612) (M.1 613) (M.1 A) s)], M) := by
  apply nb_Wq
  refine w_m_nextFor_0 W h0 h1 hl ?_
  have hnp := hr.2.2.2.2.2.2.1
  suffices h : ∀ (n k : Nat), k + n = (M.1 606 5).toNat → ∀ v5 v6, nb_W 131 1 [(20, 603), (3, A), (0, s), (0, pu_nfs (M.1 612) (M.1 613) (M.1 A) s k), (0, (k : Int)), v5, v6] [] M (fun r' M' => r' = [(0, pu_nf (M.1 606 5) (M.1 612) (M.1 613) (M.1 A) s)] ∧ M' = M) from h _ 0 (Nat.zero_add _) _ _
  intro n
  induction n with
  | zero =>
    intro k hk v5 v6
    have h2 := pu_nfs_rg (cr := M.1 612) (pe := M.1 613) (R := M.1 A) (s := s) k
    refine w_m_nextFor_1 W h0 h1 hl hs (by omega) (by omega) hnp ⟨fun h => absurd h (by omega), fun _ => ⟨?_, rfl⟩⟩
    unfold pu_nf
    rw [← hk]
    rfl
  | succ n ih =>
    intro k hk v5 v6
    have h2 := pu_nfs_rg (cr := M.1 612) (pe := M.1 613) (R := M.1 A) (s := s) k
    have ih := ih (k + 1) (by omega)
    unfold pu_nfs at ih
    refine w_m_nextFor_1 W h0 h1 hl hs (by omega) (by omega) hnp ⟨fun h => ?_, fun h => absurd h (by omega)⟩
    repeat' (first | with_reducible apply And.intro | intro _)
    all_goals first | assumption | omega | (refine nb_WL (ih ?_ ?_) ?_ rfl rfl; rotate_left 2; (repeat' (first | with_reducible rfl | refine nb_Lc ?_ ?_ | refine nb_Pc ?_)) <;> first | (simp [*] <;> omega) | omega)
theorem pu_nb_le {R : Int → Int} : ∀ n : Nat, 0 ≤ pu_nb R n ∧ pu_nb R n ≤ n
  | 0 => by
    unfold pu_nb
    omega
  | n + 1 => by
    have h := pu_nb_le (R := R) n
    unfold pu_nb
    split <;> omega
theorem pu_nb_pos {R : Int → Int} {p : Nat} (hp : R (12 + 8 * p) = 0 ∨ R (12 + 8 * p) = 1) : ∀ n : Nat, p < n → 1 ≤ pu_nb R n
  | 0, h => absurd h (Nat.not_lt_zero _)
  | n + 1, h => by
    have h2 := pu_nb_le (R := R) n
    unfold pu_nb
    by_cases e : p = n
    · subst e
      rw [if_pos hp]
      omega
    · have := pu_nb_pos hp n (by omega)
      split <;> omega
/-- who goes makes it one less -/
theorem pu_nb_ud {R R' : Int → Int} {p : Nat} (hp : R (12 + 8 * p) = 0 ∨ R (12 + 8 * p) = 1) (h1 : ¬ (R' (12 + 8 * p) = 0 ∨ R' (12 + 8 * p) = 1)) (h2 : ∀ q : Nat, q ≠ p → R' (12 + 8 * q) = R (12 + 8 * q)) : ∀ n : Nat, pu_nb R' n = pu_nb R n - (if p < n then 1 else 0)
  | 0 => by
    unfold pu_nb
    rfl
  | n + 1 => by
    have ih := pu_nb_ud hp h1 h2 n
    unfold pu_nb
    rw [ih]
    by_cases e : p = n
    · subst e
      rw [if_pos hp, if_neg h1, if_neg (Nat.lt_irrefl p), if_pos (Nat.lt_succ_self p)]
      omega
    · rw [h2 n (fun h => e h.symm)]
      by_cases e2 : p < n
      · rw [if_pos e2, if_pos (show p < n + 1 by omega)]
        omega
      · rw [if_neg e2, if_neg (show ¬ p < n + 1 by omega)]
        omega
theorem pu_nb_eq {R R' : Int → Int} (h : ∀ q : Nat, (R' (12 + 8 * q) = 0 ∨ R' (12 + 8 * q) = 1) ↔ (R (12 + 8 * q) = 0 ∨ R (12 + 8 * q) = 1)) : ∀ n : Nat, pu_nb R' n = pu_nb R n
  | 0 => rfl
  | n + 1 => by
    have ih := pu_nb_eq h n
    unfold pu_nb
    rw [ih]
    simp only [h n]
/-- bounds of what staff and people are told -/
def pu_Rc (cr : Int → Int) : Prop := ∀ s, 0 ≤ s → s ≤ 3 → (0 ≤ cr (6 * s + 1) ∧ cr (6 * s + 1) ≤ 19) ∧ (0 ≤ cr (6 * s + 4) ∧ cr (6 * s + 4) ≤ 9) ∧ (0 ≤ cr (6 * s + 5) ∧ cr (6 * s + 5) ≤ 2)
def pu_Rp (pe : Int → Int) : Prop := ∀ p, 0 ≤ p → p ≤ 9 → (0 ≤ pe (7 * p) ∧ pe (7 * p) ≤ 3) ∧ (0 ≤ pe (7 * p + 1) ∧ pe (7 * p + 1) ≤ 99) ∧ (0 ≤ pe (7 * p + 2) ∧ pe (7 * p + 2) ≤ 600) ∧ (0 ≤ pe (7 * p + 3) ∧ pe (7 * p + 3) ≤ 19) ∧ (0 ≤ pe (7 * p + 4) ∧ pe (7 * p + 4) ≤ 600) ∧ (0 ≤ pe (7 * p + 5) ∧ pe (7 * p + 5) ≤ 99) ∧ (0 ≤ pe (7 * p + 6) ∧ pe (7 * p + 6) ≤ 601)
/-- no more are begun with than there are -/
def pu_Rk (R : Int → Int) : Prop := R 1 + pu_nb R 10 ≤ 10
theorem pu_far_rg {a b : Int} (ha : 0 ≤ a ∧ a ≤ 19) (hb : 0 ≤ b ∧ b ≤ 19) : 0 ≤ pu_far a b ∧ pu_far a b ≤ 19 := by
  unfold pu_far
  split <;> omega
theorem pu_dn_rg {r cr R : Int → Int} {t s p : Int} (hr : pu_Rr r) (hc : pu_Rc cr) (hR : pu_Rw R) (hs : 0 ≤ s ∧ s ≤ 3) (hp : 0 ≤ p ∧ p ≤ 9) : t ≤ pu_dn r cr R t s p ∧ pu_dn r cr R t s p ≤ t + 5000 := by
  have h1 := pu_mul (hc s hs.1 hs.2).2.1 (pu_far_rg (hR.2.1 s hs.1 hs.2).1 (hR.1 p hp.1 hp.2).2.1)
  have h2 := pu_tb_rg hr hp (last := R (92 + 4 * s + 3) - 1)
  unfold pu_dn
  omega
