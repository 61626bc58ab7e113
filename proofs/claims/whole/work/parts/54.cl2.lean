/-! CONTRACTS: choice, notePassed -/
/-- a scene that stands as a row says -/
def pu_S (M : nb_M) (A np ns : Int) (cr pe R : Int → Int) : Prop :=
  M.1 A 4 = np ∧ M.1 A 5 = ns ∧ M.1 A 6 = R 1 ∧ (∀ k, 0 ≤ k → k < R 1 → M.1 (A + 3) k = R (2 + k)) ∧ (∀ p, 0 ≤ p → p < np → pu_G (M.1 (A + 4 + p)) pe R p) ∧ (∀ s, 0 ≤ s → s < ns → pu_V (M.1 (A + 14 + 2 * s)) (M.1 (A + 14 + 2 * s + 1)) cr R s)
theorem sp_sc_choice {M : nb_M} {A Ho np ns s : Int} {cr pe R : Int → Int} {v2 v3 v4 v5 v6 v7 : nb_V} (W : nb_Lay M) (hA : nb_sc A) (hHo : nb_hs Ho) (hAh : M.1 A 3 = Ho) (hR : pu_Rw R) (hnp : 0 ≤ np ∧ np ≤ 10) (hns : ns ≤ 4) (hs : 0 ≤ s ∧ s < ns) (hS : pu_S M A np ns cr pe R) : nb_R nb_P 262 0 [(15, A), (0, s), v2, v3, v4, v5, v6, v7] [] M = some ([(0, pu_nf np cr pe R s)], M) := by
  obtain ⟨h4, h5, h6, h7, hG, hV⟩ := hS
  have hv := hV s hs.1 hs.2
  apply nb_Wq
  refine w_sc_choice_0 W hA hHo hAh (cr := cr) (pe := pe) (R := R) (by omega) ?_
  suffices h : ∀ (n k : Nat), k + n = np.toNat → ∀ (b : Int) v1 v6 v7, (pu_nfs cr pe R s k ≠ -2 → b = pu_rk cr pe R s (pu_nfs cr pe R s k)) → nb_W 262 1 [(15, A), v1, (16, A + 14 + 2 * s), (0, pu_nfs cr pe R s k), (0, b), (0, (k : Int)), v6, v7] [] M (fun r' M' => r' = [(0, pu_nf np cr pe R s)] ∧ M' = M) from h _ 0 (Nat.zero_add _) 0 _ _ _ (fun h => absurd rfl h)
  intro n
  induction n with
  | zero =>
    intro k hk b v1 v6 v7 hb
    have h2 := pu_nfs_rg (cr := cr) (pe := pe) (R := R) (s := s) k
    refine w_sc_choice_1 W hA hHo hAh (cr := cr) (pe := pe) (R := R) (by omega) (by omega) (by omega) ?_
    rw [h4]
    refine ⟨by omega, by omega, fun h => absurd h (by omega), fun _ => ⟨?_, rfl⟩⟩
    unfold pu_nf
    rw [← hk]
    rfl
  | succ n ih =>
    intro k hk b v1 v6 v7 hb
    have h2 := pu_nfs_rg (cr := cr) (pe := pe) (R := R) (s := s) k
    have ih := ih (k + 1) (by omega)
    have hg := hG k (by omega) (by omega)
    have hv2 := hv
    obtain ⟨k1, k2, k3, k4, k5, k6, k7, f0, f1⟩ := hv
    have hg2 := hg
    obtain ⟨g0, g2, g3, g4, g5, g6, g7, g8, -⟩ := hg
    unfold pu_nfs at ih
    refine w_sc_choice_1 W hA hHo hAh (cr := cr) (pe := pe) (R := R) (by omega) (by omega) (by omega) ?_
    rw [h4, g8, g3, k3, k4, g2]
    refine ⟨by omega, by omega, fun _ => ⟨fun hw => ⟨fun c1 => ?_, fun c1 => ⟨fun c2 => ?_, fun c2 => ?_⟩⟩, fun hw => ?_⟩, fun h => absurd h (by omega)⟩
    · rw [if_neg (by omega)] at ih
      exact ih b _ _ _ hb
    · rw [if_neg (by omega)] at ih
      exact ih b _ _ _ hb
    · rw [if_pos (by omega)] at ih
      refine ⟨hR, hg2, hv2, fun c3 => ?_, fun c3 => ?_⟩
      · rw [if_pos (by omega)] at ih
        exact ih _ _ _ _ (fun _ => rfl)
      · have hne : pu_nfs cr pe R s k ≠ -2 := by omega
        rw [if_neg hne] at ih
        have hbq := hb hne
        have ho := pu_rk_lt (cr := cr) (pe := pe) (s := s) hR (by omega) (p := k) (q := pu_nfs cr pe R s k) (by omega) (by omega)
        rw [← hbq] at ho
        have hgb := (hG (pu_nfs cr pe R s k) c3 (by omega)).2.1
        rw [hgb]
        refine ⟨fun c4 => ?_, fun c4 => ⟨fun c5 => ⟨fun c6 => ?_, fun c6 => ?_⟩, fun c5 => ?_⟩⟩
        · rw [if_pos (Or.inl (ho.1.mp c4))] at ih
          exact ih _ _ _ _ (fun _ => rfl)
        · rw [if_pos (Or.inr ⟨ho.2.mp c5, c6⟩)] at ih
          exact ih _ _ _ _ (fun _ => rfl)
        · rw [if_neg (by have := ho.1; have := ho.2; omega)] at ih
          exact ih _ _ _ _ hb
        · rw [if_neg (by have := ho.1; have := ho.2; omega)] at ih
          exact ih _ _ _ _ hb
    · rw [if_neg (by omega)] at ih
      exact ih b _ _ _ hb
/-- who is pushed in front of, counted from some bits on -/
def pu_npf (pe R : Int → Int) (u b : Int) : Nat → Int
  | 0 => b
  | k + 1 => if R (12 + 8 * k) = 1 ∧ (pe (7 * k + 2) < pe (7 * u + 2) ∨ (pe (7 * k + 2) = pe (7 * u + 2) ∧ (k : Int) < u)) then nb_or (pu_npf pe R u b k) (nb_shl 1 k) else pu_npf pe R u b k
theorem sp_sc_notePassed {M : nb_M} {A Ho np ns u : Int} {cr pe R r : Int → Int} {v2 : nb_V} (W : nb_Lay M) (hA : nb_sc A) (hHo : nb_hs Ho) (hAh : M.1 A 3 = Ho) (hnp : 0 ≤ np ∧ np ≤ 10) (hu : 0 ≤ u ∧ u < np) (hR : R (12 + 8 * u) ≠ 1) (hS : pu_S M A np ns cr pe R) (hc : ∀ p, 0 ≤ p → p < np → M.1 (Ho + 20 + p) 2 = pe (7 * p + 2)) : nb_W 264 0 [(15, A), (0, u), v2] [] M (fun r' M' => r' = [] ∧ M'.2 = M.2 ∧ (∀ a i, a < A + 4 ∨ A + 14 ≤ a ∨ (i ≠ 13 ∧ i ≠ 14) → M'.1 a i = M.1 a i) ∧ (∀ p, 0 ≤ p → p < np → M'.1 (A + 4 + p) 13 = if R (12 + 8 * p) = 1 ∧ (pe (7 * p + 2) < pe (7 * u + 2) ∨ (pe (7 * p + 2) = pe (7 * u + 2) ∧ p < u)) then nb_or (M.1 (A + 4 + p) 13) (nb_shl 1 u) else M.1 (A + 4 + p) 13) ∧ (∀ p, p ≠ u → M'.1 (A + 4 + p) 14 = M.1 (A + 4 + p) 14) ∧ M'.1 (A + 4 + u) 14 = pu_npf pe R u (M.1 (A + 4 + u) 14) np.toNat) := by
  have hAu := hA
  have hHu := hHo
  unfold nb_sc at hAu
  unfold nb_hs at hHu
  refine w_sc_notePassed_0 W hA hHo hAh (by omega) ?_
  obtain ⟨h4, h5, h6, h7, hG, hV⟩ := hS
  suffices h : ∀ (n k : Nat) (N : nb_M), k + n = np.toNat → nb_Lay N → N.2 = M.2 → (∀ a i, a < A + 4 ∨ A + 14 ≤ a ∨ (i ≠ 13 ∧ i ≠ 14) → N.1 a i = M.1 a i) → (∀ p : Int, 0 ≤ p → p < k → N.1 (A + 4 + p) 13 = if R (12 + 8 * p) = 1 ∧ (pe (7 * p + 2) < pe (7 * u + 2) ∨ (pe (7 * p + 2) = pe (7 * u + 2) ∧ p < u)) then nb_or (M.1 (A + 4 + p) 13) (nb_shl 1 u) else M.1 (A + 4 + p) 13) → (∀ p : Int, k ≤ p → N.1 (A + 4 + p) 13 = M.1 (A + 4 + p) 13) → (∀ p, p ≠ u → N.1 (A + 4 + p) 14 = M.1 (A + 4 + p) 14) → N.1 (A + 4 + u) 14 = pu_npf pe R u (M.1 (A + 4 + u) 14) k → nb_W 264 1 [(15, A), (0, u), (0, (k : Int))] [] N (fun r' M' => r' = [] ∧ M'.2 = M.2 ∧ (∀ a i, a < A + 4 ∨ A + 14 ≤ a ∨ (i ≠ 13 ∧ i ≠ 14) → M'.1 a i = M.1 a i) ∧ (∀ p, 0 ≤ p → p < np → M'.1 (A + 4 + p) 13 = if R (12 + 8 * p) = 1 ∧ (pe (7 * p + 2) < pe (7 * u + 2) ∨ (pe (7 * p + 2) = pe (7 * u + 2) ∧ p < u)) then nb_or (M.1 (A + 4 + p) 13) (nb_shl 1 u) else M.1 (A + 4 + p) 13) ∧ (∀ p, p ≠ u → M'.1 (A + 4 + p) 14 = M.1 (A + 4 + p) 14) ∧ M'.1 (A + 4 + u) 14 = pu_npf pe R u (M.1 (A + 4 + u) 14) np.toNat) from
    h _ 0 M (Nat.zero_add _) W rfl (fun _ _ _ => rfl) (fun p h0 h1 => absurd h1 (by omega)) (fun _ _ => rfl) (fun _ _ => rfl) rfl
  intro n
  induction n with
  | zero =>
    intro k N hk WN e1 e2 e3 e4 e5 e6
    have hk2 : (k : Int) = np := by omega
    refine w_sc_notePassed_1 WN hA hHo ((e2 _ _ (by omega)).trans hAh) (by omega) (by omega) ?_
    rw [e2 A 4 (by omega), h4]
    refine ⟨by omega, by omega, fun h => absurd h (by omega), fun _ => ⟨rfl, e1, e2, fun p a b => e3 p a (by omega), e5, ?_⟩⟩
    rw [show np.toNat = k by omega]
    exact e6
  | succ n ih =>
    intro k N hk WN e1 e2 e3 e4 e5 e6
    have hg8 := (hG k (by omega) (by omega)).2.2.2.2.2.2.2.1
    refine w_sc_notePassed_1 WN hA hHo ((e2 _ _ (by omega)).trans hAh) (by omega) (by omega) ?_
    rw [e2 A 4 (by omega), h4, e2 (A + 4 + k) 8 (by omega), hg8, e2 (Ho + 20 + k) 2 (by omega), e2 (Ho + 20 + u) 2 (by omega), hc k (by omega) (by omega), hc u hu.1 hu.2]
    have hno : ¬ (R (12 + 8 * k) = 1 ∧ (pe (7 * k + 2) < pe (7 * u + 2) ∨ (pe (7 * k + 2) = pe (7 * u + 2) ∧ (k : Int) < u))) → nb_W 264 1 [(15, A), (0, u), (0, (k : Int) + 1)] [] N _ := fun hx => ih (k + 1) N (by omega) WN e1 e2 (fun p a b => by
      by_cases e : p = k
      · subst e
        rw [if_neg hx]
        exact e4 _ (by omega)
      · exact e3 p a (by omega)) (fun p a => e4 p (by omega)) e5 (by
      unfold pu_npf
      rw [if_neg hx]
      exact e6)
    have hyes : (R (12 + 8 * k) = 1 ∧ (pe (7 * k + 2) < pe (7 * u + 2) ∨ (pe (7 * k + 2) = pe (7 * u + 2) ∧ (k : Int) < u))) → nb_W 264 1 [(15, A), (0, u), (0, (k : Int) + 1)] [] (nb_wr (nb_wr N (A + 4 + k) 13 (nb_or (N.1 (A + 4 + k) 13) (nb_shl 1 u))) (A + 4 + u) 14 (nb_or (N.1 (A + 4 + u) 14) (nb_shl 1 k))) _ := fun hx => by
      have hku : (k : Int) ≠ u := by
        intro e
        exact hR (e ▸ hx.1)
      refine ih (k + 1) _ (by omega) ((WN.wr (fun w => nb_nsg hA (by omega) (by omega))).wr (fun w => nb_nsg hA (by omega) (by omega))) e1 ?_ ?_ ?_ ?_ ?_
      · intro a i h
        rw [nb_wr_1, if_neg (by omega), nb_wr_1, if_neg (by omega)]
        exact e2 a i h
      · intro p a b
        rw [nb_wr_1, if_neg (by omega), nb_wr_1]
        by_cases e : p = k
        · subst e
          rw [if_pos ⟨rfl, rfl⟩, if_pos hx, e4 _ (by omega)]
        · rw [if_neg (by omega)]
          exact e3 p a (by omega)
      · intro p a
        rw [nb_wr_1, if_neg (by omega), nb_wr_1, if_neg (by omega)]
        exact e4 p (by omega)
      · intro p a
        rw [nb_wr_1, if_neg (by omega), nb_wr_1, if_neg (by omega)]
        exact e5 p a
      · rw [nb_wr_1, if_pos ⟨rfl, rfl⟩, e6]
        show _ = pu_npf pe R u (M.1 (A + 4 + u) 14) (k + 1)
        rw [pu_npf, if_pos hx]
    refine ⟨by omega, by omega, fun _ => ⟨fun c1 => ⟨fun c2 => hyes ⟨c1, Or.inl c2⟩, fun c2 => ⟨fun c3 => ⟨fun c4 => hyes ⟨c1, Or.inr ⟨c3, c4⟩⟩, fun c4 => hno (by omega)⟩, fun c3 => hno (by omega)⟩⟩, fun c1 => hno (by omega)⟩, fun h => absurd h (by omega)⟩
