/-! CONTRACT: nextStir -/
theorem pu_sn_le {n x t : Int} : pu_sn n x t ≤ n ∧ (t < x → pu_sn n x t ≤ x) := by
  unfold pu_sn
  split <;> omega
def pu_st1 (cr pe R : Int → Int) (t x p : Int) : Prop := (R (12 + 8 * p) = 0 → t < pe (7 * p + 2) → x ≤ pe (7 * p + 2)) ∧ (R (12 + 8 * p) = 1 → (t < pe (7 * p + 2) + pe (7 * p + 4) → x ≤ pe (7 * p + 2) + pe (7 * p + 4)) ∧ (t < pu_she (pe (7 * p + 6)) → x ≤ pu_she (pe (7 * p + 6))))
def pu_st2 (R : Int → Int) (t x s h : Int) : Prop := t < R (92 + 4 * s + 1 + h) → x ≤ R (92 + 4 * s + 1 + h)
theorem pu_st1_le {cr pe R : Int → Int} {t x y p : Int} (h : y ≤ x) (g : pu_st1 cr pe R t x p) : pu_st1 cr pe R t y p := ⟨fun a b => Int.le_trans h (g.1 a b), fun a => ⟨fun b => Int.le_trans h ((g.2 a).1 b), fun b => Int.le_trans h ((g.2 a).2 b)⟩⟩
theorem pu_st2_le {R : Int → Int} {t x y s h : Int} (h' : y ≤ x) (g : pu_st2 R t x s h) : pu_st2 R t y s h := fun a => Int.le_trans h' (g a)
theorem sp_sc_nextStir {M : nb_M} {A Ho np ns t : Int} {cr pe R : Int → Int} {v2 v3 v4 : nb_V} (W : nb_Lay M) (hA : nb_sc A) (hHo : nb_hs Ho) (hAh : M.1 A 3 = Ho) (hp : pu_Rp pe) (hnp : 0 ≤ np ∧ np ≤ 10) (hns : 0 ≤ ns ∧ ns ≤ 4) (ht : 0 ≤ t ∧ t ≤ 3000) (hS : pu_S M A np ns cr pe R) : nb_W 258 0 [(15, A), (0, t), v2, v3, v4] [] M (fun r' M' => ∃ x : Int, r' = [(0, x)] ∧ M' = M ∧ (∀ p, 0 ≤ p → p < np → pu_st1 cr pe R t x p) ∧ (∀ s h, 0 ≤ s → s < ns → 0 ≤ h → h < 2 → pu_st2 R t x s h)) := by
  obtain ⟨h4, h5, h6, h7, hG, hV⟩ := hS
  refine w_sc_nextStir_0 W hA hHo hAh (by omega) ?_
  suffices H : ∀ (n k : Nat) (x : Int), k + n = np.toNat → (∀ p, 0 ≤ p → p < (k : Int) → pu_st1 cr pe R t x p) → ∀ v4, nb_W 258 1 [(15, A), (0, t), (0, x), (0, (k : Int)), v4] [] M (fun r' M' => ∃ x : Int, r' = [(0, x)] ∧ M' = M ∧ (∀ p, 0 ≤ p → p < np → pu_st1 cr pe R t x p) ∧ (∀ s h, 0 ≤ s → s < ns → 0 ≤ h → h < 2 → pu_st2 R t x s h)) from H _ 0 _ (Nat.zero_add _) (fun p a b => absurd b (by omega)) _
  intro n
  induction n with
  | zero =>
    intro k x hk hx v4
    refine w_sc_nextStir_1 W hA hHo hAh (by omega) (by omega) ?_
    rw [h4]
    refine ⟨by omega, by omega, fun h => absurd h (by omega), fun _ => ?_⟩
    have hx' : ∀ p, 0 ≤ p → p < np → pu_st1 cr pe R t x p := fun p a b => hx p a (by omega)
    clear hx
    suffices H : ∀ (n k : Nat) (x : Int), k + n = ns.toNat → (∀ p, 0 ≤ p → p < np → pu_st1 cr pe R t x p) → (∀ s h, 0 ≤ s → s < (k : Int) → 0 ≤ h → h < 2 → pu_st2 R t x s h) → ∀ v4, nb_W 258 11 [(15, A), (0, t), (0, x), (0, (k : Int)), v4] [] M (fun r' M' => ∃ x : Int, r' = [(0, x)] ∧ M' = M ∧ (∀ p, 0 ≤ p → p < np → pu_st1 cr pe R t x p) ∧ (∀ s h, 0 ≤ s → s < ns → 0 ≤ h → h < 2 → pu_st2 R t x s h)) from H _ 0 _ (Nat.zero_add _) hx' (fun s h a b => absurd b (by omega)) _
    intro n
    induction n with
    | zero =>
      intro k x hk hx hy v4
      refine w_sc_nextStir_11 W hA hHo hAh (by omega) (by omega) ?_
      rw [h5]
      exact ⟨by omega, by omega, fun h => absurd h (by omega), fun _ => ⟨x, rfl, rfl, hx, fun s h a b => hy s h a (by omega)⟩⟩
    | succ n ih =>
      intro k x hk hx hy v4
      have ih := fun x => ih (k + 1) x (by omega)
      obtain ⟨v1, v2, v3, v4', v5, v6, v7, f0, f1⟩ := hV k (by omega) (by omega)
      refine w_sc_nextStir_11 W hA hHo hAh (by omega) (by omega) ?_
      rw [h5]
      refine ⟨by omega, by omega, fun _ => ?_, fun h => absurd h (by omega)⟩
      refine w_sc_nextStir_13 W hA hHo hAh (by omega) (by omega) (by omega) ⟨fun _ => ?_, fun h => absurd h (by decide)⟩
      rw [f0]
      refine w_sc_nextStir_13 W hA hHo hAh (by omega) (by omega) (by omega) ⟨fun _ => ?_, fun h => absurd h (by decide)⟩
      show nb_W 258 13 [(15, A), (0, t), (0, pu_sn (pu_sn x (R (92 + 4 * k + 1)) t) (M.1 (A + 14 + 2 * k + 1) 1) t), (0, (k : Int)), (0, 2)] [] M _
      rw [f1]
      refine w_sc_nextStir_13 W hA hHo hAh (by omega) (by omega) (by omega) ⟨fun h => absurd h (by decide), fun _ => ?_⟩
      have q1 := pu_sn_le (n := x) (x := R (92 + 4 * k + 1)) (t := t)
      have q2 := pu_sn_le (n := pu_sn x (R (92 + 4 * k + 1)) t) (x := R (92 + 4 * k + 2)) (t := t)
      refine ih _ (fun p a b => pu_st1_le (by omega) (hx p a b)) (fun s h a b c d => ?_) _
      by_cases e : s = k
      · have hh : h = 0 ∨ h = 1 := by omega
        unfold pu_st2
        rcases hh with rfl | rfl
        · rw [e, Int.add_zero]
          omega
        · rw [e, show 92 + 4 * (k : Int) + 1 + 1 = 92 + 4 * (k : Int) + 2 by omega]
          omega
      · exact pu_st2_le (by omega) (hy s h a (by omega) c d)
  | succ n ih =>
    intro k x hk hx v4
    have ih := fun x => ih (k + 1) x (by omega)
    obtain ⟨g0, g2, g3, g4, g5, g6, g7, g8, -⟩ := hG k (by omega) (by omega)
    have hq := hp k (by omega) (by omega)
    refine w_sc_nextStir_1 W hA hHo hAh (by omega) (by omega) ?_
    rw [h4, g8, g2, g4, g6]
    refine ⟨by omega, by omega, fun _ => ⟨fun c1 => ⟨by omega, by omega, ?_⟩, fun c1 => ⟨fun c2 => ⟨by omega, by omega, by omega, by omega, ?_⟩, fun c2 => ?_⟩⟩, fun h => absurd h (by omega)⟩
    · have q1 := pu_sn_le (n := x) (x := pe (7 * k + 2)) (t := t)
      refine ih _ (fun p a b => ?_) _
      by_cases e : p = k
      · subst e
        exact ⟨fun _ h => q1.2 h, fun h => by omega⟩
      · exact pu_st1_le q1.1 (hx p a (by omega))
    · have q1 := pu_sn_le (n := x) (x := pe (7 * k + 2) + pe (7 * k + 4)) (t := t)
      have q2 := pu_sn_le (n := pu_sn x (pe (7 * k + 2) + pe (7 * k + 4)) t) (x := pu_she (pe (7 * k + 6))) (t := t)
      refine ih _ (fun p a b => ?_) _
      by_cases e : p = k
      · subst e
        exact ⟨fun h => by omega, fun _ => ⟨fun h => by omega, fun h => q2.2 h⟩⟩
      · exact pu_st1_le (by omega) (hx p a (by omega))
    · refine ih _ (fun p a b => ?_) _
      by_cases e : p = k
      · subst e
        exact ⟨fun h => absurd h c1, fun h => absurd h c2⟩
      · exact hx p a (by omega)
