/-! CONTRACT: sumOf; bits counted -/
def pu_sut (r pe R : Int → Int) (bell w p : Int) : Int :=
  if R (12 + 8 * p) = 0 then 0 else if w = 0 then (if pu_fo R p < 2 then 1 else 0) else if w = 1 then (if pu_fo R p = 2 then 1 else 0) else if w = 2 then (if pu_fo R p = 3 then 1 else 0) else if w = 3 then (if pu_fo R p = 4 then 0 else pu_wo pe R bell p) else if w = 4 then pu_ones (pu_pa pe R p) else (if pu_fo R p < 2 then pu_co r p else 0)
def pu_sun (r pe R : Int → Int) (bell w : Int) : Nat → Int
  | 0 => 0
  | n + 1 => pu_sun r pe R bell w n + pu_sut r pe R bell w n
/-- sum() over an evening -/
def pu_sum (r pe R : Int → Int) (np bell w : Int) : Int := pu_sun r pe R bell w np.toNat
theorem pu_co_rg {r : Int → Int} (hr : pu_Rr r) {p : Int} (hp : 0 ≤ p ∧ p ≤ 9) : 0 ≤ pu_co r p ∧ pu_co r p ≤ 4500 := pu_cos_rg hr hp 5 (Nat.le_refl 5)
theorem pu_wo_rg {pe R : Int → Int} {bell p : Int} (hR : pu_Rw R) (hP : pu_Rp pe) (hb : 0 ≤ bell ∧ bell ≤ 9000) (hp : 0 ≤ p ∧ p ≤ 9) : -700 ≤ pu_wo pe R bell p ∧ pu_wo pe R bell p ≤ 10000 := by
  have q := hR.1 p hp.1 hp.2
  have q2 := (hP p hp.1 hp.2).2.2.1
  unfold pu_wo
  (repeat' split) <;> omega
theorem pu_sut_rg {r pe R : Int → Int} {bell w p : Int} (hr : pu_Rr r) (hR : pu_Rw R) (hP : pu_Rp pe) (hb : 0 ≤ bell ∧ bell ≤ 9000) (hp : 0 ≤ p ∧ p ≤ 9) : -700 ≤ pu_sut r pe R bell w p ∧ pu_sut r pe R bell w p ≤ 10000 := by
  have h1 := pu_co_rg hr hp
  have h2 := pu_wo_rg hR hP hb hp
  have h3 := pu_onesn_rg (s := pu_pa pe R p) 10 (Nat.le_refl 10)
  unfold pu_sut pu_ones
  (repeat' split) <;> omega
theorem pu_sun_rg {r pe R : Int → Int} {bell w : Int} (hr : pu_Rr r) (hR : pu_Rw R) (hP : pu_Rp pe) (hb : 0 ≤ bell ∧ bell ≤ 9000) : ∀ n : Nat, n ≤ 10 → -700 * n ≤ pu_sun r pe R bell w n ∧ pu_sun r pe R bell w n ≤ 10000 * n
  | 0, _ => by
    unfold pu_sun
    omega
  | n + 1, h => by
    have h1 := pu_sun_rg (w := w) hr hR hP hb n (by omega)
    have h2 := pu_sut_rg (w := w) (p := n) hr hR hP hb (by omega)
    unfold pu_sun
    omega
theorem sp_m_sumOf {M : nb_M} {w : Int} {v2 v3 v4 : nb_V} (W : nb_Lay M) (hr : pu_Rr (M.1 606)) (hR : pu_Rw (M.1 609)) (hP : pu_Rp (M.1 613)) (hb : 0 ≤ M.1 603 26 ∧ M.1 603 26 ≤ 9000) : nb_R nb_P 140 0 [(20, 603), (0, w), v2, v3, v4] [] M = some ([(0, pu_sum (M.1 606) (M.1 613) (M.1 609) (M.1 606 5) (M.1 603 26) w)], M) := by
  have hnp := hr.2.2.2.2.2.2.1
  apply nb_Wq
  refine w_m_sumOf_0 W ?_
  suffices h : ∀ (n k : Nat), k + n = (M.1 606 5).toNat → ∀ v4, nb_W 140 1 [(20, 603), (0, w), (0, pu_sun (M.1 606) (M.1 613) (M.1 609) (M.1 603 26) w k), (0, (k : Int)), v4] [] M (fun r' M' => r' = [(0, pu_sum (M.1 606) (M.1 613) (M.1 609) (M.1 606 5) (M.1 603 26) w)] ∧ M' = M) from h _ 0 (Nat.zero_add _) _
  intro n
  induction n with
  | zero =>
    intro k hk v4
    have h1 := pu_sun_rg (w := w) hr hR hP hb k (by omega)
    refine w_m_sumOf_1 W (by omega) (by omega) ⟨by omega, by omega, fun h => absurd h (by omega), fun _ => ⟨?_, rfl⟩⟩
    unfold pu_sum
    rw [show (M.1 606 5).toNat = k by omega]
  | succ n ih =>
    intro k hk v4
    have ih := ih (k + 1) (by omega)
    have h1 := pu_sun_rg (w := w) hr hR hP hb k (by omega)
    have e2 : pu_sun (M.1 606) (M.1 613) (M.1 609) (M.1 603 26) w (k + 1) = pu_sun (M.1 606) (M.1 613) (M.1 609) (M.1 603 26) w k + pu_sut (M.1 606) (M.1 613) (M.1 609) (M.1 603 26) w k := rfl
    rw [e2] at ih
    unfold pu_sut at ih
    have g1 := pu_co_rg hr (p := k) (by omega)
    have g2 := pu_wo_rg hR hP hb (p := k) (by omega)
    have g3 := pu_onesn_rg (s := pu_pa (M.1 613) (M.1 609) k) 10 (Nat.le_refl 10)
    have g4 : pu_ones (pu_pa (M.1 613) (M.1 609) k) = pu_onesn (pu_pa (M.1 613) (M.1 609) k) 10 := rfl
    refine w_m_sumOf_1 W (by omega) (by omega) ⟨by omega, by omega, fun _ => ?_, fun h => absurd h (by omega)⟩
    repeat' (first | assumption | with_reducible apply And.intro | intro _)
    all_goals first
      | assumption
      | omega
      | (clear g1 g2 g3 g4
         simp only [*, if_true, if_false, Int.add_zero, not_false_eq_true, ne_eq] at ih
         exact ih _)
      | (clear g1 g2 g3 g4
         (repeat (first | rw [if_pos (by omega)] at ih | rw [if_neg (by omega)] at ih))
         first | exact ih _ | (rw [Int.add_zero] at ih; exact ih _))
def pu_bc (s : Int) : Int := nb_and (nb_add (nb_add (nb_and (nb_add (nb_add (nb_and (nb_sub s (nb_and (nb_ushr s 1) 1431655765)) 858993459) (nb_and (nb_ushr (nb_sub s (nb_and (nb_ushr s 1) 1431655765)) 2) 858993459)) (nb_ushr (nb_add (nb_and (nb_sub s (nb_and (nb_ushr s 1) 1431655765)) 858993459) (nb_and (nb_ushr (nb_sub s (nb_and (nb_ushr s 1) 1431655765)) 2) 858993459)) 4)) 252645135) (nb_ushr (nb_and (nb_add (nb_add (nb_and (nb_sub s (nb_and (nb_ushr s 1) 1431655765)) 858993459) (nb_and (nb_ushr (nb_sub s (nb_and (nb_ushr s 1) 1431655765)) 2) 858993459)) (nb_ushr (nb_add (nb_and (nb_sub s (nb_and (nb_ushr s 1) 1431655765)) 858993459) (nb_and (nb_ushr (nb_sub s (nb_and (nb_ushr s 1) 1431655765)) 2) 858993459)) 4)) 252645135) 8)) (nb_ushr (nb_add (nb_and (nb_add (nb_add (nb_and (nb_sub s (nb_and (nb_ushr s 1) 1431655765)) 858993459) (nb_and (nb_ushr (nb_sub s (nb_and (nb_ushr s 1) 1431655765)) 2) 858993459)) (nb_ushr (nb_add (nb_and (nb_sub s (nb_and (nb_ushr s 1) 1431655765)) 858993459) (nb_and (nb_ushr (nb_sub s (nb_and (nb_ushr s 1) 1431655765)) 2) 858993459)) 4)) 252645135) (nb_ushr (nb_and (nb_add (nb_add (nb_and (nb_sub s (nb_and (nb_ushr s 1) 1431655765)) 858993459) (nb_and (nb_ushr (nb_sub s (nb_and (nb_ushr s 1) 1431655765)) 2) 858993459)) (nb_ushr (nb_add (nb_and (nb_sub s (nb_and (nb_ushr s 1) 1431655765)) 858993459) (nb_and (nb_ushr (nb_sub s (nb_and (nb_ushr s 1) 1431655765)) 2) 858993459)) 4)) 252645135) 8)) 16)) 63
theorem pu_bc_ones : ∀ n : Nat, n < 1024 → pu_bc n = pu_ones n := by decide +kernel
theorem sp_bitCount {M : nb_M} {s : Int} (h0 : 0 ≤ s) (h1 : s < 1024) : nb_R nb_P 294 0 [(0, s)] [] M = some ([(0, pu_ones s)], M) := by
  obtain ⟨n, rfl⟩ : ∃ n : Nat, s = n := ⟨s.toNat, by omega⟩
  rw [← pu_bc_ones n (by omega)]
  exact q_ji_bitCount_0 _ _
theorem pu_or_rg : ∀ a : Nat, a < 1024 → ∀ q : Nat, q < 10 → 0 ≤ nb_or a (nb_shl 1 q) ∧ nb_or a (nb_shl 1 q) < 1024 := by decide +kernel
theorem pu_pa_rg {pe R : Int → Int} {p : Int} (hR : pu_Rw R) : 0 ≤ pu_pa pe R p ∧ pu_pa pe R p < 1024 := by
  have h1 := hR.2.2.2.1
  have : ∀ n : Nat, (n : Int) ≤ R 1 → 0 ≤ (pu_pas pe R p n).1 ∧ (pu_pas pe R p n).1 < 1024 := by
    intro n
    induction n with
    | zero => intro _; exact ⟨Int.le_refl 0, (by decide : (0 : Int) < 1024)⟩
    | succ n ih =>
      intro hn
      have ih := ih (by omega)
      have hw := hR.2.2.2.2 n (by omega) (by omega)
      unfold pu_pas
      split
      · exact ih
      · split
        · exact ih
        · simp only
          split
          · have := pu_or_rg (pu_pas pe R p n).1.toNat (by omega) (R (2 + n)).toNat (by omega)
            rw [Int.toNat_of_nonneg ih.1, Int.toNat_of_nonneg hw.1] at this
            exact this
          · exact ih
  have h2 := this (R 1).toNat (by omega)
  exact h2
