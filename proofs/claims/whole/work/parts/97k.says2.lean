/-! WHAT SOMEONE SAYS CHANGED: what a scene keeps of the past -/
theorem pu_pa_says {pe R : Int → Int} {p v q : Int} (hp : 0 ≤ p) (h1 : R 1 ≤ 10) : pu_pa pe (nb_ud R (12 + 8 * p + 3) v) q = pu_pa pe R q := by
  have : ∀ n : Nat, (n : Int) ≤ 10 → pu_pas pe (nb_ud R (12 + 8 * p + 3) v) q n = pu_pas pe R q n := by
    intro n
    induction n with
    | zero => intro _; rfl
    | succ n ih =>
      intro hn
      unfold pu_pas
      rw [ih (by omega), pu_says_other (j := 2 + n) (by omega), pu_says_other (j := 12 + 8 * R (2 + n) + 4) (by omega), pu_says_other (j := 12 + 8 * q + 7) (by omega)]
  unfold pu_pa
  rw [pu_says_other (j := 1) (by omega), this _ (by omega)]
theorem pu_X_says {M : nb_M} {np p v : Int} {pe R : Int → Int} (hp : 0 ≤ p) (h1 : R 1 ≤ 10) (h : pu_X M 106 np pe R) : pu_X (nb_wr M (110 + p) 7 v) 106 np pe (nb_ud R (12 + 8 * p + 3) v) := fun q a b => by
  obtain ⟨x1, x2, x3, x4⟩ := h q a b
  have e : ∀ j, j ≠ 7 → (nb_wr M (110 + p) 7 v).1 (106 + 4 + q) j = M.1 (106 + 4 + q) j := fun j hj => by rw [nb_wr_1, if_neg (by omega)]
  unfold pu_Gx
  rw [e 11 (by decide), e 13 (by decide), e 14 (by decide), pu_says_other (j := 12 + 8 * q) (by omega), pu_says_other (j := 12 + 8 * q + 4) (by omega), pu_says_other (j := 12 + 8 * q + 7) (by omega), pu_pa_says hp h1, pu_pu_congr (R := R) (by rw [pu_says_other (by omega)]) (fun q _ _ => pu_pa_says hp h1)]
  exact ⟨x1, x2, x3, x4⟩
