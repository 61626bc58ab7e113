/-! WHAT SOMEONE SAYS CHANGED: the rest stands -/
theorem pu_says_other {R : Int → Int} {p v j : Int} (h : j ≠ 12 + 8 * p + 3) : nb_ud R (12 + 8 * p + 3) v j = R j := nb_ud_other (by omega)
theorem pu_Rw_says {R : Int → Int} {p v : Int} (hp : 0 ≤ p ∧ p ≤ 9) (hv : -100000 ≤ v ∧ v ≤ 100000) (h : pu_Rw R) : pu_Rw (nb_ud R (12 + 8 * p + 3) v) := by
  obtain ⟨a1, a2, a3, a4, a5⟩ := h
  refine ⟨fun q h0 h9 => ?_, fun q h0 h3 => ?_, ?_, ?_, fun k h0 hk => ?_⟩
  · have := a1 q h0 h9
    by_cases e : q = p
    · subst e
      rw [pu_says_other (by omega), pu_says_other (by omega), pu_says_other (by omega), nb_ud_same, pu_says_other (by omega), pu_says_other (by omega), pu_says_other (by omega), pu_says_other (by omega)]
      omega
    · rw [pu_says_other (by omega), pu_says_other (by omega), pu_says_other (by omega), pu_says_other (by omega), pu_says_other (by omega), pu_says_other (by omega), pu_says_other (by omega), pu_says_other (by omega)]
      exact this
  · rw [pu_says_other (by omega), pu_says_other (by omega), pu_says_other (by omega), pu_says_other (by omega)]
    exact a2 q h0 h3
  · rw [pu_says_other (by omega)]
    exact a3
  · rw [pu_says_other (by omega)]
    exact a4
  · rw [pu_says_other (by omega)] at hk
    rw [pu_says_other (by omega)]
    exact a5 k h0 hk
theorem pu_Rk_says {R : Int → Int} {p v : Int} (hp : 0 ≤ p) (h : pu_Rk R) : pu_Rk (nb_ud R (12 + 8 * p + 3) v) := by
  unfold pu_Rk at h ⊢
  rw [pu_says_other (by omega), pu_nb_eq (fun q : Nat => by rw [pu_says_other (by omega)])]
  exact h
theorem pu_hb_says {pe R : Int → Int} {p v t q : Int} (hp : 0 ≤ p) (h1 : R 1 ≤ 10) (h : pu_hb pe R t q) : pu_hb pe (nb_ud R (12 + 8 * p + 3) v) t q := by
  unfold pu_hb at h ⊢
  rw [pu_says_other (j := 12 + 8 * q) (by omega), pu_says_other (j := 12 + 8 * q + 4) (by omega), pu_says_other (j := 12 + 8 * q + 7) (by omega), pu_says_other (j := 1) (by omega)]
  obtain ⟨b0, b1, b2, b3, b5⟩ := h
  refine ⟨b0, b1, fun z => ?_, b3, b5⟩
  obtain ⟨c1, c2, c3, k, k0, k1, k2⟩ := b2 z
  exact ⟨c1, c2, c3, k, k0, k1, by rw [pu_says_other (by omega)]; exact k2⟩
