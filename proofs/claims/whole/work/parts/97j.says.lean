/-! WHAT SOMEONE SAYS CHANGED: the rest stands -/
theorem pu_says_other {R : Int → Int} {p v j : Int} (h : j ≠ 12 + 8 * p + 3) : nb_ud R (12 + 8 * p + 3) v j = R j := nb_ud_other (by omega)
theorem pu_Rw_says {R : Int → Int} {p v : Int} (hp : 0 ≤ p ∧ p ≤ 9) (hv : -100000 ≤ v ∧ v ≤ 100000) (h : pu_Rw R) : pu_Rw (nb_ud R (12 + 8 * p + 3) v) := by
  obtain ⟨a1, a2, a3, a4, a5⟩ := h
  refine ⟨fun q h0 h9 => ?_, fun q h0 h3 => ?_, ?_, ?_, fun k h0 hk => ?_⟩
  · have := a1 q h0 h9
    by_cases e : q = p
    · subst e
      rw [pu_says_other (by omega), pu_says_other (by omega), pu_says_other (by omega), nb_ud_same, pu_says_other (by omega), pu_says_other (by omega), pu_says_other (by omega), pu_says_other (by omega)]
      omega
    · rw [pu_says_other (by omega), pu_says_other (by omega), pu_says_other (by omega), pu_says_other (by omega), pu_says_other (by omega), pu_says_other (by omega), pu_says_other (by omega), pu_says_other (by omega)]
      exact this
  · rw [pu_says_other (by omega), pu_says_other (by omega), pu_says_other (by omega), pu_says_other (by omega)]
    exact a2 q h0 h3
  · rw [pu_says_other (by omega)]
    exact a3
  · rw [pu_says_other (by omega)]
    exact a4
  · rw [pu_says_other (by omega)] at hk
    rw [pu_says_other (by omega)]
    exact a5 k h0 hk
theorem pu_Rk_says {R : Int → Int} {p v : Int} (hp : 0 ≤ p) (h : pu_Rk R) : pu_Rk (nb_ud R (12 + 8 * p + 3) v) := by
  unfold pu_Rk at h ⊢
  rw [pu_says_other (by omega), pu_nb_eq (fun q : Nat => by rw [pu_says_other (by omega)])]
  exact h
theorem pu_hb_says {pe R : Int → Int} {p v t q : Int} (hp : 0 ≤ p) (h1 : R 1 ≤ 10) (h : pu_hb pe R t q) : pu_hb pe (nb_ud R (12 + 8 * p + 3) v) t q := by
  unfold pu_hb at h ⊢
  rw [pu_says_other (j := 12 + 8 * q) (by omega), pu_says_other (j := 12 + 8 * q + 4) (by omega), pu_says_other (j := 12 + 8 * q + 7) (by omega), pu_says_other (j := 1) (by omega)]
  obtain ⟨b0, b1, b2, b3, b5⟩ := h
  refine ⟨b0, b1, fun z => ?_, b3, b5⟩
  obtain ⟨c1, c2, c3, k, k0, k1, k2⟩ := b2 z
  exact ⟨c1, c2, c3, k, k0, k1, by rw [pu_says_other (by omega)]; exact k2⟩
theorem pu_Ib_says {pe R : Int → Int} {np ns p v : Int} (hp : 0 ≤ p ∧ p ≤ 9) (hv : -100000 ≤ v ∧ v ≤ 100000) (h : pu_Ib pe R np ns) : pu_Ib pe (nb_ud R (12 + 8 * p + 3) v) np ns := by
  obtain ⟨h1, h2, ⟨h3, h3'⟩, h4⟩ := h
  have r1 := h1.2.2.2.1.2
  refine ⟨pu_Rw_says hp hv h1, pu_Rk_says hp.1 h2, ⟨fun q a b => ?_, fun k a b => ?_⟩, fun s a b => ?_⟩
  · rw [pu_says_other (j := 0) (by omega)]
    exact pu_hb_says hp.1 r1 (h3 q a b)
  · rw [pu_says_other (by omega)] at b
    rw [pu_says_other (j := 2 + k) (by omega), pu_says_other (by omega)]
    exact h3' k a b
  · rw [pu_says_other (by omega)]
    exact h4 s a b
theorem pu_S_says {M : nb_M} {np ns p v : Int} {cr pe R : Int → Int} (hp : 0 ≤ p ∧ p < np) (hnp : np ≤ 10) (h1 : R 1 ≤ 10) (h : pu_S M 106 np ns cr pe R) : pu_S (nb_wr M (110 + p) 7 v) 106 np ns cr pe (nb_ud R (12 + 8 * p + 3) v) := by
  obtain ⟨a1, a2, a3, a4, a5, a6⟩ := h
  refine ⟨?_, ?_, ?_, fun k a b => ?_, fun q a b => ?_, fun s a b => ?_⟩
  · rw [nb_wr_b (by omega)]; exact a1
  · rw [nb_wr_b (by omega)]; exact a2
  · rw [nb_wr_b (by omega), pu_says_other (by omega)]; exact a3
  · rw [pu_says_other (by omega)] at b
    rw [nb_wr_b (by omega), pu_says_other (by omega)]; exact a4 k a b
  · have g := a5 q a b
    by_cases e : q = p
    · subst e
      rw [show (106 : Int) + 4 + q = 110 + q by omega] at g ⊢
      obtain ⟨g0, g2, g3, g4, g5, g6, g7, g8, g9, g10, g12⟩ := g
      unfold pu_G
      rw [nb_wr_1, nb_wr_1, nb_wr_1, nb_wr_1, nb_wr_1, nb_wr_1, nb_wr_1, nb_wr_1, nb_wr_1, nb_wr_1, nb_wr_1, if_neg (by omega), if_neg (by omega), if_neg (by omega), if_neg (by omega), if_neg (by omega), if_neg (by omega), if_pos ⟨rfl, rfl⟩, if_neg (by omega), if_neg (by omega), if_neg (by omega), if_neg (by omega), nb_ud_same, pu_says_other (by omega), pu_says_other (by omega), pu_says_other (by omega), pu_says_other (by omega), pu_says_other (by omega), pu_says_other (by omega)]
      exact ⟨g0, g2, g3, g4, g5, g6, rfl, g8, g9, g10, g12⟩
    · rw [nb_wr_b (by omega)]
      obtain ⟨g0, g2, g3, g4, g5, g6, g7, g8, g9, g10, g12⟩ := g
      unfold pu_G
      rw [pu_says_other (j := 12 + 8 * q + 1) (by omega), pu_says_other (j := 12 + 8 * q + 2) (by omega), pu_says_other (j := 12 + 8 * q + 3) (by omega), pu_says_other (j := 12 + 8 * q) (by omega), pu_says_other (j := 12 + 8 * q + 4) (by omega), pu_says_other (j := 12 + 8 * q + 5) (by omega), pu_says_other (j := 12 + 8 * q + 6) (by omega)]
      exact ⟨g0, g2, g3, g4, g5, g6, g7, g8, g9, g10, g12⟩
  · have g := a6 s a b
    obtain ⟨g1, g2, g3, g4, g5, g6, g7, f0, f1⟩ := g
    rw [nb_wr_b (by omega), nb_wr_b (by omega)]
    unfold pu_V
    rw [pu_says_other (j := 92 + 4 * s) (by omega), pu_says_other (j := 92 + 4 * s + 1) (by omega), pu_says_other (j := 92 + 4 * s + 2) (by omega), pu_says_other (j := 92 + 4 * s + 3) (by omega)]
    exact ⟨g1, g2, g3, g4, g5, g6, g7, f0, f1⟩
