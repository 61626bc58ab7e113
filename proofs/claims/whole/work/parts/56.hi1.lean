/-! WHO WAS PASSED, WHO PUSHED IN: what a second does to it -/
theorem pu_hm_hb {pe R : Int → Int} {t p : Int} (h : pu_hm pe R t p) : pu_hb pe R (t + 1) p := by
  obtain ⟨h0, h1, h2, h3, h5⟩ := h
  refine ⟨fun h => ?_, fun h => ?_, fun h => ?_, fun h => ?_, fun h => ?_⟩
  · have := h0 h; omega
  · have := h1 h; omega
  · have := h2 h
    exact ⟨this.1, by omega, this.2.2.1, this.2.2.2⟩
  · have := h3 h; omega
  · have := h5 h; omega
theorem pu_Hm_Hb {pe R : Int → Int} {np t : Int} (h : pu_Hm pe R np t) : pu_Hb pe R np (t + 1) := ⟨fun p a b => pu_hm_hb (h.1 p a b), h.2⟩
/-- cells that are alike give a like standing -/
theorem pu_hb_congr {pe R R' : Int → Int} {t p : Int} (e0 : R' (12 + 8 * p) = R (12 + 8 * p)) (e4 : R' (12 + 8 * p + 4) = R (12 + 8 * p + 4)) (e7 : R' (12 + 8 * p + 7) = R (12 + 8 * p + 7)) (ew : ∀ k : Int, 0 ≤ k → k < R 1 → R (2 + k) = p → ∃ k : Int, 0 ≤ k ∧ k < R' 1 ∧ R' (2 + k) = p) (h : pu_hb pe R t p) : pu_hb pe R' t p := by
  unfold pu_hb at *
  rw [e0, e4, e7]
  refine ⟨h.1, h.2.1, fun q => ?_, h.2.2.2.1, h.2.2.2.2⟩
  obtain ⟨a, b, c, k, k1, k2, k3⟩ := h.2.2.1 q
  exact ⟨a, b, c, ew k k1 k2 k3⟩
theorem pu_hm_congr {pe R R' : Int → Int} {t p : Int} (e0 : R' (12 + 8 * p) = R (12 + 8 * p)) (e4 : R' (12 + 8 * p + 4) = R (12 + 8 * p + 4)) (e7 : R' (12 + 8 * p + 7) = R (12 + 8 * p + 7)) (ew : ∀ k : Int, 0 ≤ k → k < R 1 → R (2 + k) = p → ∃ k : Int, 0 ≤ k ∧ k < R' 1 ∧ R' (2 + k) = p) (h : pu_hm pe R t p) : pu_hm pe R' t p := by
  unfold pu_hm at *
  rw [e0, e4, e7]
  refine ⟨h.1, h.2.1, fun q => ?_, h.2.2.2.1, h.2.2.2.2⟩
  obtain ⟨a, b, c, k, k1, k2, k3⟩ := h.2.2.1 q
  exact ⟨a, b, c, ew k k1 k2 k3⟩
/-- a person's cells when those who come stand -/
theorem pu_cm_at {pe R : Int → Int} {t p : Int} : (pu_cm pe t p R (12 + 8 * p) = if R (12 + 8 * p) = 1 ∨ (R (12 + 8 * p) = 0 ∧ pe (7 * p + 2) = t) then (if 0 ≤ pe (7 * p + 6) - 1 ∧ pe (7 * p + 6) - 1 ≤ t then 3 else if t - pe (7 * p + 2) < pe (7 * p + 4) then 1 else 4) else R (12 + 8 * p)) ∧ pu_cm pe t p R (12 + 8 * p + 4) = R (12 + 8 * p + 4) ∧ (pu_cm pe t p R (12 + 8 * p + 7) = if (R (12 + 8 * p) = 1 ∨ (R (12 + 8 * p) = 0 ∧ pe (7 * p + 2) = t)) ∧ ((0 ≤ pe (7 * p + 6) - 1 ∧ pe (7 * p + 6) - 1 ≤ t) ∨ ¬ t - pe (7 * p + 2) < pe (7 * p + 4)) then t else R (12 + 8 * p + 7)) := by
  unfold pu_cm
  refine ⟨?_, ?_, ?_⟩
  · (repeat' split) <;> (try unfold nb_ud) <;> (repeat' split) <;> first | rfl | omega
  · (repeat' split) <;> (try unfold nb_ud) <;> (repeat' split) <;> first | rfl | omega
  · by_cases h : R (12 + 8 * p) = 1 ∨ (R (12 + 8 * p) = 0 ∧ pe (7 * p + 2) = t)
    · rw [if_pos h]
      (repeat' split) <;> (try unfold nb_ud) <;> (repeat' split) <;> first | rfl | omega
    · rw [if_neg h, if_neg (fun q => h q.1)]
theorem pu_cm_hm {pe R : Int → Int} {t p : Int} (ht : 0 ≤ t) (hp : 0 ≤ p) (h : pu_hb pe R t p) : pu_hm pe (pu_cm pe t p R) t p := by
  obtain ⟨h0, h1, h2, h3, h5⟩ := h
  obtain ⟨e0, e4, e7⟩ := pu_cm_at (pe := pe) (R := R) (t := t) (p := p)
  have e1 := pu_cm_0 (pe := pe) (R := R) (t := t) hp (j := 1) (by omega)
  unfold pu_hm
  rw [e0, e4, e7, e1]
  clear e0 e4 e7 e1
  refine ⟨fun q => ?_, fun q => ?_, fun q => ?_, fun q => ?_, fun q => ?_⟩
  · clear h2
    split at q
    · (repeat' split at q) <;> omega
    · rename_i hn
      have := h0 q
      refine ⟨by omega, this.2.1, ?_⟩
      rw [if_neg (fun z => hn z.1)]
      exact this.2.2
  · clear h2
    split at q
    · rename_i hy
      split at q
      · omega
      · split at q
        · rw [if_neg (by omega)]
          omega
        · omega
    · omega
  · split at q
    · (repeat' split at q) <;> omega
    · rename_i hn
      obtain ⟨a, b, c, k, k1, k2, k3⟩ := h2 q
      refine ⟨a, by omega, ?_, k, k1, k2, ?_⟩
      · rw [if_neg (fun z => hn z.1)]
        exact c
      · by_cases hk : 2 + k < 12
        · rw [pu_cm_0 hp (Or.inl hk)]
          exact k3
        · unfold pu_cm
          rw [if_neg hn]
          exact k3
  · clear h2
    split at q
    · rename_i hy
      split at q
      · rw [if_pos (by omega)]
        omega
      · split at q
        · omega
        · rw [if_pos (by omega)]
          omega
    · rename_i hn
      rw [if_neg (fun z => hn z.1)]
      have := h3 q
      omega
  · split at q
    · (repeat' split at q) <;> omega
    · rename_i hn
      rw [if_neg (fun z => hn z.1)]
      exact h5 q
/-- those who come change nobody's being passed -/
theorem pu_cm_pas {pe R : Int → Int} {np t p q : Int} (hnp : np ≤ 10) (hw : pu_who R np) (h1 : R 1 ≤ 10) (hb : ∀ p, 0 ≤ p → p < np → R (12 + 8 * p) = 2 → R (12 + 8 * p + 4) < t) (hp : 0 ≤ p ∧ p < np) (hq : 0 ≤ q ∧ q < np) (he : R (12 + 8 * p) = 0 ∨ R (12 + 8 * p) = 1 → R (12 + 8 * p + 7) = -2) : ∀ k : Nat, k ≤ R 1 → pu_pas pe (pu_cm pe t p R) q k = pu_pas pe R q k
  | 0, _ => rfl
  | k + 1, hk => by
    have ih := pu_cm_pas (pe := pe) hnp hw h1 hb hp hq he k (by omega)
    obtain ⟨w0, w1, w2⟩ := hw k (by omega) (by omega)
    have hb2 := hb _ w0 w1 w2
    have hk2 : pu_cm pe t p R (2 + k) = R (2 + k) := pu_cm_0 hp.1 (by omega)
    have h4 : pu_cm pe t p R (12 + 8 * R (2 + k) + 4) = R (12 + 8 * R (2 + k) + 4) := by
      generalize R (2 + k) = u at *
      unfold pu_cm
      (repeat' split) <;> (try unfold nb_ud) <;> (repeat' split) <;> first | rfl | omega
    have h7 : (pu_cm pe t p R (12 + 8 * q + 7) ≠ -2 ∧ pu_cm pe t p R (12 + 8 * q + 7) ≤ R (12 + 8 * R (2 + k) + 4)) ↔ (R (12 + 8 * q + 7) ≠ -2 ∧ R (12 + 8 * q + 7) ≤ R (12 + 8 * R (2 + k) + 4)) := by
      by_cases e : q = p
      · subst e
        rw [(pu_cm_at (pe := pe) (R := R) (t := t) (p := q)).2.2]
        split
        · rename_i hy
          have := he (by omega)
          omega
        · exact Iff.rfl
      · have : pu_cm pe t p R (12 + 8 * q + 7) = R (12 + 8 * q + 7) := by
          unfold pu_cm
          (repeat' split) <;> (try unfold nb_ud) <;> (repeat' split) <;> first | rfl | omega
        rw [this]
    unfold pu_pas
    rw [ih, hk2, h4]
    simp only [h7]
