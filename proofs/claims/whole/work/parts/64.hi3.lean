/-! A SECOND'S FIRST HALF, and when nothing stirs -/
theorem pu_cm_other {pe R : Int → Int} {t p q j : Int} (hp : 0 ≤ p) (hq : 0 ≤ q) (hj : 0 ≤ j ∧ j < 8) (h : q ≠ p) : pu_cm pe t p R (12 + 8 * q + j) = R (12 + 8 * q + j) := by
  unfold pu_cm
  (repeat' split) <;> (try unfold nb_ud) <;> (repeat' split) <;> first | rfl | omega
theorem pu_cm_otherd {pe R : Int → Int} {t p q : Int} (hp : 0 ≤ p) (hq : 0 ≤ q) (h : q ≠ p) : pu_cm pe t p R (12 + 8 * q) = R (12 + 8 * q) := by
  have := pu_cm_other (pe := pe) (R := R) (t := t) (j := 0) hp hq (by omega) h
  rwa [Int.add_zero] at this
theorem pu_cm_2 {pe R : Int → Int} {t p : Int} : pu_cm pe t p R (12 + 8 * p) = 2 ↔ R (12 + 8 * p) = 2 := by
  rw [(pu_cm_at (pe := pe) (R := R) (t := t) (p := p)).1]
  by_cases h : R (12 + 8 * p) = 1 ∨ (R (12 + 8 * p) = 0 ∧ pe (7 * p + 2) = t)
  · rw [if_pos h]
    constructor
    · intro q
      exfalso
      (repeat' split at q) <;> omega
    · intro q
      omega
  · rw [if_neg h]
/-- while those who come come: who has, who hasn't stood yet -/
def pu_Mi (pe R : Int → Int) (np t k : Int) : Prop := (∀ p, 0 ≤ p → p < np → p < k → pu_hm pe R t p) ∧ (∀ p, 0 ≤ p → p < np → k ≤ p → pu_hb pe R t p) ∧ pu_who R np ∧ ∀ p, 0 ≤ p → p < np → R (12 + 8 * p) = 2 → R (12 + 8 * p + 4) < t
theorem pu_cm_who {pe R : Int → Int} {np t p : Int} (hp : 0 ≤ p) (h1 : R 1 ≤ 10) (h : pu_who R np) : pu_who (pu_cm pe t p R) np := by
  intro k a b
  have e1 := pu_cm_0 (pe := pe) (R := R) (t := t) hp (j := 1) (by omega)
  rw [e1] at b
  rw [pu_cm_0 hp (by omega)]
  obtain ⟨w0, w1, w2⟩ := h k a b
  refine ⟨w0, w1, ?_⟩
  by_cases e : R (2 + k) = p
  · rw [e] at w2 ⊢
    exact pu_cm_2.mpr w2
  · rw [pu_cm_otherd hp w0 e]
    exact w2
theorem pu_Mi_step {pe R : Int → Int} {np t k : Int} (ht : 0 ≤ t) (hk : 0 ≤ k ∧ k < np) (h1 : R 1 ≤ 10) (h : pu_Mi pe R np t k) : pu_Mi pe (pu_cm pe t k R) np t (k + 1) := by
  obtain ⟨a, b, c, d⟩ := h
  have e1 := pu_cm_0 (pe := pe) (R := R) (t := t) hk.1 (j := 1) (by omega)
  have ew : ∀ p j : Int, 0 ≤ j → j < R 1 → R (2 + j) = p → ∃ k' : Int, 0 ≤ k' ∧ k' < pu_cm pe t k R 1 ∧ pu_cm pe t k R (2 + k') = p := fun p j j0 j1 j2 => ⟨j, j0, by rw [e1]; exact j1, by rw [pu_cm_0 hk.1 (by omega)]; exact j2⟩
  refine ⟨fun p p0 p1 p2 => ?_, fun p p0 p1 p2 => ?_, pu_cm_who hk.1 h1 c, fun p p0 p1 p2 => ?_⟩
  · by_cases e : p = k
    · subst e
      exact pu_cm_hm ht p0 (b p p0 p1 (by omega))
    · exact pu_hm_congr (pu_cm_otherd hk.1 p0 e) (pu_cm_other hk.1 p0 (by omega) e) (pu_cm_other hk.1 p0 (by omega) e) (ew p) (a p p0 p1 (by omega))
  · have e : p ≠ k := by omega
    exact pu_hb_congr (pu_cm_otherd hk.1 p0 e) (pu_cm_other hk.1 p0 (by omega) e) (pu_cm_other hk.1 p0 (by omega) e) (ew p) (b p p0 p1 (by omega))
  · by_cases e : p = k
    · subst e
      rw [(pu_cm_at (pe := pe) (R := R) (t := t) (p := p)).2.1]
      exact d p p0 p1 (pu_cm_2.mp p2)
    · rw [pu_cm_otherd hk.1 p0 e] at p2
      rw [pu_cm_other hk.1 p0 (by omega) e]
      exact d p p0 p1 p2
theorem pu_cm_pa {pe R : Int → Int} {np t k q : Int} (hnp : np ≤ 10) (hk : 0 ≤ k ∧ k < np) (hq : 0 ≤ q ∧ q < np) (h1 : 0 ≤ R 1 ∧ R 1 ≤ 10) (h : pu_Mi pe R np t k) : pu_pa pe (pu_cm pe t k R) q = pu_pa pe R q := by
  have e1 := pu_cm_0 (pe := pe) (R := R) (t := t) hk.1 (j := 1) (by omega)
  unfold pu_pa
  rw [e1, pu_cm_pas hnp h.2.2.1 h1.2 h.2.2.2 hk hq (fun z => by
    have hb := h.2.1 k hk.1 hk.2 (Int.le_refl k)
    rcases z with z | z
    · exact (hb.1 z).2.2
    · exact (hb.2.1 z).2.2) _ (by omega)]
theorem pu_pu_congr {pe R R' : Int → Int} {np p : Int} (e4 : R' (12 + 8 * p + 4) = R (12 + 8 * p + 4)) (h : ∀ q, 0 ≤ q → q < np → pu_pa pe R' q = pu_pa pe R q) : pu_pu pe R' np p = pu_pu pe R np p := by
  have : ∀ n : Nat, n ≤ np.toNat → pu_pus pe R' p n = pu_pus pe R p n := by
    intro n
    induction n with
    | zero => intro _; rfl
    | succ n ih =>
      intro hn
      unfold pu_pus
      rw [ih (by omega), h n (by omega) (by omega)]
  unfold pu_pu
  rw [e4, this _ (Nat.le_refl _)]
/-- what a scene keeps, behind one who comes -/
theorem pu_cm_Gx {g g' pe R : Int → Int} {np t k : Int} (hnp : np ≤ 10) (hk : 0 ≤ k ∧ k < np) (h1 : 0 ≤ R 1 ∧ R 1 ≤ 10) (h : pu_Mi pe R np t k) (hg : pu_Gx g pe R np k) (e13 : g' 13 = g 13) (e14 : g' 14 = g 14) (e11 : R (12 + 8 * k) = 2 ∨ R (12 + 8 * k) = 3 ∨ R (12 + 8 * k) = 4 → g' 11 = g 11) (f11 : R (12 + 8 * k) ≠ 3 → R (12 + 8 * k) ≠ 4 → pu_cm pe t k R (12 + 8 * k) = 3 ∨ pu_cm pe t k R (12 + 8 * k) = 4 → g' 11 = t) : pu_Gx g' pe (pu_cm pe t k R) np k := by
  obtain ⟨x1, x2, x3, x4⟩ := hg
  obtain ⟨c0, c4, c7⟩ := pu_cm_at (pe := pe) (R := R) (t := t) (p := k)
  refine ⟨fun z => ?_, fun z => ?_, ?_, ?_⟩
  · have z2 := pu_cm_2.mp z
    rw [c4, e11 (Or.inl z2)]
    exact x1 z2
  · by_cases hz : R (12 + 8 * k) = 3 ∨ R (12 + 8 * k) = 4
    · rw [c7, if_neg (by omega), e11 (Or.inr hz)]
      exact x2 hz
    · rw [f11 (by omega) (by omega) z, c7]
      rw [c0] at z
      clear c0 c7 c4
      split at z
      · rename_i hy
        rw [if_pos]
        refine ⟨hy, ?_⟩
        split at z
        · rename_i q
          exact Or.inl q
        · split at z
          · omega
          · rename_i q
            exact Or.inr q
      · omega
  · rw [e13, x3, pu_cm_pa hnp hk hk h1 h]
  · rw [e14, x4, pu_pu_congr c4 (fun q a b => pu_cm_pa hnp hk ⟨a, b⟩ h1 h)]
theorem pu_cm_Gx2 {g pe R : Int → Int} {np t k p : Int} (hnp : np ≤ 10) (hk : 0 ≤ k ∧ k < np) (h1 : 0 ≤ R 1 ∧ R 1 ≤ 10) (h : pu_Mi pe R np t k) (hp : 0 ≤ p ∧ p < np) (hne : p ≠ k) (hg : pu_Gx g pe R np p) : pu_Gx g pe (pu_cm pe t k R) np p := by
  obtain ⟨x1, x2, x3, x4⟩ := hg
  refine ⟨fun z => ?_, fun z => ?_, ?_, ?_⟩
  · rw [pu_cm_otherd hk.1 hp.1 hne] at z
    rw [pu_cm_other hk.1 hp.1 (by omega) hne]
    exact x1 z
  · rw [pu_cm_otherd hk.1 hp.1 hne] at z
    rw [pu_cm_other hk.1 hp.1 (by omega) hne]
    exact x2 z
  · rw [x3, pu_cm_pa hnp hk hp h1 h]
  · rw [x4, pu_pu_congr (pu_cm_other hk.1 hp.1 (by omega) hne) (fun q a b => pu_cm_pa hnp hk ⟨a, b⟩ h1 h)]
/-- a scene's standing, behind one who comes -/
theorem pu_cm_S {M N : nb_M} {A np ns t k : Int} {cr pe R : Int → Int} (hnp : np ≤ 10) (hns : ns ≤ 4) (hk : 0 ≤ k ∧ k < np) (h1 : R 1 ≤ 10) (hS : pu_S M A np ns cr pe R) (e : ∀ a, a ≠ A + 4 + k → N.1 a = M.1 a) (hg : pu_G (N.1 (A + 4 + k)) pe (pu_cm pe t k R) k) : pu_S N A np ns cr pe (pu_cm pe t k R) := by
  obtain ⟨h4, h5, h6, h7, hG, hV⟩ := hS
  have e1 := pu_cm_0 (pe := pe) (R := R) (t := t) hk.1 (j := 1) (by omega)
  have c0 : ∀ s j, 0 ≤ s → 0 ≤ j → pu_cm pe t k R (92 + 4 * s + j) = R (92 + 4 * s + j) := fun s j a b => pu_cm_0 hk.1 (by omega)
  refine ⟨?_, ?_, ?_, fun j a b => ?_, fun p a b => ?_, fun s a b => ?_⟩
  · rw [e _ (by omega)]; exact h4
  · rw [e _ (by omega)]; exact h5
  · rw [e _ (by omega), e1]; exact h6
  · rw [e1] at b
    rw [e _ (by omega), pu_cm_0 hk.1 (by omega)]
    exact h7 j a b
  · by_cases q : p = k
    · rw [q]
      exact hg
    · have := hG p a b
      rw [e _ (by omega)]
      unfold pu_G at *
      rw [pu_cm_otherd hk.1 a q, pu_cm_other hk.1 a (by omega) q, pu_cm_other hk.1 a (by omega) q, pu_cm_other hk.1 a (by omega) q, pu_cm_other hk.1 a (by omega) q, pu_cm_other hk.1 a (by omega) q, pu_cm_other hk.1 a (by omega) q]
      exact this
  · have := hV s a b
    rw [e _ (by omega), e _ (by omega)]
    unfold pu_V at *
    rw [pu_cm_0 hk.1 (by omega : 92 + 4 * s < 12 ∨ 12 + 8 * k + 8 ≤ 92 + 4 * s), c0 s 1 a (by omega), c0 s 2 a (by omega), c0 s 3 a (by omega)]
    exact this
