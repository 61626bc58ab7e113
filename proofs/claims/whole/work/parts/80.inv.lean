/-! WHAT STANDS BETWEEN CALLS -/
def pu_cr0 (r : Int → Int) : Int → Int := fun j => if j < 18 then r (23 + j) else 0
def pu_pe0 (r : Int → Int) : Int → Int := fun j => r (41 + j)
/-- a scene that stands as a row says, as told -/
def pu_Sn (M : nb_M) (A Ho : Int) (r R : Int → Int) (k : Int) : Prop :=
  pu_S M A (r 5) (r 4) (pu_cr0 r) (pu_pe0 r) R ∧ pu_X M A (r 5) (pu_pe0 r) R ∧ pu_Ib (pu_pe0 r) R (r 5) (r 4) ∧ M.1 A 3 = Ho ∧ M.1 A 7 = R 0 ∧ M.1 A 8 = r 2 ∧ R 0 ≤ r 2 + 1 ∧ ∀ p, 0 ≤ p → p ≤ 9 → R (12 + 8 * p + 3) ≤ 1000 + k
/-- what is told -/
def pu_T (r : Int → Int) : Prop :=
  pu_Rr r ∧ pu_Rc (pu_cr0 r) ∧ pu_Rp (pu_pe0 r) ∧
  (∀ s, 0 ≤ s → s < 3 → (0 ≤ r (23 + 6 * s) ∧ r (23 + 6 * s) ≤ 4) ∧ (0 ≤ r (23 + 6 * s + 2) ∧ r (23 + 6 * s + 2) ≤ 19) ∧ (0 ≤ r (23 + 6 * s + 3) ∧ r (23 + 6 * s + 3) ≤ 19)) ∧
  (∀ k, 0 ≤ k → k < 8 → (0 ≤ r (161 + 3 * k) ∧ r (161 + 3 * k) ≤ 9) ∧ (0 ≤ r (161 + 3 * k + 1) ∧ r (161 + 3 * k + 1) ≤ 9) ∧ (0 ≤ r (161 + 3 * k + 2) ∧ r (161 + 3 * k + 2) ≤ 9)) ∧
  (∀ k, 0 ≤ k → k < r 7 → r (161 + 3 * k) < r 5 ∧ r (161 + 3 * k + 1) < r 5 ∧ r (161 + 3 * k + 2) < r 5) ∧
  ((1 ≤ r 1 ∧ 1 ≤ r 2 ∧ 1 ≤ r 3 ∧ 1 ≤ r 4 ∧ 1 ≤ r 5) ∨ (r 1 = 0 ∧ r 2 = 0 ∧ r 3 = 0 ∧ r 4 = 0 ∧ r 5 = 0 ∧ r 6 = 0 ∧ r 7 = 0)) ∧
  (∀ p, 0 ≤ p → p < r 5 → r (41 + (7 * p + 2)) ≤ r 2) ∧ ∀ s, 0 ≤ s → s < r 4 → 1 ≤ r (23 + (6 * s + 5))
/-- what never changes of the people told -/
def pu_gk (g : Int → Int) : Prop := g 8 = 0 ∧ g 9 = -2 ∧ g 10 = -2 ∧ g 12 = -2 ∧ g 13 = 0 ∧ g 14 = 0
def pu_I1 (M : nb_M) : Prop := (0 ≤ M.1 603 2 ∧ M.1 603 2 ≤ 1000) ∧ M.1 2 1 = M.1 603 2 ∧ (∀ i, 0 ≤ i → i < M.1 603 2 → (0 ≤ M.1 604 i ∧ M.1 604 i ≤ 255) ∧ M.1 3 i = if M.1 604 i < 128 then M.1 604 i else M.1 604 i - 256) ∧ (∀ i, 0 ≤ i → i < 8 → M.1 141 i = 0) ∧ ∀ a, (24 ≤ a ∧ a < 34) ∨ (60 ≤ a ∧ a < 70) → pu_gk (M.1 a)
def pu_I2 (M : nb_M) : Prop := pu_T (M.1 606) ∧ (M.1 603 14 = if M.1 606 5 = 0 then 0 else 1) ∧ (M.1 606 5 = 0 → (∀ j, 0 ≤ j → j < 108 → M.1 608 j = 0) ∧ M.1 603 21 = 0 ∧ M.1 603 22 = 0)
def pu_I3 (M : nb_M) (Ho So k : Int) : Prop := ((Ho = 4 ∧ So = 40) ∨ (Ho = 40 ∧ So = 4)) ∧ M.1 2 2 = Ho ∧ M.1 2 3 = So ∧ pu_Ho M Ho (M.1 606) ∧ pu_Sn M 84 Ho (M.1 606) (M.1 608) k
def pu_I4 (M : nb_M) (Ho k : Int) : Prop := (0 ≤ M.1 603 21 ∧ M.1 603 21 ≤ 12) ∧ M.1 2 9 = M.1 603 21 ∧ (0 ≤ M.1 2 8 ∧ M.1 2 8 < 12) ∧ ∀ j, 0 ≤ j → j < M.1 603 21 → pu_Sn M (273 + 22 * ((M.1 2 8 + j) % 12)) Ho (M.1 606) (fun i => M.1 610 (108 * j + i)) k
def pu_I5 (M : nb_M) (Ho k : Int) : Prop := (0 ≤ M.1 603 22 ∧ M.1 603 22 ≤ 3) ∧ M.1 2 11 = M.1 603 22 ∧ ∀ j, 0 ≤ j → j < M.1 603 22 → pu_Sn M (537 + 22 * j) Ho (M.1 606) (fun i => M.1 611 (108 * j + i)) k
def pu_I6 (M : nb_M) : Prop := M.1 2 15 = M.1 603 11 ∧ M.1 2 16 = M.1 603 9 ∧ (M.1 603 11 = 4 → M.1 2 17 = M.1 603 10)
def pu_I7 (M : nb_M) : Prop := (0 ≤ M.1 612 19 ∧ M.1 612 19 ≤ 19) ∧ (0 ≤ M.1 612 22 ∧ M.1 612 22 ≤ 9) ∧ (0 ≤ M.1 612 23 ∧ M.1 612 23 ≤ 2)
/-- between calls; k calls have been -/
def pu_I (M : nb_M) (k : Int) : Prop := nb_Lay M ∧ pu_I1 M ∧ pu_I2 M ∧ (∃ Ho So, pu_I3 M Ho So k ∧ pu_I4 M Ho k ∧ pu_I5 M Ho k) ∧ pu_I6 M ∧ pu_I7 M
/-! as told, with what is left from calls before -/
def pu_cra (M : nb_M) : Int → Int := pu_cpy (M.1 606) (M.1 612) 23 0 18
def pu_pea (M : nb_M) : Int → Int := pu_cpy (M.1 606) (M.1 613) 41 0 70
def pu_sta (M : nb_M) : Int → Int := pu_cpy (M.1 608) (M.1 609) 0 0 108
theorem pu_cra_eq (M : nb_M) {i : Int} (h0 : 0 ≤ i) (h1 : i < 18) : pu_cra M i = pu_cr0 (M.1 606) i := by
  unfold pu_cra pu_cpy pu_cr0
  rw [if_pos (by omega), if_pos h1, show i - 0 + 23 = 23 + i by omega]
theorem pu_pea_eq (M : nb_M) {i : Int} (h0 : 0 ≤ i) (h1 : i < 70) : pu_pea M i = pu_pe0 (M.1 606) i := by
  unfold pu_pea pu_cpy pu_pe0
  rw [if_pos (by omega), show i - 0 + 41 = 41 + i by omega]
theorem pu_cra_rg {M : nb_M} (h : pu_I7 M) (ht : pu_T (M.1 606)) : pu_Rc (pu_cra M) := by
  intro s a b
  have h2 := ht.2.1 s a b
  by_cases e : s < 3
  · rw [pu_cra_eq M (by omega) (by omega), pu_cra_eq M (by omega) (by omega), pu_cra_eq M (by omega) (by omega)]
    exact h2
  · have e3 : s = 3 := by omega
    subst e3
    unfold pu_cra pu_cpy
    rw [if_neg (by omega), if_neg (by omega), if_neg (by omega)]
    exact ⟨h.1, h.2.1, h.2.2⟩
theorem pu_pea_rg {M : nb_M} (ht : pu_T (M.1 606)) : pu_Rp (pu_pea M) := by
  intro p a b
  rw [pu_pea_eq M (by omega) (by omega), pu_pea_eq M (by omega) (by omega), pu_pea_eq M (by omega) (by omega), pu_pea_eq M (by omega) (by omega), pu_pea_eq M (by omega) (by omega), pu_pea_eq M (by omega) (by omega), pu_pea_eq M (by omega) (by omega)]
  exact ht.2.2.1 p a b
/-- a scene's standing, in the words of what is left from calls before -/
theorem pu_Sn_as {M N : nb_M} {A Ho : Int} {R R' : Int → Int} {k : Int} (ht : pu_T (M.1 606)) (hS : pu_Sn N A Ho (M.1 606) R k) (eR : ∀ i, 0 ≤ i → i < 108 → R' i = R i) : pu_S N A (M.1 606 5) (M.1 606 4) (pu_cra M) (pu_pea M) R' ∧ pu_X N A (M.1 606 5) (pu_pea M) R' ∧ pu_Ib (pu_pea M) R' (M.1 606 5) (M.1 606 4) := by
  obtain ⟨h1, h2, h3, -⟩ := hS
  have hr := ht.1
  have n5 := hr.2.2.2.2.2.2.1
  have n4 := hr.2.2.2.2.2.1
  have r1 := h3.1.2.2.2.1
  have hw : ∀ k, 0 ≤ k → k < R 1 → 0 ≤ R (2 + k) ∧ R (2 + k) < M.1 606 5 := fun k a b => ⟨(h3.2.2.1.2 k a b).1, (h3.2.2.1.2 k a b).2.1⟩
  exact ⟨pu_S_congr n5.2 (by omega) r1 (fun i a b => pu_cra_eq M a (by omega)) (fun i a b => pu_pea_eq M a b) eR h1, pu_X_congr n5.2 r1 hw (fun i a b => pu_pea_eq M a b) eR h2, pu_Ib_congr n5.2 (by omega) (fun i a b => pu_pea_eq M a b) eR h3⟩
