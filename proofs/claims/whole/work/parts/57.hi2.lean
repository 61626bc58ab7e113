/-! WHO WAS PASSED, WHO PUSHED IN: what a beginning does to it -/
theorem pu_bg_who {r cr R : Int → Int} {t s h u : Int} (hs : 0 ≤ s ∧ s ≤ 3) (hh : 1 ≤ h ∧ h ≤ 2) (hu : 0 ≤ u ∧ u ≤ 9) (h1 : 0 ≤ R 1 ∧ R 1 ≤ 9) : pu_bg r cr t s h u R 1 = R 1 + 1 ∧ pu_bg r cr t s h u R (2 + R 1) = u ∧ ∀ k, 0 ≤ k → k < R 1 → pu_bg r cr t s h u R (2 + k) = R (2 + k) := by
  refine ⟨?_, ?_, fun k a b => ?_⟩
  · unfold pu_bg
    exact nb_ud_same _ _ _
  · unfold pu_bg
    rw [nb_ud_other (by omega), nb_ud_same]
  · unfold pu_bg
    rw [nb_ud_other (by omega), nb_ud_other (by omega), nb_ud_other (by omega), nb_ud_other (by omega), nb_ud_other (by omega), nb_ud_other (by omega), nb_ud_other (by omega), nb_ud_other (by omega), nb_ud_other (by omega)]
theorem pu_bg_man {r cr R : Int → Int} {t s h u : Int} (hs : 0 ≤ s ∧ s ≤ 3) (hh : 1 ≤ h ∧ h ≤ 2) (hu : 0 ≤ u ∧ u ≤ 9) (h1 : 0 ≤ R 1 ∧ R 1 ≤ 9) : (pu_bg r cr t s h u R (12 + 8 * u) = 2 ∧ pu_bg r cr t s h u R (12 + 8 * u + 1) = R (12 + 8 * u + 1) ∧ pu_bg r cr t s h u R (12 + 8 * u + 2) = R (12 + 8 * u + 2) ∧ pu_bg r cr t s h u R (12 + 8 * u + 3) = R (12 + 8 * u + 3) ∧ pu_bg r cr t s h u R (12 + 8 * u + 4) = t ∧ pu_bg r cr t s h u R (12 + 8 * u + 5) = pu_dn r cr R t s u ∧ pu_bg r cr t s h u R (12 + 8 * u + 6) = s ∧ pu_bg r cr t s h u R (12 + 8 * u + 7) = R (12 + 8 * u + 7)) ∧ ∀ q j, 0 ≤ q → q ≤ 9 → q ≠ u → 0 ≤ j → j < 8 → pu_bg r cr t s h u R (12 + 8 * q + j) = R (12 + 8 * q + j) := by
  refine ⟨⟨?_, ?_, ?_, ?_, ?_, ?_, ?_, ?_⟩, fun q j a b c d e => ?_⟩
  all_goals unfold pu_bg
  all_goals unfold nb_ud
  all_goals (repeat' split) <;> first | rfl | omega
theorem pu_pas_stop {pe R : Int → Int} {q : Int} : ∀ n : Nat, (pu_pas pe R q n).2 = true ↔ ∃ k : Nat, k < n ∧ R (2 + k) = q
  | 0 => ⟨fun h => (by cases h), fun ⟨k, h, _⟩ => absurd h (Nat.not_lt_zero k)⟩
  | n + 1 => by
    have ih := pu_pas_stop (pe := pe) (R := R) (q := q) n
    unfold pu_pas
    split
    · rename_i h
      obtain ⟨k, k1, k2⟩ := ih.mp h
      exact ⟨fun _ => ⟨k, by omega, k2⟩, fun _ => h⟩
    · rename_i h
      split
      · rename_i h2
        exact ⟨fun _ => ⟨n, by omega, h2⟩, fun _ => rfl⟩
      · rename_i h2
        refine ⟨fun h3 => (by cases h3), fun ⟨k, k1, k2⟩ => ?_⟩
        by_cases e : k = n
        · subst e
          exact absurd k2 h2
        · exact absurd (ih.mpr ⟨k, by omega, k2⟩) h
theorem pu_pas_bits {pe R : Int → Int} {q p : Int} (hp : 0 ≤ p ∧ p < 31) : ∀ n : Nat, (∀ k : Nat, k < n → 0 ≤ R (2 + k) ∧ R (2 + k) < 31) → pu_bit (pu_pas pe R q n).1 p → ∃ k : Nat, k < n ∧ R (2 + k) = p
  | 0, _, h => absurd h (pu_bit_0 hp)
  | n + 1, hw, h => by
    have ih := pu_pas_bits (pe := pe) (R := R) (q := q) hp n (fun k hk => hw k (by omega))
    unfold pu_pas at h
    split at h
    · obtain ⟨k, k1, k2⟩ := ih h
      exact ⟨k, by omega, k2⟩
    · split at h
      · obtain ⟨k, k1, k2⟩ := ih h
        exact ⟨k, by omega, k2⟩
      · simp only at h
        split at h
        · rcases (pu_bit_or hp (hw n (by omega))).mp h with h | h
          · obtain ⟨k, k1, k2⟩ := ih h
            exact ⟨k, by omega, k2⟩
          · exact ⟨n, by omega, h.symm⟩
        · obtain ⟨k, k1, k2⟩ := ih h
          exact ⟨k, by omega, k2⟩
/-- all that a beginning finds -/
def pu_bgc (r cr pe R : Int → Int) (np t s h u : Int) : Prop := (0 ≤ s ∧ s ≤ 3) ∧ (1 ≤ h ∧ h ≤ 2) ∧ (0 ≤ u ∧ u < np) ∧ np ≤ 10 ∧ (0 ≤ R 1 ∧ R 1 ≤ 9) ∧ R (12 + 8 * u) = 1 ∧ 0 ≤ t ∧ pu_Hm pe R np t ∧ (∀ p, 0 ≤ p → p < np → 0 ≤ R (12 + 8 * p) ∧ R (12 + 8 * p) ≤ 5)
theorem pu_bg_pas {r cr pe R : Int → Int} {np t s h u q : Int} (c : pu_bgc r cr pe R np t s h u) (hq : 0 ≤ q ∧ q < np) : ∀ k : Nat, k ≤ R 1 → pu_pas pe (pu_bg r cr t s h u R) q k = pu_pas pe R q k
  | 0, _ => rfl
  | k + 1, hk => by
    have ih := pu_bg_pas c hq k (by omega)
    obtain ⟨hs, hh, hu, hnp, h1, hw, ht, ⟨hm, hwho⟩, hd⟩ := c
    obtain ⟨w1, w2, w3⟩ := pu_bg_who (r := r) (cr := cr) (t := t) hs hh (u := u) (by omega) h1
    obtain ⟨m1, m2⟩ := pu_bg_man (r := r) (cr := cr) (t := t) hs hh (u := u) (by omega) h1
    obtain ⟨v0, v1, v2⟩ := hwho k (by omega) (by omega)
    have hne : R (2 + k) ≠ u := by
      intro e
      rw [e] at v2
      omega
    have e7 : pu_bg r cr t s h u R (12 + 8 * q + 7) = R (12 + 8 * q + 7) := by
      by_cases e : q = u
      · rw [e]
        exact m1.2.2.2.2.2.2.2
      · exact m2 q 7 hq.1 (by omega) e (by omega) (by omega)
    have e4 := m2 (R (2 + k)) 4 v0 (by omega) hne (by omega) (by omega)
    unfold pu_pas
    rw [ih, w3 k (by omega) (by omega), e4, e7]
theorem pu_bg_pa {r cr pe R : Int → Int} {np t s h u q : Int} (c : pu_bgc r cr pe R np t s h u) (hq : 0 ≤ q ∧ q < np) : pu_pa pe (pu_bg r cr t s h u R) q = if pu_bg r cr t s h u R (12 + 8 * q) = 1 ∧ (pe (7 * q + 2) < pe (7 * u + 2) ∨ (pe (7 * q + 2) = pe (7 * u + 2) ∧ q < u)) then nb_or (pu_pa pe R q) (nb_shl 1 u) else pu_pa pe R q := by
  have hp := pu_bg_pas c hq (R 1).toNat (by have := c.2.2.2.2.1; omega)
  obtain ⟨hs, hh, hu, hnp, h1, hw, ht, ⟨hm, hwho⟩, hd⟩ := c
  obtain ⟨w1, w2, w3⟩ := pu_bg_who (r := r) (cr := cr) (t := t) hs hh (u := u) (by omega) h1
  obtain ⟨m1, m2⟩ := pu_bg_man (r := r) (cr := cr) (t := t) hs hh (u := u) (by omega) h1
  have e1 : (pu_bg r cr t s h u R 1).toNat = (R 1).toNat + 1 := by omega
  have e2 : pu_bg r cr t s h u R (2 + (((R 1).toNat : Nat) : Int)) = u := by rw [show (((R 1).toNat : Nat) : Int) = R 1 by omega]; exact w2
  unfold pu_pa
  rw [e1, pu_pas, hp, e2]
  have hstop := nb_Hw (pu_pas_stop (pe := pe) (R := R) (q := q) (R 1).toNat)
  by_cases eq : q = u
  · subst eq
    rw [if_neg (by omega : ¬ (pu_bg r cr t s h q R (12 + 8 * q) = 1 ∧ _))]
    split
    · rfl
    · rw [if_pos rfl]
  · have a0 := m2 q 0 hq.1 (by omega) eq (by omega) (by omega)
    rw [Int.add_zero] at a0
    have a7 := m2 q 7 hq.1 (by omega) eq (by omega) (by omega)
    obtain ⟨g0, g1, g2, g3, g5⟩ := hm q hq.1 hq.2
    have gd := hd q hq.1 hq.2
    replace g2 := nb_Hw g2
    rw [a0, a7, m1.2.2.2.2.1]
    by_cases h2 : R (12 + 8 * q) = 2
    · obtain ⟨-, -, -, k, k1, k2, k3⟩ := (nb_Hu g2) h2
      rw [if_pos ((nb_Hu hstop).mpr ⟨k.toNat, by omega, by rw [show ((k.toNat : Nat) : Int) = k by omega]; exact k3⟩), if_neg (by omega)]
    · have hns : ¬ (pu_pas pe R q (R 1).toNat).2 = true := fun x => by
        obtain ⟨k, k1, k2⟩ := (nb_Hu hstop).mp x
        have := (hwho k (by omega) (by omega)).2.2
        rw [k2] at this
        exact h2 this
      rw [if_neg hns, if_neg (fun e => eq e.symm)]
      simp only
      clear hns hstop hp e1 e2 w3 m2 hwho g2
      by_cases hq1 : R (12 + 8 * q) = 1
      · have := g1 hq1
        by_cases hb : pe (7 * q + 2) < pe (7 * u + 2) ∨ (pe (7 * q + 2) = pe (7 * u + 2) ∧ q < u)
        · rw [if_pos (by omega), if_pos ⟨hq1, hb⟩]
        · rw [if_neg (by omega), if_neg (fun z => hb z.2)]
      · rw [if_neg (by omega : ¬ (R (12 + 8 * q) = 1 ∧ _)), if_neg (by
          have k0 := g0
          have k3 := g3
          have k5 := g5
          omega)]
theorem pu_bg_hm {r cr pe R : Int → Int} {np t s h u : Int} (c : pu_bgc r cr pe R np t s h u) : pu_Hm pe (pu_bg r cr t s h u R) np t := by
  obtain ⟨hs, hh, hu, hnp, h1, hw, ht, ⟨hm, hwho⟩, hd⟩ := c
  obtain ⟨w1, w2, w3⟩ := pu_bg_who (r := r) (cr := cr) (t := t) hs hh (u := u) (by omega) h1
  obtain ⟨m1, m2⟩ := pu_bg_man (r := r) (cr := cr) (t := t) hs hh (u := u) (by omega) h1
  have m0 : ∀ q, 0 ≤ q → q ≤ 9 → q ≠ u → pu_bg r cr t s h u R (12 + 8 * q) = R (12 + 8 * q) := fun q a b e => by
    have := m2 q 0 a b e (by omega) (by omega)
    rw [Int.add_zero] at this
    exact this
  refine ⟨fun p a b => ?_, fun k a b => ?_⟩
  · by_cases e : p = u
    · subst e
      have h7 := (hm p a b).2.1 hw
      refine ⟨fun q => by omega, fun q => by omega, fun _ => ⟨by omega, by omega, by omega, R 1, by omega, by omega, w2⟩, fun q => by omega, fun q => by omega⟩
    · exact pu_hm_congr (m0 p a (by omega) e) (m2 p 4 a (by omega) e (by omega) (by omega)) (m2 p 7 a (by omega) e (by omega) (by omega)) (fun k k0 k1 k2 => ⟨k, k0, by omega, (w3 k k0 k1).trans k2⟩) (hm p a b)
  · by_cases e : k = R 1
    · subst e
      rw [w2]
      exact ⟨hu.1, hu.2, m1.1⟩
    · have h3 := hwho k a (by omega)
      rw [w3 k a (by omega)]
      refine ⟨h3.1, h3.2.1, ?_⟩
      rw [m0 _ h3.1 (by omega) (fun e => by rw [e] at h3; omega)]
      exact h3.2.2
theorem pu_bg_pu {r cr pe R : Int → Int} {np t s h u : Int} (c : pu_bgc r cr pe R np t s h u) : pu_pu pe (pu_bg r cr t s h u R) np u = pu_npf pe (pu_bg r cr t s h u R) u 0 np.toNat ∧ ∀ p, 0 ≤ p → p < np → p ≠ u → pu_pu pe (pu_bg r cr t s h u R) np p = pu_pu pe R np p := by
  have hpa := fun q hq => pu_bg_pa (q := q) c hq
  obtain ⟨hs, hh, hu, hnp, h1, hw, ht, ⟨hm, hwho⟩, hd⟩ := c
  obtain ⟨m1, m2⟩ := pu_bg_man (r := r) (cr := cr) (t := t) hs hh (u := u) (by omega) h1
  have hnb : ∀ q, ¬ pu_bit (pu_pa pe R q) u := fun q hb => by
    obtain ⟨k, k1, k2⟩ := pu_pas_bits (pe := pe) (R := R) (q := q) (p := u) (by omega) (R 1).toNat (fun k hk => by have := hwho k (by omega) (by omega); omega) hb
    have := (hwho k (by omega) (by omega)).2.2
    rw [k2] at this
    omega
  constructor
  · have : ∀ n : Nat, n ≤ np.toNat → pu_pus pe (pu_bg r cr t s h u R) u n = pu_npf pe (pu_bg r cr t s h u R) u 0 n := by
      intro n
      induction n with
      | zero => intro _; rfl
      | succ n ih =>
        intro hn
        have hq := hpa n (by omega)
        unfold pu_pus pu_npf
        rw [ih (by omega)]
        by_cases hx : pu_bg r cr t s h u R (12 + 8 * n) = 1 ∧ (pe (7 * n + 2) < pe (7 * u + 2) ∨ (pe (7 * n + 2) = pe (7 * u + 2) ∧ (n : Int) < u))
        · rw [if_pos hx] at hq
          rw [if_pos hx, if_pos]
          refine ⟨fun e => ?_, by omega, ?_⟩
          · rw [e] at hx
            omega
          · rw [hq]
            exact (pu_bit_or (by omega) (by omega)).mpr (Or.inr rfl)
        · rw [if_neg hx] at hq
          rw [if_neg hx, if_neg]
          intro z
          rw [hq] at z
          exact hnb _ z.2.2
    unfold pu_pu
    rw [if_neg (by omega)]
    exact this _ (Nat.le_refl _)
  · intro p p0 p1 hne
    have e4 := m2 p 4 p0 (by omega) hne (by omega) (by omega)
    unfold pu_pu
    rw [e4]
    split
    · rfl
    · have : ∀ n : Nat, n ≤ np.toNat → pu_pus pe (pu_bg r cr t s h u R) p n = pu_pus pe R p n := by
        intro n
        induction n with
        | zero => intro _; rfl
        | succ n ih =>
          intro hn
          have hq := hpa n (by omega)
          have hbit : pu_bit (pu_pa pe (pu_bg r cr t s h u R) n) p ↔ pu_bit (pu_pa pe R n) p := by
            rw [hq]
            split
            · exact ⟨fun z => ((pu_bit_or (by omega) (by omega)).mp z).elim id (fun e => absurd e hne), fun z => (pu_bit_or (by omega) (by omega)).mpr (Or.inl z)⟩
            · exact Iff.rfl
          unfold pu_pus
          rw [ih (by omega)]
          simp only [hbit]
      exact this _ (Nat.le_refl _)
