/-! CONTRACTS: begin, a second -/
theorem pu_bg_rw {r cr R : Int → Int} {t s h p : Int} (hr : pu_Rr r) (hc : pu_Rc cr) (hR : pu_Rw R) (hs : 0 ≤ s ∧ s ≤ 3) (hh : 1 ≤ h ∧ h ≤ 2) (hp : 0 ≤ p ∧ p ≤ 9) (ht : 0 ≤ t ∧ t ≤ 9999) (h1 : R 1 ≤ 9) : pu_Rw (pu_bg r cr t s h p R) := by
  have hd := pu_dn_rg (t := t) hr hc hR hs hp
  have hq := (hR.1 p hp.1 hp.2).2.1
  refine ⟨fun q h0 h9 => ?_, fun q h0 h3 => ?_, ?_, ?_, fun k h0 hk => ?_⟩
  · have := hR.1 q h0 h9
    unfold pu_bg nb_ud
    refine ⟨?_, ?_, ?_, ?_, ?_, ?_, ?_, ?_⟩ <;> (repeat' split) <;> omega
  · have := hR.2.1 q h0 h3
    unfold pu_bg nb_ud
    refine ⟨?_, ?_, ?_, ?_⟩ <;> (repeat' split) <;> omega
  · have := hR.2.2.1
    unfold pu_bg nb_ud
    (repeat' split) <;> omega
  · have := hR.2.2.2.1
    unfold pu_bg nb_ud
    (repeat' split) <;> omega
  · have h2 := hR.2.2.2.1
    have h3 : pu_bg r cr t s h p R 1 = R 1 + 1 := by
      unfold pu_bg
      exact nb_ud_same _ _ _
    rw [h3] at hk
    have h4 := hR.2.2.2.2 k h0
    unfold pu_bg
    rw [nb_ud_other (show 2 + k ≠ 1 by omega)]
    by_cases e : k = R 1
    · rw [e, nb_ud_same]
      exact hp
    · rw [nb_ud_other (by omega), nb_ud_other (by omega), nb_ud_other (by omega), nb_ud_other (by omega), nb_ud_other (by omega), nb_ud_other (by omega), nb_ud_other (by omega), nb_ud_other (by omega)]
      exact h4 (by omega)
theorem pu_bg_nb {r cr R : Int → Int} {t s h : Int} {p : Nat} (hs : 0 ≤ s ∧ s ≤ 3) (hh : 1 ≤ h ∧ h ≤ 2) (h1 : 0 ≤ R 1 ∧ R 1 ≤ 9) (hp : p ≤ 9) (hw : R (12 + 8 * p) = 1) : pu_nb (pu_bg r cr t s h p R) 10 = pu_nb R 10 - 1 := by
  have h2 := pu_nb_ud (R := R) (R' := fun j => if 12 ≤ j ∧ j < 92 then pu_bg r cr t s h p R j else R j) (p := p) (Or.inr hw) (by
    have e : pu_bg r cr t s h p R (12 + 8 * p) = 2 := by
      unfold pu_bg nb_ud
      (repeat' split) <;> omega
    rw [if_pos (by omega), e]
    omega) (by
    intro q hq
    split
    · unfold pu_bg nb_ud
      (repeat' split) <;> omega
    · rfl) 10
  rw [if_pos (by omega)] at h2
  rw [← h2]
  have : ∀ n : Nat, n ≤ 10 → pu_nb (pu_bg r cr t s h p R) n = pu_nb (fun j => if 12 ≤ j ∧ j < 92 then pu_bg r cr t s h p R j else R j) n := by
    intro n
    induction n with
    | zero => intro _; rfl
    | succ n ih =>
      intro hn
      unfold pu_nb
      rw [ih (by omega)]
      simp only [if_pos (show 12 ≤ 12 + 8 * (n : Int) ∧ 12 + 8 * (n : Int) < 92 by omega)]
  exact this 10 (Nat.le_refl 10)
theorem pu_bg_rk {r cr R : Int → Int} {t s h p : Int} (hs : 0 ≤ s ∧ s ≤ 3) (hh : 1 ≤ h ∧ h ≤ 2) (hp : 0 ≤ p ∧ p ≤ 9) (hw : R (12 + 8 * p) = 1) (hR : pu_Rw R) (hk : pu_Rk R) : pu_Rk (pu_bg r cr t s h p R) ∧ pu_nb (pu_bg r cr t s h p R) 10 = pu_nb R 10 - 1 ∧ R 1 ≤ 9 := by
  obtain ⟨n, rfl⟩ : ∃ n : Nat, p = n := ⟨p.toNat, by omega⟩
  have h2 := hR.2.2.2.1
  unfold pu_Rk at hk
  have h3 := pu_nb_pos (R := R) (p := n) (Or.inr hw) 10 (by omega)
  have h4 := pu_bg_nb (r := r) (cr := cr) (t := t) (h := h) hs hh (R := R) (p := n) (by omega) (by omega) hw
  refine ⟨?_, h4, by omega⟩
  unfold pu_Rk
  rw [h4]
  have h5 : pu_bg r cr t s h n R 1 = R 1 + 1 := by
    unfold pu_bg
    exact nb_ud_same _ _ _
  omega
theorem pu_nf_rg {np : Int} {cr pe R : Int → Int} {s : Int} (hnp : 0 ≤ np ∧ np ≤ 10) : pu_nf np cr pe R s = -2 ∨ (0 ≤ pu_nf np cr pe R s ∧ pu_nf np cr pe R s ≤ 9 ∧ pu_nf np cr pe R s < np ∧ R (12 + 8 * pu_nf np cr pe R s) = 1) := by
  rcases pu_nfs_rg (cr := cr) (pe := pe) (R := R) (s := s) np.toNat with h | ⟨h1, h2, h3, h4⟩
  · exact Or.inl h
  · unfold pu_nf
    exact Or.inr ⟨h1, by omega, by omega, h3⟩
