/-! CONTRACTS: a second -/
theorem pu_cm_0 {pe R : Int → Int} {t p : Int} (hp : 0 ≤ p) {j : Int} (hj : j < 12 ∨ 12 + 8 * p + 8 ≤ j) : pu_cm pe t p R j = R j := by
  unfold pu_cm
  (repeat' split) <;> (try unfold nb_ud) <;> (repeat' split) <;> first | rfl | omega
theorem pu_cm_rw {pe R : Int → Int} {t p : Int} (hp : 0 ≤ p ∧ p ≤ 9) (ht : 0 ≤ t ∧ t ≤ 9999) (hR : pu_Rw R) : pu_Rw (pu_cm pe t p R) := by
  have e1 := pu_cm_0 (pe := pe) (R := R) (t := t) hp.1 (j := 1) (by omega)
  have e0 := pu_cm_0 (pe := pe) (R := R) (t := t) hp.1 (j := 0) (by omega)
  refine ⟨fun q h0 h9 => ?_, fun q h0 h3 => ?_, ?_, ?_, fun k h0 hk => ?_⟩
  · have := hR.1 q h0 h9
    unfold pu_cm
    split
    · split
      · unfold nb_ud
        refine ⟨?_, ?_, ?_, ?_, ?_, ?_, ?_, ?_⟩ <;> (repeat' split) <;> omega
      · split <;> unfold nb_ud <;> refine ⟨?_, ?_, ?_, ?_, ?_, ?_, ?_, ?_⟩ <;> (repeat' split) <;> omega
    · exact this
  · have := hR.2.1 q h0 h3
    rw [pu_cm_0 hp.1 (by omega), pu_cm_0 hp.1 (by omega), pu_cm_0 hp.1 (by omega), pu_cm_0 hp.1 (by omega)]
    exact this
  · rw [e0]
    exact hR.2.2.1
  · rw [e1]
    exact hR.2.2.2.1
  · rw [e1] at hk
    have := hR.2.2.2.1
    rw [pu_cm_0 hp.1 (by omega)]
    exact hR.2.2.2.2 k h0 hk
theorem pu_cm_rk {pe R : Int → Int} {t p : Int} (hp : 0 ≤ p ∧ p ≤ 9) (hk : pu_Rk R) : pu_Rk (pu_cm pe t p R) := by
  obtain ⟨n, rfl⟩ : ∃ n : Nat, p = n := ⟨p.toNat, by omega⟩
  have e1 := pu_cm_0 (pe := pe) (R := R) (t := t) hp.1 (j := 1) (by omega)
  unfold pu_Rk at hk ⊢
  rw [e1]
  have h2 : ∀ q : Nat, q ≠ n → pu_cm pe t n R (12 + 8 * q) = R (12 + 8 * q) := fun q hq => by
    unfold pu_cm
    (repeat' split) <;> (try unfold nb_ud) <;> (repeat' split) <;> first | rfl | omega
  by_cases h : pu_cm pe t n R (12 + 8 * n) = 0 ∨ pu_cm pe t n R (12 + 8 * n) = 1
  · have h3 : ∀ q : Nat, (pu_cm pe t n R (12 + 8 * q) = 0 ∨ pu_cm pe t n R (12 + 8 * q) = 1) ↔ (R (12 + 8 * q) = 0 ∨ R (12 + 8 * q) = 1) := by
      intro q
      by_cases e : q = n
      · subst e
        refine ⟨fun _ => ?_, fun _ => h⟩
        by_cases g : R (12 + 8 * q) = 1 ∨ (R (12 + 8 * q) = 0 ∧ pe (7 * q + 2) = t)
        · omega
        · unfold pu_cm at h
          rw [if_neg g] at h
          exact h
      · rw [h2 q e]
    rw [pu_nb_eq h3]
    exact hk
  · by_cases g : R (12 + 8 * n) = 0 ∨ R (12 + 8 * n) = 1
    · rw [pu_nb_ud g h h2, if_pos (by omega)]
      omega
    · have h3 : ∀ q : Nat, (pu_cm pe t n R (12 + 8 * q) = 0 ∨ pu_cm pe t n R (12 + 8 * q) = 1) ↔ (R (12 + 8 * q) = 0 ∨ R (12 + 8 * q) = 1) := by
        intro q
        by_cases e : q = n
        · subst e
          exact ⟨fun q => absurd q h, fun q => absurd q g⟩
        · rw [h2 q e]
      rw [pu_nb_eq h3]
      exact hk
theorem pu_cms_ok {pe R : Int → Int} {t : Int} (ht : 0 ≤ t ∧ t ≤ 9999) (hR : pu_Rw R) (hk : pu_Rk R) : ∀ n : Nat, n ≤ 10 → pu_Rw (pu_cms pe t R n) ∧ pu_Rk (pu_cms pe t R n) ∧ pu_cms pe t R n 0 = R 0
  | 0, _ => ⟨hR, hk, rfl⟩
  | n + 1, h => by
    obtain ⟨h1, h2, h3⟩ := pu_cms_ok (pe := pe) ht hR hk n (by omega)
    exact ⟨pu_cm_rw ⟨by omega, by omega⟩ ht h1, pu_cm_rk ⟨by omega, by omega⟩ h2, (pu_cm_0 (by omega) (by omega)).trans h3⟩
theorem pu_bgs_ok {r cr pe : Int → Int} {np t s h : Int} (hr : pu_Rr r) (hc : pu_Rc cr) (hnp : 0 ≤ np ∧ np ≤ 10) (hs : 0 ≤ s ∧ s ≤ 3) (hh : 1 ≤ h ∧ h ≤ 2) (ht : 0 ≤ t ∧ t ≤ 9999) : ∀ (n : Nat) (R : Int → Int), pu_Rw R → pu_Rk R → pu_Rw (pu_bgs r cr pe np t s h n R) ∧ pu_Rk (pu_bgs r cr pe np t s h n R) ∧ pu_bgs r cr pe np t s h n R 0 = R 0
  | 0, R, hR, hk => ⟨hR, hk, rfl⟩
  | n + 1, R, hR, hk => by
    unfold pu_bgs
    split
    · exact ⟨hR, hk, rfl⟩
    · rename_i hx
      rcases pu_nf_rg (cr := cr) (pe := pe) (R := R) (s := s) hnp with h | ⟨h0, h9, hn, hw⟩
      · exact absurd h hx
      · obtain ⟨k1, k2, k3⟩ := pu_bg_rk (r := r) (cr := cr) (t := t) hs hh ⟨h0, h9⟩ hw hR hk
        have k4 := pu_bg_rw (h := h) hr hc hR hs hh ⟨h0, h9⟩ ht k3
        have k5 : pu_bg r cr t s h (pu_nf np cr pe R s) R 0 = R 0 := by
          have := hR.2.2.2.1
          unfold pu_bg
          rw [nb_ud_other (by omega), nb_ud_other (by omega), nb_ud_other (by omega), nb_ud_other (by omega), nb_ud_other (by omega), nb_ud_other (by omega), nb_ud_other (by omega), nb_ud_other (by omega), nb_ud_other (by omega)]
        split
        · obtain ⟨j1, j2, j3⟩ := pu_bgs_ok hr hc hnp hs hh ht n _ k4 k1
          exact ⟨j1, j2, j3.trans k5⟩
        · exact ⟨k4, k1, k5⟩
theorem pu_sh_ok {r cr pe : Int → Int} {np t s : Int} (hr : pu_Rr r) (hc : pu_Rc cr) (hnp : 0 ≤ np ∧ np ≤ 10) (hs : 0 ≤ s ∧ s ≤ 3) (ht : 0 ≤ t ∧ t ≤ 9999) {R : Int → Int} (hR : pu_Rw R) (hk : pu_Rk R) : ∀ (n : Nat), n ≤ 2 → pu_Rw (pu_sh r cr pe np t s n R) ∧ pu_Rk (pu_sh r cr pe np t s n R) ∧ pu_sh r cr pe np t s n R 0 = R 0
  | 0, _ => ⟨hR, hk, rfl⟩
  | n + 1, h => by
    obtain ⟨h1, h2, h3⟩ := pu_sh_ok (pe := pe) hr hc hnp hs ht hR hk n (by omega)
    unfold pu_sh
    split
    · obtain ⟨j1, j2, j3⟩ := pu_bgs_ok (pe := pe) hr hc hnp hs (h := (n : Int) + 1) (by omega) ht 10 _ h1 h2
      exact ⟨j1, j2, j3.trans h3⟩
    · exact ⟨h1, h2, h3⟩
theorem pu_ss_ok {r cr pe : Int → Int} {np t : Int} (hr : pu_Rr r) (hc : pu_Rc cr) (hnp : 0 ≤ np ∧ np ≤ 10) (ht : 0 ≤ t ∧ t ≤ 9999) {R : Int → Int} (hR : pu_Rw R) (hk : pu_Rk R) : ∀ (n : Nat), n ≤ 4 → pu_Rw (pu_ss r cr pe np t n R) ∧ pu_Rk (pu_ss r cr pe np t n R) ∧ pu_ss r cr pe np t n R 0 = R 0
  | 0, _ => ⟨hR, hk, rfl⟩
  | n + 1, h => by
    obtain ⟨h1, h2, h3⟩ := pu_ss_ok (pe := pe) hr hc hnp ht hR hk n (by omega)
    have h4 := (hc n (by omega) (by omega)).2.2
    obtain ⟨j1, j2, j3⟩ := pu_sh_ok (pe := pe) hr hc hnp (s := n) (by omega) ht h1 h2 (cr (6 * n + 5)).toNat (by omega)
    exact ⟨j1, j2, j3.trans h3⟩
theorem pu_sec_ok {r cr pe : Int → Int} {ns : Int} (hr : pu_Rr r) (hc : pu_Rc cr) (hns : 0 ≤ ns ∧ ns ≤ 4) {R : Int → Int} (hR : pu_Rw R) (hk : pu_Rk R) (h9 : R 0 ≤ 9998) : pu_Rw (pu_sec r cr pe ns R) ∧ pu_Rk (pu_sec r cr pe ns R) ∧ pu_sec r cr pe ns R 0 = R 0 + 1 := by
  have ht := hR.2.2.1
  have hnp := hr.2.2.2.2.2.2.1
  obtain ⟨h1, h2, h3⟩ := pu_cms_ok (pe := pe) (t := R 0) (by omega) hR hk (r 5).toNat (by omega)
  obtain ⟨j1, j2, j3⟩ := pu_ss_ok (pe := pe) hr hc hnp (t := R 0) (by omega) h1 h2 ns.toNat (by omega)
  unfold pu_sec
  generalize pu_ss r cr pe (r 5) (R 0) ns.toNat (pu_cms pe (R 0) R (r 5).toNat) = T at *
  refine ⟨⟨fun q h0 h9 => ?_, fun q h0 h3 => ?_, ?_, ?_, fun k h0 hk => ?_⟩, ?_, nb_ud_same _ _ _⟩
  · have := j1.1 q h0 h9
    unfold nb_ud
    simpa only [if_neg (show ¬ 12 + 8 * q = 0 by omega), if_neg (show ¬ 12 + 8 * q + 1 = 0 by omega), if_neg (show ¬ 12 + 8 * q + 2 = 0 by omega), if_neg (show ¬ 12 + 8 * q + 3 = 0 by omega), if_neg (show ¬ 12 + 8 * q + 4 = 0 by omega), if_neg (show ¬ 12 + 8 * q + 5 = 0 by omega), if_neg (show ¬ 12 + 8 * q + 6 = 0 by omega), if_neg (show ¬ 12 + 8 * q + 7 = 0 by omega)] using this
  · have := j1.2.1 q h0 h3
    unfold nb_ud
    simpa only [if_neg (show ¬ 92 + 4 * q = 0 by omega), if_neg (show ¬ 92 + 4 * q + 1 = 0 by omega), if_neg (show ¬ 92 + 4 * q + 2 = 0 by omega), if_neg (show ¬ 92 + 4 * q + 3 = 0 by omega)] using this
  · rw [nb_ud_same]
    omega
  · rw [nb_ud_other (by omega)]
    exact j1.2.2.2.1
  · rw [nb_ud_other (by omega)] at hk ⊢
    exact j1.2.2.2.2 k h0 hk
  · unfold pu_Rk
    rw [nb_ud_other (by omega), pu_nb_eq (R := T) (fun q => by rw [nb_ud_other (by omega)])]
    exact j2
