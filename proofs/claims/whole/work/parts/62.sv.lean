/-! BY TURNS AND BY HANDS: the same -/
theorem pu_bgs_fuel {r cr pe : Int → Int} {np ns t s h : Int} (hr : pu_Rr r) (hc : pu_Rc cr) (hnp : 0 ≤ np ∧ np ≤ 10) (hns : ns ≤ 4) (ht : 0 ≤ t ∧ t ≤ 9999) (hs : 0 ≤ s ∧ s < ns) (hh : 1 ≤ h ∧ h ≤ 2) : ∀ (n m : Nat) (R : Int → Int), pu_In pe R np ns t → pu_nw R np.toNat ≤ n → pu_nw R np.toNat ≤ m → pu_bgs r cr pe np t s h n R = pu_bgs r cr pe np t s h m R
  | 0, 0, R, _, _, _ => rfl
  | 0, m + 1, R, _, h1, _ => by
    rw [pu_bgs, pu_bgs, if_pos (pu_nf_none hnp.1 (by omega))]
  | n + 1, 0, R, _, _, h2 => by
    rw [pu_bgs, pu_bgs, if_pos (pu_nf_none hnp.1 (by omega))]
  | n + 1, m + 1, R, hI, h1, h2 => by
    rw [pu_bgs, pu_bgs]
    split
    · rfl
    · rename_i hx
      rcases pu_nf_rg2 (cr := cr) (pe := pe) (R := R) (s := s) hnp.1 with h3 | ⟨h3, h4, h5⟩
      · exact absurd h3 hx
      · obtain ⟨b1, b2⟩ := pu_In_bg (r := r) (h := h) hr hc hnp hns ht hI hs hh ⟨h3, h4⟩ h5
        have b3 := pu_nw_bg2 b1
        split
        · exact pu_bgs_fuel hr hc hnp hns ht hs hh n m _ b2 (by omega) (by omega)
        · rfl
theorem pu_sh_1 {r cr pe R : Int → Int} {np t s : Int} : pu_sh r cr pe np t s 1 R = if R (92 + 4 * s + 1) ≤ t then pu_bgs r cr pe np t s 1 10 R else R := rfl
theorem pu_sh_2 {r cr pe R : Int → Int} {np t s : Int} : pu_sh r cr pe np t s 2 R = if pu_sh r cr pe np t s 1 R (92 + 4 * s + 2) ≤ t then pu_bgs r cr pe np t s 2 10 (pu_sh r cr pe np t s 1 R) else pu_sh r cr pe np t s 1 R := rfl
theorem pu_bgs_stop {r cr pe R : Int → Int} {np t s h : Int} (hx : pu_nf np cr pe R s = -2) : pu_bgs r cr pe np t s h 10 R = R := by
  rw [pu_bgs, if_pos hx]
theorem pu_sh_stop {r cr pe R : Int → Int} {np t s : Int} (hc : 0 ≤ cr (6 * s + 5) ∧ cr (6 * s + 5) ≤ 2) (hx : pu_fh cr R t s = 0 ∨ pu_nf np cr pe R s = -2) : pu_sh r cr pe np t s (cr (6 * s + 5)).toNat R = R := by
  have hH : cr (6 * s + 5) = 0 ∨ cr (6 * s + 5) = 1 ∨ cr (6 * s + 5) = 2 := by omega
  by_cases hn : pu_nf np cr pe R s = -2
  · have e1 : pu_sh r cr pe np t s 1 R = R := by
      rw [pu_sh_1, pu_bgs_stop hn]
      split <;> rfl
    rcases hH with h | h | h
    · rw [h]
      rfl
    · rw [h]
      exact e1
    · rw [h]
      show pu_sh r cr pe np t s 2 R = R
      rw [pu_sh_2, e1, pu_bgs_stop hn]
      split <;> rfl
  · have hf := hx.resolve_right hn
    unfold pu_fh at hf
    rcases hH with h | h | h
    · rw [h]
      rfl
    · rw [h]
      show pu_sh r cr pe np t s 1 R = R
      rw [pu_sh_1, if_neg]
      intro q
      rw [if_pos ⟨by omega, q⟩] at hf
      exact absurd hf (by decide)
    · have n1 : ¬ R (92 + 4 * s + 1) ≤ t := fun q => by
        rw [if_pos ⟨by omega, q⟩] at hf
        exact absurd hf (by decide)
      have n2 : ¬ R (92 + 4 * s + 2) ≤ t := fun q => by
        rw [if_neg (fun z => n1 z.2), if_pos ⟨by omega, q⟩] at hf
        exact absurd hf (by decide)
      have e1 : pu_sh r cr pe np t s 1 R = R := by rw [pu_sh_1, if_neg n1]
      rw [h]
      show pu_sh r cr pe np t s 2 R = R
      rw [pu_sh_2, e1, if_neg n2]
theorem pu_sh_step {r cr pe R : Int → Int} {np ns t s : Int} (hr : pu_Rr r) (hc : pu_Rc cr) (hnp : 0 ≤ np ∧ np ≤ 10) (hns : ns ≤ 4) (ht : 0 ≤ t ∧ t ≤ 9999) (hs : 0 ≤ s ∧ s < ns) (hI : pu_In pe R np ns t) (hf : pu_fh cr R t s ≠ 0) (hn : pu_nf np cr pe R s ≠ -2) : pu_sh r cr pe np t s (cr (6 * s + 5)).toNat R = pu_sh r cr pe np t s (cr (6 * s + 5)).toNat (pu_bg r cr t s (pu_fh cr R t s) (pu_nf np cr pe R s) R) := by
  have hcc := (hc s hs.1 (by omega)).2.2
  have hH : cr (6 * s + 5) = 0 ∨ cr (6 * s + 5) = 1 ∨ cr (6 * s + 5) = 2 := by omega
  rcases pu_nf_rg2 (cr := cr) (pe := pe) (R := R) (s := s) hnp.1 with h3 | ⟨h3, h4, h5⟩
  · exact absurd h3 hn
  have hfr := pu_fh_rg (cr := cr) (R := R) (t := t) (s := s)
  obtain ⟨b1, b2⟩ := pu_In_bg (r := r) (h := pu_fh cr R t s) hr hc hnp hns ht hI hs (by omega) ⟨h3, h4⟩ h5
  have b3 := pu_nw_bg2 b1
  have b4 := pu_nw_le (R := R) np.toNat
  have b5 := pu_nw_le (R := pu_bg r cr t s (pu_fh cr R t s) (pu_nf np cr pe R s) R) np.toNat
  obtain ⟨c1, c2⟩ := pu_bg_crew (r := r) (cr := cr) (R := R) (t := t) (s := s) (h := pu_fh cr R t s) (u := pu_nf np cr pe R s) (by omega) (by omega) (by omega) b1.2.2.2.2.1
  have hfu : ∀ h : Int, 1 ≤ h ∧ h ≤ 2 → pu_bgs r cr pe np t s h 9 (pu_bg r cr t s (pu_fh cr R t s) (pu_nf np cr pe R s) R) = pu_bgs r cr pe np t s h 10 (pu_bg r cr t s (pu_fh cr R t s) (pu_nf np cr pe R s) R) := fun h hh => pu_bgs_fuel hr hc hnp hns ht hs hh 9 10 _ b2 (by omega) (by omega)
  rcases hfr with h | h | h
  · exact absurd h hf
  · have hR1 : R (92 + 4 * s + 1) ≤ t ∧ 0 < cr (6 * s + 5) := by
      unfold pu_fh at h
      split at h
      · rename_i z
        exact ⟨z.2, z.1⟩
      · split at h <;> omega
    rw [h] at c1 b2 hfu ⊢
    have e1 : pu_sh r cr pe np t s 1 R = pu_sh r cr pe np t s 1 (pu_bg r cr t s 1 (pu_nf np cr pe R s) R) := by
      rw [pu_sh_1, pu_sh_1, if_pos hR1.1, c1.2.1, pu_bgs, if_neg hn, hfu 1 (by decide)]
    rcases hH with h | h | h
    · omega
    · rw [h]
      exact e1
    · rw [h]
      show pu_sh r cr pe np t s 2 R = pu_sh r cr pe np t s 2 _
      rw [pu_sh_2, pu_sh_2, e1]
  · have hR1 : ¬ R (92 + 4 * s + 1) ≤ t ∧ R (92 + 4 * s + 2) ≤ t ∧ cr (6 * s + 5) = 2 := by
      unfold pu_fh at h
      split at h
      · exact absurd h (by decide)
      · rename_i z
        split at h
        · rename_i z2
          exact ⟨fun q => z ⟨by omega, q⟩, z2.2, by omega⟩
        · exact absurd h (by decide)
    rw [h] at c1 b2 hfu ⊢
    have e1 : pu_sh r cr pe np t s 1 R = R := by rw [pu_sh_1, if_neg hR1.1]
    have e2 : pu_sh r cr pe np t s 1 (pu_bg r cr t s 2 (pu_nf np cr pe R s) R) = pu_bg r cr t s 2 (pu_nf np cr pe R s) R := by
      rw [pu_sh_1, if_neg]
      have := c1.2.2.1
      rw [show (3 : Int) - 2 = 1 by decide] at this
      rw [this]
      exact hR1.1
    rw [hR1.2.2]
    show pu_sh r cr pe np t s 2 R = pu_sh r cr pe np t s 2 _
    rw [pu_sh_2, pu_sh_2, e1, e2, if_pos hR1.2.1, c1.2.1, pu_bgs, if_neg hn, hfu 2 (by decide)]
theorem pu_sv_sh {r cr pe : Int → Int} {np ns t s : Int} (hr : pu_Rr r) (hc : pu_Rc cr) (hnp : 0 ≤ np ∧ np ≤ 10) (hns : ns ≤ 4) (ht : 0 ≤ t ∧ t ≤ 9999) (hs : 0 ≤ s ∧ s < ns) : ∀ (n : Nat) (R : Int → Int), pu_In pe R np ns t → pu_nw R np.toNat ≤ n → pu_sv r cr pe np t s n R = pu_sh r cr pe np t s (cr (6 * s + 5)).toNat R
  | 0, R, hI, h => (pu_sh_stop (hc s hs.1 (by omega)).2.2 (Or.inr (pu_nf_none hnp.1 h))).symm
  | n + 1, R, hI, h => by
    by_cases hx : pu_fh cr R t s = 0 ∨ pu_nf np cr pe R s = -2
    · rw [pu_sv, if_pos hx, pu_sh_stop (hc s hs.1 (by omega)).2.2 hx]
    · have hn : pu_nf np cr pe R s ≠ -2 := fun q => hx (Or.inr q)
      have hf : pu_fh cr R t s ≠ 0 := fun q => hx (Or.inl q)
      have hfr := pu_fh_rg (cr := cr) (R := R) (t := t) (s := s)
      rcases pu_nf_rg2 (cr := cr) (pe := pe) (R := R) (s := s) hnp.1 with h3 | ⟨h3, h4, h5⟩
      · exact absurd h3 hn
      obtain ⟨b1, b2⟩ := pu_In_bg (r := r) (h := pu_fh cr R t s) hr hc hnp hns ht hI hs (by omega) ⟨h3, h4⟩ h5
      have b3 := pu_nw_bg2 b1
      rw [pu_sv, if_neg hx, pu_sh_step hr hc hnp hns ht hs hI hf hn]
      exact pu_sv_sh hr hc hnp hns ht hs n _ b2 (by omega)
