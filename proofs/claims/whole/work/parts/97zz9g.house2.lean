/-- what the reference lays out behind a good reading -/
def pu_gd (N : nb_M) (r : Int → Int) : nb_M := nb_up (nb_up (nb_wr (nb_wr (nb_wr (nb_wr (nb_up N 606 r) 603 14 1) 603 21 0) 603 22 0) 603 25 (r 4)) 612 (pu_cpy r (N.1 612) 23 0 18)) 613 (pu_cpy r (N.1 613) 41 0 70)
theorem pu_gd_b {N : nb_M} {r : Int → Int} {a : Int} (h3 : a ≠ 603) (h6 : a ≠ 606) (h12 : a ≠ 612) (h13 : a ≠ 613) : (pu_gd N r).1 a = N.1 a := by
  unfold pu_gd
  rw [nb_up_other h13, nb_up_other h12, nb_wr_b h3, nb_wr_b h3, nb_wr_b h3, nb_wr_b h3, nb_up_other h6]
theorem pu_gd_603 {N : nb_M} {r : Int → Int} (i : Int) : (pu_gd N r).1 603 i = if i = 25 then r 4 else if i = 22 then 0 else if i = 21 then 0 else if i = 14 then 1 else N.1 603 i := by
  unfold pu_gd
  rw [nb_up_other (by decide), nb_up_other (by decide)]
  simp [nb_wr_1, nb_up_1]
theorem pu_gd_606 {N : nb_M} {r : Int → Int} : (pu_gd N r).1 606 = r := by
  unfold pu_gd
  rw [nb_up_other (by decide), nb_up_other (by decide), nb_wr_b (by decide), nb_wr_b (by decide), nb_wr_b (by decide), nb_wr_b (by decide), nb_up_same]
theorem pu_gd_612 {N : nb_M} {r : Int → Int} : (pu_gd N r).1 612 = pu_cpy r (N.1 612) 23 0 18 := by
  unfold pu_gd
  rw [nb_up_other (by decide), nb_up_same]
theorem pu_gd_613 {N : nb_M} {r : Int → Int} : (pu_gd N r).1 613 = pu_cpy r (N.1 613) 41 0 70 := by
  unfold pu_gd
  rw [nb_up_same]
theorem pu_gd_lay {N : nb_M} {r : Int → Int} (W : nb_Lay N) : nb_Lay (pu_gd N r) := ((((((W.up (fun i w => nb_nnum (by decide) (by decide))).wr (fun w => nb_nlit (by decide) (by decide))).wr (fun w => nb_nlit (by decide) (by decide))).wr (fun w => nb_nlit (by decide) (by decide))).wr (fun w => nb_nlit (by decide) (by decide))).up (fun i w => nb_nnum (by decide) (by decide))).up (fun i w => nb_nnum (by decide) (by decide))
/-- the invariant behind a house read -/
theorem pu_I_good {M Ma M1 N1 T : nb_M} {k Ho So : Int} {r R : Int → Int} (hI : pu_I M k) (k0 : 0 ≤ k) (hs : (Ho = 4 ∧ So = 40) ∨ (Ho = 40 ∧ So = 4)) (fa : ∀ a, a ≠ 2 → (a < 76 ∨ 84 ≤ a) → (a < So ∨ So + 36 ≤ a) → Ma.1 a = M.1 a) (fg : ∀ a i, So + 20 ≤ a → a < So + 30 → 8 ≤ i → Ma.1 a i = M.1 a i) (hHR : pu_HR Ma So r) (hr0 : r 0 ≠ 0 ∧ r 3 ≠ 0 ∧ r 4 ≠ 0 ∧ r 5 ≠ 0) (g1 : ∀ a, a ≠ 2 → (a < 84 ∨ 106 ≤ a) → M1.1 a = Ma.1 a) (g2 : M1.1 2 1 = 0 ∧ M1.1 2 2 = So ∧ M1.1 2 3 = Ho ∧ M1.1 2 9 = 0 ∧ M1.1 2 11 = 0 ∧ M1.1 2 15 = 0 ∧ M1.1 2 16 = 0 ∧ M1.1 2 8 = M.1 2 8) (hSn : pu_T r → pu_Ho Ma So r → (∀ j, 0 ≤ j → j < 108 → R j = pu_lf (r 5) (r 4) (pu_cr0 r) (pu_pe0 r) j) → pu_Sn M1 84 So r R (k + 1)) (hN : nb_Lay N1 ∧ (∀ a, a ≠ 603 → a ≠ 605 → a ≠ 607 → N1.1 a = M1.1 a) ∧ ∀ i, (i < 3 ∨ i = 11 ∨ i = 12 ∨ 13 < i) → N1.1 603 i = (pu_h5 M1).1 603 i) (n9 : N1.1 603 9 = 0) (eT : T = nb_up (pu_gd N1 r) 608 R) (eR : R = pu_cpy (pu_lf (r 5) (r 4) (pu_cpy r (N1.1 612) 23 0 18) (pu_cpy r (N1.1 613) 41 0 70)) (N1.1 608) 0 0 108) (hL : nb_Lay T) : pu_I T (k + 1) := by
  obtain ⟨-, ⟨t1, t2, t3, t4, t5⟩, -, ⟨Ho', So', -, ⟨-, -, u3, -⟩, -⟩, -, i7⟩ := hI
  obtain ⟨n1, n3, n4⟩ := hN
  have gk : ∀ a, So + 20 ≤ a → a < So + 30 → pu_gk (Ma.1 a) := fun a a0 a1 => (t5 a (by omega)).of (fun i hi => fg a i a0 a1 hi)
  obtain ⟨hT, hH⟩ := hHR.told hr0.1 hr0.2.1 hr0.2.2.1 hr0.2.2.2 gk
  have n5 := hT.1.2.2.2.2.2.2.1
  have n4' := hT.1.2.2.2.2.2.1
  have hRf : ∀ j, 0 ≤ j → j < 108 → R j = pu_lf (r 5) (r 4) (pu_cr0 r) (pu_pe0 r) j := fun j a b => by
    rw [eR, pu_cpy_in j a b]
    refine pu_lf_congr n5.2 n4'.2 (fun i x y => ?_) (fun i x y => ?_)
    · unfold pu_cpy pu_cr0
      rw [if_pos (by omega), if_pos y, show i - 0 + 23 = 23 + i by omega]
    · unfold pu_cpy pu_pe0
      rw [if_pos (by omega), show i - 0 + 41 = 41 + i by omega]
  have hS := hSn hT hH hRf
  have bT : ∀ a, a ≠ 603 → a ≠ 605 → a ≠ 606 → a ≠ 607 → a ≠ 608 → a ≠ 612 → a ≠ 613 → T.1 a = M1.1 a := fun a h3 h5 h6 h7 h8 h12 h13 => by
    rw [eT, nb_up_other h8, pu_gd_b h3 h6 h12 h13]
    exact n3 a h3 h5 h7
  have bM : ∀ a, a ≠ 2 → a ≠ 603 → a ≠ 605 → a ≠ 606 → a ≠ 607 → a ≠ 608 → a ≠ 612 → a ≠ 613 → (a < 76 ∨ 106 ≤ a) → (a < So ∨ So + 36 ≤ a) → T.1 a = M.1 a := fun a h2 h3 h5 h6 h7 h8 h12 h13 hr hs => by
    rw [bT a h3 h5 h6 h7 h8 h12 h13, g1 a h2 (by omega)]
    exact fa a h2 (by omega) hs
  have T603 : ∀ i, T.1 603 i = if i = 25 then r 4 else if i = 22 then 0 else if i = 21 then 0 else if i = 14 then 1 else N1.1 603 i := fun i => by
    rw [eT, nb_up_other (by decide)]
    exact pu_gd_603 i
  have T606 : T.1 606 = r := by
    rw [eT, nb_up_other (by decide)]
    exact pu_gd_606
  have T608 : T.1 608 = R := by rw [eT, nb_up_same]
  have f2 : T.1 603 2 = 0 := by
    rw [T603, if_neg (by decide), if_neg (by decide), if_neg (by decide), if_neg (by decide), n4 2 (by decide), pu_h5_603]
    rfl
  have f11 : T.1 603 11 = 0 := by
    rw [T603, if_neg (by decide), if_neg (by decide), if_neg (by decide), if_neg (by decide), n4 11 (by decide), pu_h5_603]
    rfl
  have f9 : T.1 603 9 = 0 := by
    rw [T603, if_neg (by decide), if_neg (by decide), if_neg (by decide), if_neg (by decide)]
    exact n9
  have f21 : T.1 603 21 = 0 := T603 21
  have f22 : T.1 603 22 = 0 := T603 22
  have f14 : T.1 603 14 = 1 := T603 14
  have b2 := bT 2 (by decide) (by decide) (by decide) (by decide) (by decide) (by decide) (by decide)
  have T612 : T.1 612 19 = M.1 612 19 ∧ T.1 612 22 = M.1 612 22 ∧ T.1 612 23 = M.1 612 23 := by
    have e : N1.1 612 = M.1 612 := by
      rw [n3 612 (by decide) (by decide) (by decide), g1 612 (by decide) (by omega)]
      exact fa 612 (by decide) (by omega) (by omega)
    have q := pu_cpy12 (f := r) (g := N1.1 612)
    rw [eT, nb_up_other (by decide), pu_gd_612, q.1, q.2.1, q.2.2, e]
    exact ⟨rfl, rfl, rfl⟩
  have hr5 := hr0.2.2.2
  obtain ⟨q1, q2, q3, q9, q11, q15, q16, q8⟩ := g2
  refine ⟨hL, ⟨by omega, by rw [b2, q1, f2], fun i a b => absurd b (by omega), fun i a b => ?_, fun a ha => ?_⟩, ⟨by rw [T606]; exact hT, by rw [T606, f14, if_neg hr5], fun z => absurd (by rw [T606] at z; exact z) hr5⟩, ⟨So, Ho, ⟨by omega, by rw [b2]; exact q2, by rw [b2]; exact q3, ?_, ?_⟩, ⟨by omega, by rw [b2, q9, f21], by rw [b2, q8]; exact u3, fun j a b => absurd b (by omega)⟩, ⟨by omega, by rw [b2, q11, f22], fun j a b => absurd b (by omega)⟩⟩, ⟨by rw [b2, q15, f11], by rw [b2, q16, f9], fun z => absurd (f11.symm.trans z) (by decide)⟩, ?_⟩
  · rw [bM 141 (by decide) (by decide) (by decide) (by decide) (by decide) (by decide) (by decide) (by decide) (by omega) (by omega)]; exact t4 i a b
  · by_cases c : So + 20 ≤ a ∧ a < So + 30
    · rw [bT a (by omega) (by omega) (by omega) (by omega) (by omega) (by omega) (by omega), g1 a (by omega) (by omega)]
      exact gk a c.1 c.2
    · rw [bM a (by omega) (by omega) (by omega) (by omega) (by omega) (by omega) (by omega) (by omega) (by omega) (by omega)]; exact t5 a ha
  · rw [T606]
    exact pu_Ho_congr hH hT.1 (fun a i p q => by rw [bT a (by omega) (by omega) (by omega) (by omega) (by omega) (by omega) (by omega), g1 a (by omega) (by omega)])
  · rw [T606, T608]
    exact pu_Sn_mono hT.1 hS.2.2.1.1.2.2.2.1.2 (by omega) (fun a p q => bT a (by omega) (by omega) (by omega) (by omega) (by omega) (by omega) (by omega)) hS
  · unfold pu_I7 at i7 ⊢
    rw [T612.1, T612.2.1, T612.2.2]
    exact i7
