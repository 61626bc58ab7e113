/-! WHAT IS TOLD BY ONE MORE LINE -/
theorem pu_HR.house {M M' : nb_M} {So : Int} {g g' : Int → Int} (h : pu_HR M So g) (h0 : g 0 = 0) (hM : ∀ a, So < a → a < So + 36 → M'.1 a = M.1 a) (hM0 : ∀ i, 11 ≤ i → M'.1 So i = M.1 So i) (hg : ∀ j, 3 ≤ j → j < 185 → g' j = g j) (e0 : g' 0 = 1) (r1 : 1 ≤ g' 1 ∧ g' 1 ≤ 20) (r2 : 1 ≤ g' 2 ∧ g' 2 ≤ 600) (m9 : M'.1 So 9 = g' 1) (m10 : M'.1 So 10 = g' 2) : pu_HR M' So g' := by
  obtain ⟨-, h1, h2, h3, h4, h5, h6⟩ := h
  have z := h1.2.2.2.2.2.2.2.2.2 h0
  refine ⟨Or.inr ⟨e0, r1, r2, m9, m10⟩, ?_, fun k a b => ?_, fun k a b => ?_, fun k a b => ?_, fun k a b => ?_, ?_⟩
  · simp (disch := omega) only [pu_H1, hg, hM0] at h1 ⊢
    exact ⟨h1.1, h1.2.1, h1.2.2.1, h1.2.2.2.1, h1.2.2.2.2.1, h1.2.2.2.2.2.1, h1.2.2.2.2.2.2.1, h1.2.2.2.2.2.2.2.1, h1.2.2.2.2.2.2.2.2.1, fun q => absurd q (by omega)⟩
  · have h := h2 k a b
    simp (disch := omega) only [pu_HD, hg, hM] at h ⊢
    exact h
  · have h := h3 k a b
    simp (disch := omega) only [pu_HV, hg, hM] at h ⊢
    exact h
  · have h := h4 k a b
    simp (disch := omega) only [pu_HG, pu_sf, hg, hM] at h ⊢
    refine ⟨fun q => absurd q (by omega), h.2.1, h.2.2.1, fun j x y => ?_, h.2.2.2.2⟩
    rw [hg _ (by omega) (by omega)]
    exact h.2.2.2.1 j x y
  · have h := h5 k a b
    simp (disch := omega) only [pu_HT, hg, hM] at h ⊢
    exact h
  · rw [hg 6 (by decide) (by decide), h6]
    exact (pu_shc_congr 10 (fun k hk => hg _ (by omega) (by omega))).symm
theorem pu_HR.drink {M M' : nb_M} {So x y z : Int} {g g' : Int → Int} (h : pu_HR M So g) (h0 : g 0 = 1) (hd : g 3 < 5) (hM : ∀ a, So + 3 < a → a < So + 36 → M'.1 a = M.1 a) (hM0 : ∀ i, i ≠ 11 → M'.1 So i = M.1 So i) (hM1 : ∀ k, k ≠ g 3 → M'.1 (So + 1) k = M.1 (So + 1) k ∧ M'.1 (So + 2) k = M.1 (So + 2) k ∧ M'.1 (So + 3) k = M.1 (So + 3) k) (hg : ∀ j, 0 ≤ j → j < 185 → j ≠ 3 → (j < 8 + 3 * g 3 ∨ 8 + 3 * g 3 + 3 ≤ j) → g' j = g j) (g3 : g' 3 = g 3 + 1) (m11 : M'.1 So 11 = g 3 + 1) (v : M'.1 (So + 1) (g 3) = x ∧ M'.1 (So + 2) (g 3) = y ∧ M'.1 (So + 3) (g 3) = z) (w : g' (8 + 3 * g 3) = x ∧ g' (8 + 3 * g 3 + 1) = y ∧ g' (8 + 3 * g 3 + 2) = z) (r : (0 ≤ x ∧ x ≤ 90) ∧ (0 ≤ y ∧ y ≤ x) ∧ (0 ≤ z ∧ z ≤ 99)) : pu_HR M' So g' := by
  obtain ⟨hh, h1, h2, h3, h4, h5, h6⟩ := h
  have c3 := h1.2.2.2.2.2.1
  refine ⟨?_, ?_, fun k a b => ?_, fun k a b => ?_, fun k a b => ?_, fun k a b => ?_, ?_⟩
  · simp (disch := omega) only [pu_H0, hg, hM0] at hh ⊢
    exact hh
  · simp (disch := omega) only [pu_H1, hg, hM0] at h1 ⊢
    rw [g3, m11]
    exact ⟨rfl, h1.2.1, h1.2.2.1, h1.2.2.2.1, h1.2.2.2.2.1, by omega, h1.2.2.2.2.2.2.1, h1.2.2.2.2.2.2.2.1, h1.2.2.2.2.2.2.2.2.1, fun q => absurd q (by omega)⟩
  · by_cases c : k = g 3
    · subst c
      unfold pu_HD
      rw [w.1, w.2.1, w.2.2]
      exact ⟨fun _ => v, by omega, by omega, by omega, by omega⟩
    · have h := h2 k a b
      obtain ⟨n1, n2, n3⟩ := hM1 k c
      simp (disch := omega) only [pu_HD, hg, n1, n2, n3] at h ⊢
      exact ⟨fun q => h.1 (by omega), h.2⟩
  · have h := h3 k a b
    simp (disch := omega) only [pu_HV, hg, hM] at h ⊢
    exact h
  · have h := h4 k a b
    simp (disch := omega) only [pu_HG, pu_sf, hg, hM] at h ⊢
    refine ⟨h.1, h.2.1, h.2.2.1, fun j x y => ?_, h.2.2.2.2⟩
    rw [hg _ (by omega) (by omega) (by omega) (by omega)]
    have q := h.2.2.2.1 j x y
    exact ⟨q.1, q.2.1, fun t => q.2.2 (by omega)⟩
  · have h := h5 k a b
    simp (disch := omega) only [pu_HT, hg, hM] at h ⊢
    exact h
  · rw [hg 6 (by decide) (by decide) (by decide) (by omega), h6]
    exact (pu_shc_congr 10 (fun k hk => hg _ (by omega) (by omega) (by omega) (by omega))).symm
theorem pu_HR.staff {M M' : nb_M} {So r0 r1 r2 r3 r4 r5 : Int} {g g' : Int → Int} (h : pu_HR M So g) (h0 : g 0 = 1) (hd : g 4 < 3) (hM : ∀ a, So < a → a < So + 36 → a ≠ So + 30 + 2 * g 4 → a ≠ So + 30 + 2 * g 4 + 1 → M'.1 a = M.1 a) (hM0 : ∀ i, i ≠ 12 → M'.1 So i = M.1 So i) (hg : ∀ j, 0 ≤ j → j < 185 → j ≠ 4 → (j < 23 + 6 * g 4 ∨ 23 + 6 * g 4 + 6 ≤ j) → g' j = g j) (g4 : g' 4 = g 4 + 1) (m12 : M'.1 So 12 = g 4 + 1) (v : M'.1 (So + 30 + 2 * g 4) 1 = r0 ∧ M'.1 (So + 30 + 2 * g 4) 2 = r1 ∧ M'.1 (So + 30 + 2 * g 4) 3 = r2 ∧ M'.1 (So + 30 + 2 * g 4) 4 = r3 ∧ M'.1 (So + 30 + 2 * g 4) 5 = r4 ∧ M'.1 (So + 30 + 2 * g 4) 6 = r5 ∧ M'.1 (So + 30 + 2 * g 4) 7 = -1 ∧ M'.1 (So + 30 + 2 * g 4 + 1) 0 = 0 ∧ M'.1 (So + 30 + 2 * g 4 + 1) 1 = 0) (w : g' (23 + 6 * g 4) = r0 ∧ g' (23 + 6 * g 4 + 1) = r1 ∧ g' (23 + 6 * g 4 + 2) = r2 ∧ g' (23 + 6 * g 4 + 3) = r3 ∧ g' (23 + 6 * g 4 + 4) = r4 ∧ g' (23 + 6 * g 4 + 5) = r5) (r : (0 ≤ r0 ∧ r0 ≤ 4) ∧ (0 ≤ r1 ∧ r1 ≤ 19) ∧ (0 ≤ r2 ∧ r2 ≤ 19) ∧ (0 ≤ r3 ∧ r3 ≤ 19) ∧ (0 ≤ r4 ∧ r4 ≤ 9) ∧ (1 ≤ r5 ∧ r5 ≤ 2)) : pu_HR M' So g' := by
  obtain ⟨hh, h1, h2, h3, h4, h5, h6⟩ := h
  have c4 := h1.2.2.2.2.2.2.1
  refine ⟨?_, ?_, fun k a b => ?_, fun k a b => ?_, fun k a b => ?_, fun k a b => ?_, ?_⟩
  · simp (disch := omega) only [pu_H0, hg, hM0] at hh ⊢
    exact hh
  · simp (disch := omega) only [pu_H1, hg, hM0] at h1 ⊢
    rw [g4, m12]
    exact ⟨h1.1, rfl, h1.2.2.1, h1.2.2.2.1, h1.2.2.2.2.1, h1.2.2.2.2.2.1, by omega, h1.2.2.2.2.2.2.2.1, h1.2.2.2.2.2.2.2.2.1, fun q => absurd q (by omega)⟩
  · have h := h2 k a b
    simp (disch := omega) only [pu_HD, hg, hM] at h ⊢
    exact h
  · by_cases c : k = g 4
    · subst c
      unfold pu_HV
      obtain ⟨w0, w1, w2, w3, w4, w5⟩ := w
      rw [w0, w1, w2, w3, w4, w5]
      exact ⟨fun _ => ⟨v, by omega⟩, by omega, by omega, by omega, by omega, by omega, by omega⟩
    · have h := h3 k a b
      simp (disch := omega) only [pu_HV, hg, hM] at h ⊢
      exact ⟨fun q => h.1 (by omega), h.2⟩
  · have h := h4 k a b
    simp (disch := omega) only [pu_HG, pu_sf, hg, hM] at h ⊢
    refine ⟨h.1, h.2.1, h.2.2.1, fun j x y => ?_, h.2.2.2.2⟩
    rw [hg _ (by omega) (by omega) (by omega) (by omega)]
    exact h.2.2.2.1 j x y
  · have h := h5 k a b
    simp (disch := omega) only [pu_HT, hg, hM] at h ⊢
    exact h
  · rw [hg 6 (by decide) (by decide) (by decide) (by omega), h6]
    exact (pu_shc_congr 10 (fun k hk => hg _ (by omega) (by omega) (by omega) (by omega))).symm
theorem pu_HR.person {M M' : nb_M} {So r0 r1 r2 r3 r4 r5 : Int} {g g' : Int → Int} (h : pu_HR M So g) (h0 : g 0 = 1) (hd : g 5 < 10) (hM : ∀ a, So < a → a < So + 36 → a ≠ So + 20 + g 5 → a ≠ So + 5 + g 5 → M'.1 a = M.1 a) (hM0 : ∀ i, i ≠ 13 → M'.1 So i = M.1 So i) (hg : ∀ j, 0 ≤ j → j < 185 → j ≠ 5 → (j < 41 + 7 * g 5 ∨ 41 + 7 * g 5 + 7 ≤ j) → (j < 111 + 5 * g 5 ∨ 111 + 5 * g 5 + 5 ≤ j) → g' j = g j) (g5 : g' 5 = g 5 + 1) (m13 : M'.1 So 13 = g 5 + 1) (v : M'.1 (So + 20 + g 5) 0 = r0 ∧ M'.1 (So + 20 + g 5) 1 = r1 ∧ M'.1 (So + 20 + g 5) 2 = r2 ∧ M'.1 (So + 20 + g 5) 3 = r3 ∧ M'.1 (So + 20 + g 5) 4 = r4 ∧ M'.1 (So + 20 + g 5) 5 = r5 ∧ M'.1 (So + 20 + g 5) 6 = -2 ∧ M'.1 (So + 20 + g 5) 7 = if r0 = 1 then r2 - r1 else if r0 = 2 then r2 + r1 else r2) (w : g' (41 + 7 * g 5) = r0 ∧ g' (41 + 7 * g 5 + 1) = r1 ∧ g' (41 + 7 * g 5 + 2) = r2 ∧ g' (41 + 7 * g 5 + 3) = r3 ∧ g' (41 + 7 * g 5 + 4) = r4 ∧ g' (41 + 7 * g 5 + 5) = r5 ∧ g' (41 + 7 * g 5 + 6) = 0) (gl : ∀ j, 0 ≤ j → j < 5 → M'.1 (So + 5 + g 5) j = g' (111 + 5 * g 5 + j) ∧ (0 ≤ g' (111 + 5 * g 5 + j) ∧ g' (111 + 5 * g 5 + j) ≤ 9) ∧ (g 3 ≤ j → g' (111 + 5 * g 5 + j) = 0)) (r : (0 ≤ r0 ∧ r0 ≤ 3) ∧ (0 ≤ r1 ∧ r1 ≤ 99) ∧ (0 ≤ r2 ∧ r2 ≤ g 2) ∧ (0 ≤ r3 ∧ r3 ≤ 19) ∧ (0 ≤ r4 ∧ r4 ≤ 600) ∧ (0 ≤ r5 ∧ r5 ≤ 99)) : pu_HR M' So g' := by
  obtain ⟨hh, h1, h2, h3, h4, h5, h6⟩ := h
  have c5 := h1.2.2.2.2.2.2.2.1
  have e2 : g 2 ≤ 600 := by
    rcases hh with q | q <;> omega
  have e3 : g' 3 = g 3 := hg 3 (by decide) (by decide) (by decide) (by omega) (by omega)
  have eg2 : g' 2 = g 2 := hg 2 (by decide) (by decide) (by decide) (by omega) (by omega)
  refine ⟨?_, ?_, fun k a b => ?_, fun k a b => ?_, fun k a b => ?_, fun k a b => ?_, ?_⟩
  · simp (disch := omega) only [pu_H0, hg, hM0] at hh ⊢
    exact hh
  · simp (disch := omega) only [pu_H1, hg, hM0] at h1 ⊢
    rw [g5, m13]
    exact ⟨h1.1, h1.2.1, rfl, h1.2.2.2.1, h1.2.2.2.2.1, h1.2.2.2.2.2.1, h1.2.2.2.2.2.2.1, by omega, h1.2.2.2.2.2.2.2.2.1, fun q => absurd q (by omega)⟩
  · have h := h2 k a b
    simp (disch := omega) only [pu_HD, hg, hM] at h ⊢
    exact h
  · have h := h3 k a b
    simp (disch := omega) only [pu_HV, hg, hM] at h ⊢
    exact h
  · by_cases c : k = g 5
    · subst c
      obtain ⟨w0, w1, w2, w3, w4, w5, w6⟩ := w
      obtain ⟨v0, v1, v2, v3, v4, v5, v6, v7⟩ := v
      unfold pu_HG pu_sf
      rw [w0, w1, w2, w3, w4, w5, w6, eg2, e3, g5]
      refine ⟨fun _ => ⟨⟨v0, v1, v2, v3, v4, v5, v7⟩, by omega⟩, v6, fun z => absurd z (by omega), fun j x y => ?_, by omega, by omega, by omega, by omega, by omega, by omega, by omega⟩
      have q := gl j x y
      exact ⟨q.1, q.2.1, fun t => q.2.2 (by omega)⟩
    · have h := h4 k a b
      simp (disch := omega) only [pu_HG, pu_sf, hg, hM] at h ⊢
      refine ⟨fun q => h.1 (by omega), h.2.1, fun q => h.2.2.1 (by omega), fun j x y => ?_, h.2.2.2.2⟩
      rw [hg _ (by omega) (by omega) (by omega) (by omega) (by omega)]
      have q := h.2.2.2.1 j x y
      exact ⟨q.1, q.2.1, fun t => q.2.2 (by omega)⟩
  · have h := h5 k a b
    simp (disch := omega) only [pu_HT, hg, hM] at h ⊢
    exact ⟨fun q => ⟨(h.1 q).1, by have := h.1 q; omega, by have := h.1 q; omega, by have := h.1 q; omega⟩, h.2⟩
  · rw [hg 6 (by decide) (by decide) (by decide) (by omega) (by omega), h6]
    refine (pu_shc_congr 10 (fun k hk => ?_)).symm
    by_cases c : (k : Int) = g 5
    · rw [c, w.2.2.2.2.2.2]
      exact ((h4 (g 5) (by omega) (by omega)).2.2.1 (Int.le_refl _)).symm
    · exact hg _ (by omega) (by omega) (by omega) (by omega) (by omega)
theorem pu_HR.shelf {M M' : nb_M} {So q v : Int} {g g' : Int → Int} (h : pu_HR M So g) (h0 : g 0 = 1) (hq : 0 ≤ q ∧ q < g 5) (hs : ¬ 0 < g (41 + 7 * q + 6)) (hM : ∀ a, So < a → a < So + 36 → a ≠ So + 20 + q → M'.1 a = M.1 a) (hM0 : ∀ i, i ≠ 14 → M'.1 So i = M.1 So i) (hMq : ∀ i, i ≠ 6 → M'.1 (So + 20 + q) i = M.1 (So + 20 + q) i) (hg : ∀ j, 0 ≤ j → j < 185 → j ≠ 6 → j ≠ 41 + 7 * q + 6 → g' j = g j) (g6 : g' 6 = g 6 + 1) (m14 : M'.1 So 14 = g 6 + 1) (mv : M'.1 (So + 20 + q) 6 = v) (gv : g' (41 + 7 * q + 6) = v + 1) (r : 0 ≤ v ∧ v ≤ 600) : pu_HR M' So g' := by
  obtain ⟨hh, h1, h2, h3, h4, h5, h6⟩ := h
  have c5 := h1.2.2.2.2.2.2.2.1
  refine ⟨?_, ?_, fun k a b => ?_, fun k a b => ?_, fun k a b => ?_, fun k a b => ?_, ?_⟩
  · simp (disch := omega) only [pu_H0, hg, hM0] at hh ⊢
    exact hh
  · simp (disch := omega) only [pu_H1, hg, hM0] at h1 ⊢
    rw [g6, m14]
    exact ⟨h1.1, h1.2.1, h1.2.2.1, rfl, h1.2.2.2.2.1, h1.2.2.2.2.2.1, h1.2.2.2.2.2.2.1, h1.2.2.2.2.2.2.2.1, h1.2.2.2.2.2.2.2.2.1, fun q => absurd q (by omega)⟩
  · have h := h2 k a b
    simp (disch := omega) only [pu_HD, hg, hM] at h ⊢
    exact h
  · have h := h3 k a b
    simp (disch := omega) only [pu_HV, hg, hM] at h ⊢
    exact h
  · by_cases c : k = q
    · subst c
      have h := h4 k a b
      unfold pu_HG pu_sf at h ⊢
      rw [gv, mv]
      have m5 : M'.1 (So + 5 + k) = M.1 (So + 5 + k) := hM _ (by omega) (by omega) (by omega)
      simp (disch := omega) only [hg, hMq, m5] at h ⊢
      refine ⟨h.1, ?_, fun z => absurd z (by omega), fun j x y => ?_, h.2.2.2.2.1, h.2.2.2.2.2.1, h.2.2.2.2.2.2.1, h.2.2.2.2.2.2.2.1, h.2.2.2.2.2.2.2.2.1, h.2.2.2.2.2.2.2.2.2.1, by omega⟩
      · unfold pu_she
        rw [if_neg (by omega)]
        omega
      · rw [hg _ (by omega) (by omega) (by omega) (by omega)]
        exact h.2.2.2.1 j x y
    · have h := h4 k a b
      simp (disch := omega) only [pu_HG, pu_sf, hg, hM] at h ⊢
      refine ⟨h.1, h.2.1, h.2.2.1, fun j x y => ?_, h.2.2.2.2⟩
      rw [hg _ (by omega) (by omega) (by omega) (by omega)]
      exact h.2.2.2.1 j x y
  · have h := h5 k a b
    simp (disch := omega) only [pu_HT, hg, hM] at h ⊢
    exact h
  · rw [g6, h6]
    obtain ⟨qn, rfl⟩ : ∃ qn : Nat, q = qn := ⟨q.toNat, by omega⟩
    exact (pu_shc_one (g := g) (g' := g') hs (by omega) (fun k hk hne => hg _ (by omega) (by omega) (by omega) (by omega)) 10 (by decide) (by omega)).symm
theorem pu_HR.says {M M' : nb_M} {So x y z : Int} {g g' : Int → Int} (h : pu_HR M So g) (h0 : g 0 = 1) (hd : g 7 < 8) (hM : ∀ a, So < a → a < So + 36 → a ≠ So + 17 → a ≠ So + 18 → a ≠ So + 19 → M'.1 a = M.1 a) (hM0 : ∀ i, i ≠ 15 → M'.1 So i = M.1 So i) (hM1 : ∀ k, k ≠ g 7 → M'.1 (So + 17) k = M.1 (So + 17) k ∧ M'.1 (So + 18) k = M.1 (So + 18) k ∧ M'.1 (So + 19) k = M.1 (So + 19) k) (hg : ∀ j, 0 ≤ j → j < 185 → j ≠ 7 → (j < 161 + 3 * g 7 ∨ 161 + 3 * g 7 + 3 ≤ j) → g' j = g j) (g7 : g' 7 = g 7 + 1) (m15 : M'.1 So 15 = g 7 + 1) (v : M'.1 (So + 17) (g 7) = x ∧ M'.1 (So + 18) (g 7) = y ∧ M'.1 (So + 19) (g 7) = z) (w : g' (161 + 3 * g 7) = x ∧ g' (161 + 3 * g 7 + 1) = y ∧ g' (161 + 3 * g 7 + 2) = z) (r : (0 ≤ x ∧ x < g 5) ∧ (0 ≤ y ∧ y < g 5) ∧ (0 ≤ z ∧ z < g 5)) : pu_HR M' So g' := by
  obtain ⟨hh, h1, h2, h3, h4, h5, h6⟩ := h
  have c7 := h1.2.2.2.2.2.2.2.2.1
  have c5 := h1.2.2.2.2.2.2.2.1
  have e5 : g' 5 = g 5 := hg 5 (by decide) (by decide) (by decide) (by omega)
  refine ⟨?_, ?_, fun k a b => ?_, fun k a b => ?_, fun k a b => ?_, fun k a b => ?_, ?_⟩
  · simp (disch := omega) only [pu_H0, hg, hM0] at hh ⊢
    exact hh
  · simp (disch := omega) only [pu_H1, hg, hM0] at h1 ⊢
    rw [g7, m15]
    exact ⟨h1.1, h1.2.1, h1.2.2.1, h1.2.2.2.1, rfl, h1.2.2.2.2.2.1, h1.2.2.2.2.2.2.1, h1.2.2.2.2.2.2.2.1, by omega, fun q => absurd q (by omega)⟩
  · have h := h2 k a b
    simp (disch := omega) only [pu_HD, hg, hM] at h ⊢
    exact h
  · have h := h3 k a b
    simp (disch := omega) only [pu_HV, hg, hM] at h ⊢
    exact h
  · have h := h4 k a b
    simp (disch := omega) only [pu_HG, pu_sf, hg, hM] at h ⊢
    refine ⟨h.1, h.2.1, h.2.2.1, fun j x y => ?_, h.2.2.2.2⟩
    rw [hg _ (by omega) (by omega) (by omega) (by omega)]
    exact h.2.2.2.1 j x y
  · by_cases c : k = g 7
    · subst c
      unfold pu_HT
      rw [w.1, w.2.1, w.2.2, e5]
      exact ⟨fun _ => ⟨v, by omega, by omega, by omega⟩, by omega, by omega, by omega⟩
    · have h := h5 k a b
      obtain ⟨n1, n2, n3⟩ := hM1 k c
      simp (disch := omega) only [pu_HT, hg, n1, n2, n3] at h ⊢
      exact ⟨fun q => h.1 (by omega), h.2⟩
  · rw [hg 6 (by decide) (by decide) (by decide) (by omega), h6]
    exact (pu_shc_congr 10 (fun k hk => hg _ (by omega) (by omega) (by omega) (by omega))).symm
