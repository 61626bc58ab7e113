/-! WHAT IS READ IS TOLD -/
theorem pu_HR.told {M : nb_M} {So : Int} {r : Int → Int} (h : pu_HR M So r) (h0 : r 0 ≠ 0) (h3 : r 3 ≠ 0) (h4 : r 4 ≠ 0) (h5 : r 5 ≠ 0) (gk : ∀ a, So + 20 ≤ a → a < So + 30 → pu_gk (M.1 a)) : pu_T r ∧ pu_Ho M So r := by
  obtain ⟨hA, hB, hD, hV, hG, hT, h6⟩ := h
  unfold pu_H0 at hA
  have hA1 : (1 ≤ r 1 ∧ r 1 ≤ 20) ∧ (1 ≤ r 2 ∧ r 2 ≤ 600) ∧ M.1 So 9 = r 1 ∧ M.1 So 10 = r 2 := by
    rcases hA with q | q
    · exact absurd q.1 h0
    · exact q.2
  clear hA
  obtain ⟨a1, a2, a9, a10⟩ := hA1
  obtain ⟨b11, b12, b13, b14, b15, c3, c4, c5, c7, -⟩ := hB
  have c6 := pu_shc_rg (g := r) 10
  rw [← h6] at c6
  have cr : ∀ s i, 0 ≤ s → s < 3 → 0 ≤ i → i < 6 → pu_cr0 r (6 * s + i) = r (23 + 6 * s + i) := fun s i _ _ _ _ => by
    unfold pu_cr0
    rw [if_pos (by omega), show 23 + (6 * s + i) = 23 + 6 * s + i by omega]
  have cz : ∀ i, 18 ≤ i → pu_cr0 r i = 0 := fun i _ => by
    unfold pu_cr0
    rw [if_neg (by omega)]
  refine ⟨⟨⟨fun d d0 d1 => (hD d d0 d1).2, fun p d p0 p1 d0 d1 => ((hG p p0 p1).2.2.2.1 d d0 d1).2.1, by omega, by omega, c3, c4, c5, by omega, c7⟩, fun s s0 s1 => ?_, fun p p0 p1 => ?_, fun s s0 s1 => ?_, fun k k0 k1 => (hT k k0 k1).2, fun k k0 k1 => ((hT k k0 (by omega)).1 k1).2, Or.inl ⟨a1.1, a2.1, by omega, by omega, by omega⟩, fun p p0 p1 => ?_, fun s s0 s1 => ?_⟩, ⟨a9, a10, b11, b12, b13, b14, b15⟩, fun d d0 d1 => (hD d d0 (by omega)).1 d1, fun p d p0 p1 d0 d1 => ((hG p p0 (by omega)).2.2.2.1 d d0 d1).1, fun p d p0 p1 d0 d1 => ((hG p p0 p1).2.2.2.1 d (by omega) d1).2.2 (Or.inr d0), fun p p0 p1 => ?_, fun s s0 s1 => ((hV s s0 (by omega)).1 s1).1, fun k k0 k1 => ((hT k k0 (by omega)).1 k1).1⟩
  · by_cases c : s < 3
    · have v := hV s s0 c
      rw [cr s 1 s0 c (by decide) (by decide), cr s 4 s0 c (by decide) (by decide), cr s 5 s0 c (by decide) (by decide)]
      exact ⟨v.2.2.1, v.2.2.2.2.2.1, v.2.2.2.2.2.2⟩
    · rw [cz _ (by omega), cz _ (by omega), cz _ (by omega)]
      decide
  · have v := hG p p0 (by omega)
    unfold pu_pe0
    rw [show 41 + (7 * p + 1) = 41 + 7 * p + 1 by omega, show 41 + (7 * p + 2) = 41 + 7 * p + 2 by omega, show 41 + (7 * p + 3) = 41 + 7 * p + 3 by omega, show 41 + (7 * p + 4) = 41 + 7 * p + 4 by omega, show 41 + (7 * p + 5) = 41 + 7 * p + 5 by omega, show 41 + (7 * p + 6) = 41 + 7 * p + 6 by omega]
    exact v.2.2.2.2
  · have v := hV s s0 s1
    exact ⟨v.2.1, v.2.2.2.1, v.2.2.2.2.1⟩
  · rw [show 41 + (7 * p + 2) = 41 + 7 * p + 2 by omega]
    exact ((hG p p0 (by omega)).1 p1).2
  · rw [show 23 + (6 * s + 5) = 23 + 6 * s + 5 by omega]
    exact ((hV s s0 (by omega)).1 s1).2
  · have v := hG p p0 (by omega)
    obtain ⟨w0, w1, w2, w3, w4, w5, w7⟩ := (v.1 p1).1
    exact ⟨⟨w0, w1, w2, w3, w4, w5, v.2.1, w7⟩, gk (So + 20 + p) (by omega) (by omega)⟩
theorem pu_lf_congr {np ns j : Int} {cr cr' pe pe' : Int → Int} (hnp : np ≤ 10) (hns : ns ≤ 3) (ec : ∀ i, 0 ≤ i → i < 18 → cr' i = cr i) (ep : ∀ i, 0 ≤ i → i < 70 → pe' i = pe i) : pu_lf np ns cr' pe' j = pu_lf np ns cr pe j := by
  unfold pu_lf pu_sfp
  by_cases c : 12 ≤ j ∧ j < 12 + 8 * np
  · rw [if_pos c, if_pos c]
    rw [ep _ (by omega) (by omega), ep _ (by omega) (by omega), ep _ (by omega) (by omega), ep _ (by omega) (by omega), ep _ (by omega) (by omega)]
  · rw [if_neg c, if_neg c]
    by_cases c2 : 92 ≤ j ∧ j < 92 + 4 * ns ∧ (j - 92) % 4 = 0
    · rw [if_pos c2, if_pos c2, ec _ (by omega) (by omega)]
    · rw [if_neg c2, if_neg c2]
/-- a scene opened stands as the first row says -/
theorem pu_Sn_first {N P : nb_M} {A Ho k : Int} {r R : Int → Int} (hT : pu_T r) (hh : pu_Ho P Ho r) (hk : 0 ≤ k) (hR : ∀ j, 0 ≤ j → j < 108 → R j = pu_lf (r 5) (r 4) (pu_cr0 r) (pu_pe0 r) j) (e3 : N.1 A 3 = Ho) (e4 : N.1 A 4 = r 5) (e5 : N.1 A 5 = r 4) (e6 : N.1 A 6 = 0) (e7 : N.1 A 7 = 0) (e8 : N.1 A 8 = r 2) (eg : ∀ p j, 0 ≤ p → p < r 5 → 0 ≤ j → j ≤ 14 → N.1 (A + 4 + p) j = P.1 (Ho + 20 + p) j) (ev : ∀ s j, 0 ≤ s → s < r 4 → 1 ≤ j → j ≤ 7 → N.1 (A + 14 + 2 * s) j = P.1 (Ho + 30 + 2 * s) j) (ef : ∀ s h, 0 ≤ s → s < r 4 → 0 ≤ h → h < 2 → N.1 (A + 14 + 2 * s + 1) h = P.1 (Ho + 30 + 2 * s + 1) h) : pu_Sn N A Ho r R k := by
  have hr := hT.1
  have n5 := hr.2.2.2.2.2.2.1
  have n4 := hr.2.2.2.2.2.1
  have n2 := hr.2.2.2.1
  obtain ⟨s1, s2⟩ := pu_open_S (M := P) (N := N) (A := A) (Ho := Ho) (cr := pu_cr0 r) (pe := pu_pe0 r) (R := R) hr hh (fun i x y => by unfold pu_cr0; rw [if_pos y]) (fun i x y => rfl) hR e4 e5 e6 eg ev ef
  obtain ⟨g1, g2, g3, g4, g5⟩ := pu_lf_ok n5 n4 hT.2.1 hT.2.2.1 hR
  refine ⟨s1, s2, g5, e3, by rw [e7, g3], e8, by omega, fun p p0 p1 => ?_⟩
  rw [hR _ (by omega) (by omega)]
  by_cases c : p < r 5
  · rw [(pu_lf_at ⟨p0, c⟩).2.2.2.1]
    have s := pu_sfp_rg hT.2.2.1 ⟨p0, p1⟩
    omega
  · rw [pu_lf_0 (by omega) (by omega)]
    omega
