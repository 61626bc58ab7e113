/-! CONTRACTS: comeOrGo, serve -/
theorem pu_cm_man {pe R : Int → Int} {t p : Int} : pu_cm pe t p R (12 + 8 * p + 1) = R (12 + 8 * p + 1) ∧ pu_cm pe t p R (12 + 8 * p + 2) = R (12 + 8 * p + 2) ∧ pu_cm pe t p R (12 + 8 * p + 3) = R (12 + 8 * p + 3) ∧ pu_cm pe t p R (12 + 8 * p + 6) = R (12 + 8 * p + 6) ∧ pu_cm pe t p R (12 + 8 * p + 5) = if (R (12 + 8 * p) = 1 ∨ (R (12 + 8 * p) = 0 ∧ pe (7 * p + 2) = t)) ∧ (0 ≤ pe (7 * p + 6) - 1 ∧ pe (7 * p + 6) - 1 ≤ t) then t else R (12 + 8 * p + 5) := by
  unfold pu_cm
  refine ⟨?_, ?_, ?_, ?_, ?_⟩
  · (repeat' split) <;> (try unfold nb_ud) <;> (repeat' split) <;> first | rfl | omega
  · (repeat' split) <;> (try unfold nb_ud) <;> (repeat' split) <;> first | rfl | omega
  · (repeat' split) <;> (try unfold nb_ud) <;> (repeat' split) <;> first | rfl | omega
  · (repeat' split) <;> (try unfold nb_ud) <;> (repeat' split) <;> first | rfl | omega
  · by_cases h : R (12 + 8 * p) = 1 ∨ (R (12 + 8 * p) = 0 ∧ pe (7 * p + 2) = t)
    · rw [if_pos h]
      (repeat' split) <;> (try unfold nb_ud) <;> (repeat' split) <;> first | rfl | omega
    · rw [if_neg h, if_neg (fun q => h q.1)]
theorem sp_sc_comeOrGo {M : nb_M} {g t p : Int} {pe R : Int → Int} (hg : g ≠ 0) (hpe : (0 ≤ pe (7 * p + 2) ∧ pe (7 * p + 2) ≤ 600) ∧ 0 ≤ pe (7 * p + 6)) (ht : 0 ≤ t ∧ t ≤ 9999) (hG : pu_G (M.1 g) pe R p) : nb_W 260 0 [(11, g), (0, t)] [] M (fun r' M' => r' = [] ∧ M'.2 = M.2 ∧ (∀ a, a ≠ g → M'.1 a = M.1 a) ∧ pu_G (M'.1 g) pe (pu_cm pe t p R) p ∧ M'.1 g 13 = M.1 g 13 ∧ M'.1 g 14 = M.1 g 14 ∧ (R (12 + 8 * p) = 2 ∨ R (12 + 8 * p) = 3 ∨ R (12 + 8 * p) = 4 → M'.1 g 11 = M.1 g 11) ∧ (R (12 + 8 * p) ≠ 3 → R (12 + 8 * p) ≠ 4 → pu_cm pe t p R (12 + 8 * p) = 3 ∨ pu_cm pe t p R (12 + 8 * p) = 4 → M'.1 g 11 = t)) := by
  obtain ⟨g0, g2, g3, g4, g5, g6, g7, g8, g9, g10, g12⟩ := hG
  obtain ⟨e0, e4, e7⟩ := pu_cm_at (pe := pe) (R := R) (t := t) (p := p)
  obtain ⟨m1, m2, m3, m6, m5⟩ := pu_cm_man (pe := pe) (R := R) (t := t) (p := p)
  have hsh : (pu_she (pe (7 * p + 6)) = -2 ∧ pe (7 * p + 6) = 0) ∨ (pu_she (pe (7 * p + 6)) = pe (7 * p + 6) - 1 ∧ 1 ≤ pe (7 * p + 6)) := by
    unfold pu_she
    split
    · exact Or.inl ⟨rfl, by assumption⟩
    · exact Or.inr ⟨rfl, by omega⟩
  have key : ∀ Q : List nb_V → nb_M → Prop, (∀ N : nb_M, N.2 = M.2 → (∀ a, a ≠ g → N.1 a = M.1 a) → (∀ j, j ≠ 8 → j ≠ 10 → j ≠ 11 → N.1 g j = M.1 g j) → N.1 g 8 = pu_cm pe t p R (12 + 8 * p) → N.1 g 10 = pu_cm pe t p R (12 + 8 * p + 5) → (R (12 + 8 * p) = 2 ∨ R (12 + 8 * p) = 3 ∨ R (12 + 8 * p) = 4 → N.1 g 11 = M.1 g 11) → (R (12 + 8 * p) ≠ 3 → R (12 + 8 * p) ≠ 4 → pu_cm pe t p R (12 + 8 * p) = 3 ∨ pu_cm pe t p R (12 + 8 * p) = 4 → N.1 g 11 = t) → Q [] N) → nb_W 260 0 [(11, g), (0, t)] [] M Q := by
    intro Q fin
    refine w_sc_comeOrGo_0 hg ?_
    rw [g8, g2, g6, g4]
    clear g0 g3 g5 g7 g9 g12 m1 m2 m3 m6 e4 e7 g2 g6 g4
    repeat' (first | with_reducible apply And.intro | intro _)
    all_goals first
      | omega
      | (refine fin _ rfl (fun a ha => ?_) (fun j j1 j2 j3 => ?_) ?_ ?_ ?_ ?_
         · simp only [nb_wr_b ha]
         · simp only [nb_wr_a, nb_ud_other j1, nb_ud_other j2, nb_ud_other j3]
         · rw [e0]
           clear fin e0 m5
           try simp only [nb_wr_a]
           first | (rw [if_pos (by omega), if_pos (by omega)]; first | done | rfl) | (rw [if_pos (by omega), if_neg (by omega), if_pos (by omega)]; first | done | rfl | exact g8.trans (by omega)) | (rw [if_pos (by omega), if_neg (by omega), if_neg (by omega)]; first | done | rfl) | (rw [if_neg (by omega)]; exact g8)
         · rw [m5]
           clear fin e0 m5
           try simp only [nb_wr_a]
           first | (rw [if_pos (by omega)]; first | done | rfl) | (rw [if_neg (by omega)]; exact g10)
         · intro h
           clear fin e0 m5
           first | omega | rfl | (simp only [nb_wr_a]; rfl)
         · intro h3 h4 h5
           rw [e0] at h5
           clear fin e0 m5
           first | rfl | (simp only [nb_wr_a]; rfl) | (exfalso; (repeat' split at h5) <;> omega))

  refine key _ (fun N h1 h2 h3 h4 h5 h6 h7 => ⟨rfl, h1, h2, ?_, h3 13 (by decide) (by decide) (by decide), h3 14 (by decide) (by decide) (by decide), h6, h7⟩)
  unfold pu_G
  rw [h3 0 (by decide) (by decide) (by decide), h3 2 (by decide) (by decide) (by decide), h3 3 (by decide) (by decide) (by decide), h3 4 (by decide) (by decide) (by decide), h3 5 (by decide) (by decide) (by decide), h3 6 (by decide) (by decide) (by decide), h3 7 (by decide) (by decide) (by decide), h3 9 (by decide) (by decide) (by decide), h3 12 (by decide) (by decide) (by decide), m1, m2, m3, m6, e4]
  exact ⟨g0, g2, g3, g4, g5, g6, g7, h4, g9, h5, g12⟩
