/-! THE TWO READERS, whole -/
/-- a house emptied -/
def pu_he (So : Int) (M M' : nb_M) : Prop := nb_Lay M' ∧ M'.2 = M.2 ∧ (∀ a, (a < So ∨ So + 36 ≤ a) → M'.1 a = M.1 a) ∧ ∀ a i, So + 20 ≤ a → a < So + 30 → i ≠ 6 → M'.1 a i = M.1 a i
/-- the first k people of it -/
def pu_hz (So : Int) (M' : nb_M) (k : Int) : Prop := (∀ i, 9 ≤ i → i ≤ 15 → M'.1 So i = 0) ∧ ∀ q, 0 ≤ q → q < k → M'.1 (So + 20 + q) 6 = -2 ∧ ∀ j, 0 ≤ j → j < 5 → M'.1 (So + 5 + q) j = 0
theorem pu_he.cell {So : Int} {M M1 : nb_M} (h : pu_he So M M1) {a i v : Int} (ha : So ≤ a ∧ a < So + 36) (hi : a < So + 20 ∨ So + 30 ≤ a ∨ i = 6) (W : nb_Lay (nb_wr M1 a i v)) : pu_he So M (nb_wr M1 a i v) := by
  refine ⟨W, h.2.1, fun b p => ?_, fun b k x y z => ?_⟩
  · rw [nb_wr_b (by omega)]; exact h.2.2.1 b p
  · rw [nb_wr_1, if_neg (by omega)]; exact h.2.2.2 b k x y z
theorem sp_h_empty {So : Int} {M : nb_M} {v1 : nb_V} (W : nb_Lay M) (hSo : nb_hs So) : nb_W 219 0 [(12, So), v1] [] M (fun r' M' => r' = [] ∧ pu_he So M M' ∧ pu_hz So M' 10) := by
  have uSo := hSo
  unfold nb_hs at uSo
  have lp : ∀ (m k : Nat), k + m = 10 → ∀ N, pu_he So M N → pu_hz So N k → nb_W 219 8 [(12, So), (0, (k : Int))] [] N (fun r' M' => r' = [] ∧ pu_he So M M' ∧ pu_hz So M' 10) := by
    intro m
    induction m with
    | zero =>
      intro k hk N hN hz
      have ek : k = 10 := by omega
      subst ek
      exact w_h_empty_8 hN.1 hSo (by omega) ⟨fun z => absurd z (by omega), fun _ _ => ⟨rfl, hN, hz⟩⟩
    | succ m ih =>
      intro k hk N hN hz
      refine w_h_empty_8 hN.1 hSo (by omega) ⟨fun _ => nb_Wp (sp_ja_fill (n := 5) (by omega) (by omega) (hN.1.hnl (i := (k : Int)) hSo (by omega) (by omega)) (by omega)) ?_, fun z => absurd z (by omega)⟩
      have W1 : nb_Lay (nb_up N (So + 5 + (k : Int)) (fun j => if 0 ≤ j ∧ j < 5 then 0 else N.1 (So + 5 + (k : Int)) j)) := hN.1.up (fun i w => nb_nhl hSo (by omega) (by omega))
      have h1 : pu_he So M (nb_up N (So + 5 + (k : Int)) (fun j => if 0 ≤ j ∧ j < 5 then 0 else N.1 (So + 5 + (k : Int)) j)) := ⟨W1, hN.2.1, fun b p => by rw [nb_up_other (by omega)]; exact hN.2.2.1 b p, fun b i x y z => by rw [nb_up_other (by omega)]; exact hN.2.2.2 b i x y z⟩
      refine ⟨rfl, W1, by omega, ?_⟩
      have g := ih (k + 1) (by omega) _ (h1.cell (a := So + 20 + (k : Int)) (i := 6) (v := -2) (by omega) (by omega) (W1.wr (fun w => nb_nhg hSo (by omega) (by omega)))) ?_
      · rw [show ((k + 1 : Nat) : Int) = (k : Int) + 1 by omega] at g
        exact g
      · refine ⟨fun i a b => ?_, fun q q0 q1 => ⟨?_, fun j j0 j1 => ?_⟩⟩
        · rw [nb_wr_b (by omega), nb_up_other (by omega)]; exact hz.1 i a b
        · by_cases c : q = k
          · rw [c, nb_wr_1, if_pos ⟨rfl, rfl⟩]
          · rw [nb_wr_1, if_neg (by omega), nb_up_other (by omega)]; exact (hz.2 q q0 (by omega)).1
        · by_cases c : q = k
          · rw [c, nb_wr_b (by omega), nb_up_same]
            exact if_pos ⟨j0, j1⟩
          · rw [nb_wr_b (by omega), nb_up_other (by omega)]; exact (hz.2 q q0 (by omega)).2 j j0 j1
  have hh : ∀ i v, 8 < i → ∀ N, pu_he So M N → pu_he So M (nb_wr N So i v) := fun i v hi N hN => hN.cell (by omega) (by omega) (hN.1.wr (fun w => nb_nhh hSo (by omega)))
  have h0 : pu_he So M M := ⟨W, rfl, fun _ _ => rfl, fun _ _ _ _ _ => rfl⟩
  refine w_h_empty_0 W hSo ?_
  refine lp 10 0 rfl _ (hh _ _ (by decide) _ (hh _ _ (by decide) _ (hh _ _ (by decide) _ (hh _ _ (by decide) _ (hh _ _ (by decide) _ (hh _ _ (by decide) _ (hh _ _ (by decide) _ h0))))))) ⟨fun i a b => ?_, fun q q0 q1 => absurd q1 (by omega)⟩
  have ei : i = 9 ∨ i = 10 ∨ i = 11 ∨ i = 12 ∨ i = 13 ∨ i = 14 ∨ i = 15 := by omega
  rcases ei with rfl | rfl | rfl | rfl | rfl | rfl | rfl <;> simp [nb_wr_1]
theorem pu_HR.zero {M : nb_M} {So : Int} {g : Int → Int} (h : pu_hz So M 10) (hg : ∀ j, 0 ≤ j → j < 185 → g j = 0) : pu_HR M So g := by
  have hs := h.1
  refine ⟨Or.inl ⟨hg _ (by decide) (by decide), hg _ (by decide) (by decide), hg _ (by decide) (by decide), hs 9 (by decide) (by decide), hs 10 (by decide) (by decide)⟩, ?_, fun k a b => ?_, fun k a b => ?_, fun k a b => ?_, fun k a b => ?_, ?_⟩
  · simp (disch := omega) only [pu_H1, hg, hs]
    exact ⟨(by first | trivial | decide), (by first | trivial | decide), (by first | trivial | decide), (by first | trivial | decide), (by first | trivial | decide), (by first | trivial | decide), (by first | trivial | decide), (by first | trivial | decide), (by first | trivial | decide), fun _ => ⟨(by first | trivial | decide), (by first | trivial | decide), (by first | trivial | decide), (by first | trivial | decide), (by first | trivial | decide)⟩⟩
  · simp (disch := omega) only [pu_HD, hg]
    exact ⟨fun z => absurd z (by omega), by decide, by decide, by decide, by decide⟩
  · simp (disch := omega) only [pu_HV, hg]
    exact ⟨fun z => absurd z (by omega), by decide, by decide, by decide, by decide, by decide, by decide⟩
  · have q := h.2 k a b
    simp (disch := omega) only [pu_HG, hg]
    refine ⟨fun z => absurd z (by omega), ?_, fun _ => (by first | trivial | decide), fun j j0 j1 => ?_, by decide, by decide, by decide, by decide, by decide, by decide, by decide⟩
    · rw [q.1]; rfl
    · rw [q.2 j j0 j1, hg _ (by omega) (by omega)]
      exact ⟨rfl, by decide, fun _ => rfl⟩
  · simp (disch := omega) only [pu_HT, hg]
    exact ⟨fun z => absurd z (by omega), by decide, by decide, by decide⟩
  · rw [hg 6 (by decide) (by decide)]
    exact (pu_shc_congr (g := fun _ => 0) 10 (fun k hk => hg _ (by omega) (by omega))).symm ▸ rfl
