/-! CONTRACTS: take, open -/
theorem nb_cpy_1 (M : nb_M) (a i b j n c k : Int) : (nb_cpy M a i b j n).1 c k = if c = b ∧ j ≤ k ∧ k < j + n then M.1 a (k - j + i) else M.1 c k := rfl
theorem sp_g_take {M : nb_M} {g f : Int} (hg : g ≠ 0) (hf : f ≠ 0) (hgf : g ≠ f) : nb_W 215 0 [(11, g), (11, f)] [] M (fun r' M' => r' = [] ∧ M'.2 = M.2 ∧ (∀ a, a ≠ g → M'.1 a = M.1 a) ∧ (∀ j, 0 ≤ j → j ≤ 14 → M'.1 g j = M.1 f j)) := by
  refine w_g_take_0 hg hf hgf ⟨rfl, rfl, fun a ha => ?_, fun j h0 h1 => ?_⟩
  · simp only [nb_wr_b ha]
  · have hj : j = 0 ∨ j = 1 ∨ j = 2 ∨ j = 3 ∨ j = 4 ∨ j = 5 ∨ j = 6 ∨ j = 7 ∨ j = 8 ∨ j = 9 ∨ j = 10 ∨ j = 11 ∨ j = 12 ∨ j = 13 ∨ j = 14 := by omega
    simp only [nb_wr_a]
    rcases hj with rfl | rfl | rfl | rfl | rfl | rfl | rfl | rfl | rfl | rfl | rfl | rfl | rfl | rfl | rfl <;> rfl
theorem sp_sv_take_s {M : nb_M} {A B s : Int} (W : nb_Lay M) (hA : nb_sc A) (hB : nb_sc B) (hAB : A ≠ B) (hs : 0 ≤ s ∧ s < 4) : nb_W 273 0 [(16, A + 14 + 2 * s), (16, B + 14 + 2 * s)] [] M (fun r' M' => r' = [] ∧ M'.2 = M.2 ∧ (∀ a, a ≠ A + 14 + 2 * s → a ≠ A + 14 + 2 * s + 1 → M'.1 a = M.1 a) ∧ M'.1 (A + 14 + 2 * s) 0 = M.1 (A + 14 + 2 * s) 0 ∧ (∀ j, 1 ≤ j → j ≤ 7 → M'.1 (A + 14 + 2 * s) j = M.1 (B + 14 + 2 * s) j) ∧ (∀ h, 0 ≤ h → h < 2 → M'.1 (A + 14 + 2 * s + 1) h = M.1 (B + 14 + 2 * s + 1) h)) := by
  have e : ∀ c k, c ≠ A + 14 + 2 * s + 1 → (nb_cpy M (B + 14 + 2 * s + 1) 0 (A + 14 + 2 * s + 1) 0 2).1 c k = M.1 c k := fun c k h => by rw [nb_cpy_1, if_neg (fun q => h q.1)]
  have hd : A + 22 ≤ B ∨ B + 22 ≤ A := by
    unfold nb_sc at hA hB
    omega
  refine w_sv_take_s W hA hB hAB hs ⟨by omega, rfl, rfl, fun a h1 h2 => ?_, ?_, fun j h0 h1 => ?_, fun h h0 h1 => ?_⟩
  · simp only [nb_wr_b h1]
    funext k
    exact e a k h2
  · simp only [nb_wr_a]
    exact e _ 0 (by omega)
  · have hj : j = 1 ∨ j = 2 ∨ j = 3 ∨ j = 4 ∨ j = 5 ∨ j = 6 ∨ j = 7 := by omega
    simp only [nb_wr_a]
    rcases hj with rfl | rfl | rfl | rfl | rfl | rfl | rfl <;> exact e _ _ (by omega)
  · simp only [nb_wr_b (show A + 14 + 2 * s + 1 ≠ A + 14 + 2 * s by omega)]
    rw [nb_cpy_1, if_pos (by omega), show h - 0 + 0 = h by omega]
theorem sp_sv_take_h {M : nb_M} {A Ho s : Int} (W : nb_Lay M) (hA : nb_sc A) (hHo : nb_hs Ho) (hs : 0 ≤ s ∧ s < 3) : nb_W 273 0 [(16, A + 14 + 2 * s), (16, Ho + 30 + 2 * s)] [] M (fun r' M' => r' = [] ∧ M'.2 = M.2 ∧ (∀ a, a ≠ A + 14 + 2 * s → a ≠ A + 14 + 2 * s + 1 → M'.1 a = M.1 a) ∧ M'.1 (A + 14 + 2 * s) 0 = M.1 (A + 14 + 2 * s) 0 ∧ (∀ j, 1 ≤ j → j ≤ 7 → M'.1 (A + 14 + 2 * s) j = M.1 (Ho + 30 + 2 * s) j) ∧ (∀ h, 0 ≤ h → h < 2 → M'.1 (A + 14 + 2 * s + 1) h = M.1 (Ho + 30 + 2 * s + 1) h)) := by
  have e : ∀ c k, c ≠ A + 14 + 2 * s + 1 → (nb_cpy M (Ho + 30 + 2 * s + 1) 0 (A + 14 + 2 * s + 1) 0 2).1 c k = M.1 c k := fun c k h => by rw [nb_cpy_1, if_neg (fun q => h q.1)]
  have hd : Ho + 36 ≤ A := by
    unfold nb_sc at hA
    unfold nb_hs at hHo
    omega
  refine w_sv_take_h W hA hHo hs ⟨by omega, rfl, rfl, fun a h1 h2 => ?_, ?_, fun j h0 h1 => ?_, fun h h0 h1 => ?_⟩
  · simp only [nb_wr_b h1]
    funext k
    exact e a k h2
  · simp only [nb_wr_a]
    exact e _ 0 (by omega)
  · have hj : j = 1 ∨ j = 2 ∨ j = 3 ∨ j = 4 ∨ j = 5 ∨ j = 6 ∨ j = 7 := by omega
    simp only [nb_wr_a]
    rcases hj with rfl | rfl | rfl | rfl | rfl | rfl | rfl <;> exact e _ _ (by omega)
  · simp only [nb_wr_b (show A + 14 + 2 * s + 1 ≠ A + 14 + 2 * s by omega)]
    rw [nb_cpy_1, if_pos (by omega), show h - 0 + 0 = h by omega]
/-- nothing outside a scene is changed, and no reference in it but the house -/
def pu_fr (M M' : nb_M) (A : Int) : Prop := nb_Lay M' ∧ M'.2 = M.2 ∧ ∀ a i, a < A ∨ A + 22 ≤ a → M'.1 a i = M.1 a i
theorem pu_lay_row {M M' : nb_M} {a : Int} (W : nb_Lay M) (h2 : M'.2 = M.2) (e : ∀ b, b ≠ a → M'.1 b = M.1 b) (h : ∀ i w, ¬ nb_rf a i w) : nb_Lay M' := W.mono (by rw [h2]) (fun b i w z => by
  by_cases q : b = a
  · subst q
    exact absurd z (h i w)
  · rw [e b q])
theorem pu_lay_V {M M' : nb_M} {A s : Int} (W : nb_Lay M) (hA : nb_sc A) (hs : 0 ≤ s ∧ s < 4) (h2 : M'.2 = M.2) (e : ∀ a, a ≠ A + 14 + 2 * s → a ≠ A + 14 + 2 * s + 1 → M'.1 a = M.1 a) (e0 : M'.1 (A + 14 + 2 * s) 0 = M.1 (A + 14 + 2 * s) 0) : nb_Lay M' := W.mono (by rw [h2]) (fun b i w z => by
  by_cases q : b = A + 14 + 2 * s
  · subst q
    by_cases hi : i = 0
    · rw [hi, e0]
    · exact absurd z (nb_nsv hA hs.1 hs.2 hi)
  · by_cases q2 : b = A + 14 + 2 * s + 1
    · subst q2
      exact absurd z (nb_nsf hA hs.1 hs.2)
    · rw [e b q q2])
theorem sp_sc_take {M : nb_M} {A B np ns : Int} {v2 : nb_V} (W : nb_Lay M) (hA : nb_sc A) (hB : nb_sc B) (hAB : A ≠ B) (h4 : M.1 B 4 = np) (h5 : M.1 B 5 = ns) (hnp : 0 ≤ np ∧ np ≤ 10) (hns : 0 ≤ ns ∧ ns ≤ 4) : nb_W 255 0 [(15, A), (15, B), v2] [] M (fun r' M' => r' = [] ∧ pu_fr M M' A ∧ (∀ j, 3 ≤ j → j ≤ 8 → M'.1 A j = M.1 B j) ∧ (∀ k, 0 ≤ k → k < 10 → M'.1 (A + 3) k = M.1 (B + 3) k) ∧ (∀ p j, 0 ≤ p → p < np → 0 ≤ j → j ≤ 14 → M'.1 (A + 4 + p) j = M.1 (B + 4 + p) j) ∧ (∀ s j, 0 ≤ s → s < ns → 1 ≤ j → j ≤ 7 → M'.1 (A + 14 + 2 * s) j = M.1 (B + 14 + 2 * s) j) ∧ (∀ s h, 0 ≤ s → s < ns → 0 ≤ h → h < 2 → M'.1 (A + 14 + 2 * s + 1) h = M.1 (B + 14 + 2 * s + 1) h)) := by
  have hd : A + 22 ≤ B ∨ B + 22 ≤ A := by
    unfold nb_sc at hA hB
    omega
  have hA84 : 84 ≤ A ∧ 84 ≤ B := by
    unfold nb_sc at hA hB
    omega
  refine w_sc_take_0 W hA hB hAB ?_
  have hW0 : nb_Lay (nb_wr (nb_wr (nb_wr (nb_wr (nb_wr (nb_wr M A 3 (M.1 B 3)) A 4 (M.1 B 4)) A 5 (M.1 B 5)) A 6 (M.1 B 6)) A 7 (M.1 B 7)) A 8 (M.1 B 8)) := (((((W.wr (fun w => nb_nss hA (by decide))).wr (fun w => nb_nss hA (by decide))).wr (fun w => nb_nss hA (by decide))).wr (fun w => nb_nss hA (by decide))).wr (fun w => nb_nss hA (by decide))).wr (fun w => nb_nss hA (by decide))
  have hj0 : ∀ j, 3 ≤ j → j ≤ 8 → (nb_wr (nb_wr (nb_wr (nb_wr (nb_wr (nb_wr M A 3 (M.1 B 3)) A 4 (M.1 B 4)) A 5 (M.1 B 5)) A 6 (M.1 B 6)) A 7 (M.1 B 7)) A 8 (M.1 B 8)).1 A j = M.1 B j := fun j h0 h1 => by
    have hj : j = 3 ∨ j = 4 ∨ j = 5 ∨ j = 6 ∨ j = 7 ∨ j = 8 := by omega
    simp only [nb_wr_a]
    rcases hj with rfl | rfl | rfl | rfl | rfl | rfl <;> rfl
  have hr0 : ∀ a, a ≠ A → (nb_wr (nb_wr (nb_wr (nb_wr (nb_wr (nb_wr M A 3 (M.1 B 3)) A 4 (M.1 B 4)) A 5 (M.1 B 5)) A 6 (M.1 B 6)) A 7 (M.1 B 7)) A 8 (M.1 B 8)).1 a = M.1 a := fun a ha => by simp only [nb_wr_b ha]
  have h20 : (nb_wr (nb_wr (nb_wr (nb_wr (nb_wr (nb_wr M A 3 (M.1 B 3)) A 4 (M.1 B 4)) A 5 (M.1 B 5)) A 6 (M.1 B 6)) A 7 (M.1 B 7)) A 8 (M.1 B 8)).2 = M.2 := rfl
  generalize nb_wr (nb_wr (nb_wr (nb_wr (nb_wr (nb_wr M A 3 (M.1 B 3)) A 4 (M.1 B 4)) A 5 (M.1 B 5)) A 6 (M.1 B 6)) A 7 (M.1 B 7)) A 8 (M.1 B 8) = N0 at *
  suffices H : ∀ (m k : Nat) (N : nb_M), k + m = np.toNat → nb_Lay N → N.2 = M.2 → (∀ a, a ≠ A → a < A + 4 ∨ A + 14 ≤ a → N.1 a = M.1 a) → (∀ j, 3 ≤ j → j ≤ 8 → N.1 A j = M.1 B j) → (∀ p j : Int, 0 ≤ p → p < k → 0 ≤ j → j ≤ 14 → N.1 (A + 4 + p) j = M.1 (B + 4 + p) j) → nb_W 255 7 [(15, A), (15, B), (0, (k : Int))] [] N _ from H _ 0 N0 (Nat.zero_add _) hW0 h20 (fun a ha _ => hr0 a ha) hj0 (fun p j a b => absurd b (by omega))
  intro m
  induction m with
  | succ m ih =>
    intro k N hk WN e2 e3 e4 e5
    refine w_sc_take_7 WN hA hB hAB (by omega) ?_
    rw [e4 4 (by decide) (by decide), h4]
    refine ⟨by omega, by omega, fun _ => ?_, fun h => absurd h (by omega)⟩
    refine nb_W.imp (sp_g_take (g := A + 4 + k) (f := B + 4 + k) (by omega) (by omega) (by omega)) ?_
    rintro r' N2 ⟨rfl, q1, q2, q3⟩
    have W2 := pu_lay_row WN q1 q2 (fun i w => nb_nsg hA (by omega) (by omega))
    refine ⟨rfl, W2, ih (k + 1) N2 (by omega) W2 (q1.trans e2) (fun a h1 h2 => (q2 a (by omega)).trans (e3 a h1 h2)) (fun j a b => by rw [q2 A (by omega)]; exact e4 j a b) (fun p j a b c d => ?_)⟩
    by_cases e : p = k
    · subst e
      rw [q3 j c d, e3 (B + 4 + k) (by omega) (by omega)]
    · rw [q2 _ (by omega)]
      exact e5 p j a (by omega) c d
  | zero =>
    intro k N hk WN e2 e3 e4 e5
    refine w_sc_take_7 WN hA hB hAB (by omega) ?_
    rw [e4 4 (by decide) (by decide), h4]
    refine ⟨by omega, by omega, fun h => absurd h (by omega), fun _ => ?_⟩
    have e5' : ∀ p j : Int, 0 ≤ p → p < np → 0 ≤ j → j ≤ 14 → N.1 (A + 4 + p) j = M.1 (B + 4 + p) j := fun p j a b => e5 p j a (by omega)
    clear e5
    suffices H : ∀ (m k : Nat) (N : nb_M), k + m = ns.toNat → nb_Lay N → N.2 = M.2 → (∀ a, a < A ∨ A + 22 ≤ a → N.1 a = M.1 a) → N.1 (A + 3) = M.1 (A + 3) → (∀ j, 3 ≤ j → j ≤ 8 → N.1 A j = M.1 B j) → (∀ p j : Int, 0 ≤ p → p < np → 0 ≤ j → j ≤ 14 → N.1 (A + 4 + p) j = M.1 (B + 4 + p) j) → (∀ s j : Int, 0 ≤ s → s < k → 1 ≤ j → j ≤ 7 → N.1 (A + 14 + 2 * s) j = M.1 (B + 14 + 2 * s) j) → (∀ s h : Int, 0 ≤ s → s < k → 0 ≤ h → h < 2 → N.1 (A + 14 + 2 * s + 1) h = M.1 (B + 14 + 2 * s + 1) h) → nb_W 255 11 [(15, A), (15, B), (0, (k : Int))] [] N _ from H _ 0 N (Nat.zero_add _) WN e2 (fun a h => e3 a (by omega) (by omega)) (e3 _ (by omega) (by omega)) e4 e5' (fun s j a b => absurd b (by omega)) (fun s j a b => absurd b (by omega))
    clear e5' e4 e3 e2 WN
    intro m
    induction m with
    | succ m ih =>
      intro k N hk WN e2 e3 e3' e4 e5 e6 e7
      refine w_sc_take_11 WN hA hB hAB (by omega) ?_
      rw [e4 5 (by decide) (by decide), h5]
      refine ⟨by omega, by omega, fun _ => ?_, fun h => absurd h (by omega)⟩
      refine nb_W.imp (sp_sv_take_s (s := k) WN hA hB hAB (by omega)) ?_
      rintro r' N2 ⟨rfl, q1, q2, q3, q4, q5⟩
      have W2 := pu_lay_V (s := k) WN hA (by omega) q1 q2 q3
      refine ⟨rfl, W2, ih (k + 1) N2 (by omega) W2 (q1.trans e2) (fun a h1 => (q2 a (by omega) (by omega)).trans (e3 a h1)) ((q2 _ (by omega) (by omega)).trans e3') (fun j a b => by rw [q2 A (by omega) (by omega)]; exact e4 j a b) (fun p j a b c d => by rw [q2 _ (by omega) (by omega)]; exact e5 p j a b c d) (fun s j a b c d => ?_) (fun s j a b c d => ?_)⟩
      · by_cases e : s = k
        · subst e
          rw [q4 j c d, e3 (B + 14 + 2 * k) (by omega)]
        · rw [q2 _ (by omega) (by omega)]
          exact e6 s j a (by omega) c d
      · by_cases e : s = k
        · subst e
          rw [q5 j c d, e3 (B + 14 + 2 * k + 1) (by omega)]
        · rw [q2 _ (by omega) (by omega)]
          exact e7 s j a (by omega) c d
    | zero =>
      intro k N hk WN e2 e3 e3' e4 e5 e6 e7
      refine w_sc_take_11 WN hA hB hAB (by omega) ?_
      rw [e4 5 (by decide) (by decide), h5]
      have ec : ∀ a i, a ≠ A + 3 → (nb_cpy N (B + 3) 0 (A + 3) 0 10).1 a i = N.1 a i := fun a i h => by rw [nb_cpy_1, if_neg (fun q => h q.1)]
      refine ⟨by omega, by omega, fun h => absurd h (by omega), fun _ => ⟨by omega, rfl, ⟨WN.cpy (fun j w => nb_nsr hA), e2, fun a i h => ?_⟩, fun j a b => ?_, fun q a b => ?_, fun p j a b c d => ?_, fun s j a b c d => ?_, fun s j a b c d => ?_⟩⟩
      · rw [ec _ _ (by omega), e3 a h]
      · rw [ec _ _ (by omega)]; exact e4 j a b
      · rw [nb_cpy_1, if_pos (by omega), show q - 0 + 0 = q by omega, e3 (B + 3) (by omega)]
      · rw [ec _ _ (by omega)]; exact e5 p j a b c d
      · rw [ec _ _ (by omega)]; exact e6 s j a (by omega) c d
      · rw [ec _ _ (by omega)]; exact e7 s j a (by omega) c d
