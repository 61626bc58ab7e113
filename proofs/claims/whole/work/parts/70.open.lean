/-! CONTRACT: open; how standings are carried over -/
theorem sp_sc_open {M : nb_M} {A Ho np ns : Int} {v2 : nb_V} (W : nb_Lay M) (hA : nb_sc A) (hHo : nb_hs Ho) (h4 : M.1 Ho 13 = np) (h5 : M.1 Ho 12 = ns) (hnp : 0 ≤ np ∧ np ≤ 10) (hns : 0 ≤ ns ∧ ns ≤ 3) : nb_W 254 0 [(15, A), (12, Ho), v2] [] M (fun r' M' => r' = [] ∧ pu_fr M M' A ∧ (M'.1 A 3 = Ho ∧ M'.1 A 4 = np ∧ M'.1 A 5 = ns ∧ M'.1 A 6 = 0 ∧ M'.1 A 7 = 0 ∧ M'.1 A 8 = M.1 Ho 10) ∧ (∀ p j, 0 ≤ p → p < np → 0 ≤ j → j ≤ 14 → M'.1 (A + 4 + p) j = M.1 (Ho + 20 + p) j) ∧ (∀ s j, 0 ≤ s → s < ns → 1 ≤ j → j ≤ 7 → M'.1 (A + 14 + 2 * s) j = M.1 (Ho + 30 + 2 * s) j) ∧ (∀ s h, 0 ≤ s → s < ns → 0 ≤ h → h < 2 → M'.1 (A + 14 + 2 * s + 1) h = M.1 (Ho + 30 + 2 * s + 1) h)) := by
  have hd : Ho + 36 ≤ A ∧ 4 ≤ Ho := by
    unfold nb_sc at hA
    unfold nb_hs at hHo
    omega
  refine w_sc_open_0 W hA hHo ?_
  rw [h4, h5]
  have hW0 : nb_Lay (nb_wr (nb_wr (nb_wr (nb_wr (nb_wr (nb_wr M A 3 Ho) A 4 np) A 5 ns) A 6 0) A 7 0) A 8 (M.1 Ho 10)) := (((((W.wr (fun w => nb_nss hA (by decide))).wr (fun w => nb_nss hA (by decide))).wr (fun w => nb_nss hA (by decide))).wr (fun w => nb_nss hA (by decide))).wr (fun w => nb_nss hA (by decide))).wr (fun w => nb_nss hA (by decide))
  have hj0 : (nb_wr (nb_wr (nb_wr (nb_wr (nb_wr (nb_wr M A 3 Ho) A 4 np) A 5 ns) A 6 0) A 7 0) A 8 (M.1 Ho 10)).1 A 3 = Ho ∧ (nb_wr (nb_wr (nb_wr (nb_wr (nb_wr (nb_wr M A 3 Ho) A 4 np) A 5 ns) A 6 0) A 7 0) A 8 (M.1 Ho 10)).1 A 4 = np ∧ (nb_wr (nb_wr (nb_wr (nb_wr (nb_wr (nb_wr M A 3 Ho) A 4 np) A 5 ns) A 6 0) A 7 0) A 8 (M.1 Ho 10)).1 A 5 = ns ∧ (nb_wr (nb_wr (nb_wr (nb_wr (nb_wr (nb_wr M A 3 Ho) A 4 np) A 5 ns) A 6 0) A 7 0) A 8 (M.1 Ho 10)).1 A 6 = 0 ∧ (nb_wr (nb_wr (nb_wr (nb_wr (nb_wr (nb_wr M A 3 Ho) A 4 np) A 5 ns) A 6 0) A 7 0) A 8 (M.1 Ho 10)).1 A 7 = 0 ∧ (nb_wr (nb_wr (nb_wr (nb_wr (nb_wr (nb_wr M A 3 Ho) A 4 np) A 5 ns) A 6 0) A 7 0) A 8 (M.1 Ho 10)).1 A 8 = M.1 Ho 10 := by
    simp only [nb_wr_a]
    exact ⟨rfl, rfl, rfl, rfl, rfl, rfl⟩
  have hr0 : ∀ a, a ≠ A → (nb_wr (nb_wr (nb_wr (nb_wr (nb_wr (nb_wr M A 3 Ho) A 4 np) A 5 ns) A 6 0) A 7 0) A 8 (M.1 Ho 10)).1 a = M.1 a := fun a ha => by simp only [nb_wr_b ha]
  have h20 : (nb_wr (nb_wr (nb_wr (nb_wr (nb_wr (nb_wr M A 3 Ho) A 4 np) A 5 ns) A 6 0) A 7 0) A 8 (M.1 Ho 10)).2 = M.2 := rfl
  generalize nb_wr (nb_wr (nb_wr (nb_wr (nb_wr (nb_wr M A 3 Ho) A 4 np) A 5 ns) A 6 0) A 7 0) A 8 (M.1 Ho 10) = N0 at *
  suffices H : ∀ (m k : Nat) (N : nb_M), k + m = np.toNat → nb_Lay N → N.2 = M.2 → (∀ a, a ≠ A → a < A + 4 ∨ A + 14 ≤ a → N.1 a = M.1 a) → N.1 A = N0.1 A → (∀ p j : Int, 0 ≤ p → p < k → 0 ≤ j → j ≤ 14 → N.1 (A + 4 + p) j = M.1 (Ho + 20 + p) j) → nb_W 254 7 [(15, A), (12, Ho), (0, (k : Int))] [] N _ from H _ 0 N0 (Nat.zero_add _) hW0 h20 (fun a ha _ => hr0 a ha) rfl (fun p j a b => absurd b (by omega))
  intro m
  induction m with
  | succ m ih =>
    intro k N hk WN e2 e3 e4 e5
    refine w_sc_open_7 WN hA hHo (by omega) ?_
    rw [e4, hj0.2.1]
    refine ⟨by omega, by omega, fun _ => ?_, fun h => absurd h (by omega)⟩
    refine nb_W.imp (sp_g_take (g := A + 4 + k) (f := Ho + 20 + k) (by omega) (by omega) (by omega)) ?_
    rintro r' N2 ⟨rfl, q1, q2, q3⟩
    have W2 := pu_lay_row WN q1 q2 (fun i w => nb_nsg hA (by omega) (by omega))
    refine ⟨rfl, W2, ih (k + 1) N2 (by omega) W2 (q1.trans e2) (fun a h1 h2 => (q2 a (by omega)).trans (e3 a h1 h2)) ((q2 A (by omega)).trans e4) (fun p j a b c d => ?_)⟩
    by_cases e : p = k
    · subst e
      rw [q3 j c d, e3 (Ho + 20 + k) (by omega) (by omega)]
    · rw [q2 _ (by omega)]
      exact e5 p j a (by omega) c d
  | zero =>
    intro k N hk WN e2 e3 e4 e5
    refine w_sc_open_7 WN hA hHo (by omega) ?_
    rw [e4, hj0.2.1]
    refine ⟨by omega, by omega, fun h => absurd h (by omega), fun _ => ?_⟩
    have e5' : ∀ p j : Int, 0 ≤ p → p < np → 0 ≤ j → j ≤ 14 → N.1 (A + 4 + p) j = M.1 (Ho + 20 + p) j := fun p j a b => e5 p j a (by omega)
    clear e5
    suffices H : ∀ (m k : Nat) (N : nb_M), k + m = ns.toNat → nb_Lay N → N.2 = M.2 → (∀ a, a < A ∨ A + 22 ≤ a → N.1 a = M.1 a) → N.1 A = N0.1 A → (∀ p j : Int, 0 ≤ p → p < np → 0 ≤ j → j ≤ 14 → N.1 (A + 4 + p) j = M.1 (Ho + 20 + p) j) → (∀ s j : Int, 0 ≤ s → s < k → 1 ≤ j → j ≤ 7 → N.1 (A + 14 + 2 * s) j = M.1 (Ho + 30 + 2 * s) j) → (∀ s h : Int, 0 ≤ s → s < k → 0 ≤ h → h < 2 → N.1 (A + 14 + 2 * s + 1) h = M.1 (Ho + 30 + 2 * s + 1) h) → nb_W 254 11 [(15, A), (12, Ho), (0, (k : Int))] [] N _ from H _ 0 N (Nat.zero_add _) WN e2 (fun a h => e3 a (by omega) (by omega)) e4 e5' (fun s j a b => absurd b (by omega)) (fun s j a b => absurd b (by omega))
    clear e5' e4 e3 e2 WN
    intro m
    induction m with
    | succ m ih =>
      intro k N hk WN e2 e3 e4 e5 e6 e7
      refine w_sc_open_11 WN hA hHo (by omega) ?_
      rw [e4, hj0.2.2.1]
      refine ⟨by omega, by omega, fun _ => ?_, fun h => absurd h (by omega)⟩
      refine nb_W.imp (sp_sv_take_h (s := k) WN hA hHo (by omega)) ?_
      rintro r' N2 ⟨rfl, q1, q2, q3, q4, q5⟩
      have W2 := pu_lay_V (s := k) WN hA (by omega) q1 q2 q3
      refine ⟨rfl, W2, ih (k + 1) N2 (by omega) W2 (q1.trans e2) (fun a h1 => (q2 a (by omega) (by omega)).trans (e3 a h1)) ((q2 A (by omega) (by omega)).trans e4) (fun p j a b c d => by rw [q2 _ (by omega) (by omega)]; exact e5 p j a b c d) (fun s j a b c d => ?_) (fun s j a b c d => ?_)⟩
      · by_cases e : s = k
        · subst e
          rw [q4 j c d, e3 (Ho + 30 + 2 * k) (by omega)]
        · rw [q2 _ (by omega) (by omega)]
          exact e6 s j a (by omega) c d
      · by_cases e : s = k
        · subst e
          rw [q5 j c d, e3 (Ho + 30 + 2 * k + 1) (by omega)]
        · rw [q2 _ (by omega) (by omega)]
          exact e7 s j a (by omega) c d
    | zero =>
      intro k N hk WN e2 e3 e4 e5 e6 e7
      refine w_sc_open_11 WN hA hHo (by omega) ?_
      rw [e4, hj0.2.2.1]
      refine ⟨by omega, by omega, fun h => absurd h (by omega), fun _ => ⟨rfl, ⟨WN, e2, fun a i h => by rw [e3 a h]⟩, ⟨hj0.1, hj0.2.1, rfl, hj0.2.2.2⟩, e5, fun s j a b => e6 s j a (by omega), fun s j a b => e7 s j a (by omega)⟩⟩
theorem pu_S_take {M M' : nb_M} {A B np ns : Int} {cr pe R : Int → Int} (h1 : R 1 ≤ 10) (hS : pu_S M B np ns cr pe R) (e8 : ∀ j, 3 ≤ j → j ≤ 8 → M'.1 A j = M.1 B j) (ek : ∀ k, 0 ≤ k → k < 10 → M'.1 (A + 3) k = M.1 (B + 3) k) (eg : ∀ p j, 0 ≤ p → p < np → 0 ≤ j → j ≤ 14 → M'.1 (A + 4 + p) j = M.1 (B + 4 + p) j) (ev : ∀ s j, 0 ≤ s → s < ns → 1 ≤ j → j ≤ 7 → M'.1 (A + 14 + 2 * s) j = M.1 (B + 14 + 2 * s) j) (ef : ∀ s h, 0 ≤ s → s < ns → 0 ≤ h → h < 2 → M'.1 (A + 14 + 2 * s + 1) h = M.1 (B + 14 + 2 * s + 1) h) : pu_S M' A np ns cr pe R := by
  obtain ⟨h4, h5, h6, h7, hG, hV⟩ := hS
  refine ⟨(e8 4 (by decide) (by decide)).trans h4, (e8 5 (by decide) (by decide)).trans h5, (e8 6 (by decide) (by decide)).trans h6, fun k a b => (ek k a (by omega)).trans (h7 k a b), fun p a b => ?_, fun s a b => ?_⟩
  · have := hG p a b
    unfold pu_G at *
    rw [eg p 0 a b (by decide) (by decide), eg p 2 a b (by decide) (by decide), eg p 3 a b (by decide) (by decide), eg p 4 a b (by decide) (by decide), eg p 5 a b (by decide) (by decide), eg p 6 a b (by decide) (by decide), eg p 7 a b (by decide) (by decide), eg p 8 a b (by decide) (by decide), eg p 9 a b (by decide) (by decide), eg p 10 a b (by decide) (by decide), eg p 12 a b (by decide) (by decide)]
    exact this
  · have := hV s a b
    unfold pu_V at *
    rw [ev s 1 a b (by decide) (by decide), ev s 2 a b (by decide) (by decide), ev s 3 a b (by decide) (by decide), ev s 4 a b (by decide) (by decide), ev s 5 a b (by decide) (by decide), ev s 6 a b (by decide) (by decide), ev s 7 a b (by decide) (by decide), ef s 0 a b (by decide) (by decide), ef s 1 a b (by decide) (by decide)]
    exact this
theorem pu_X_take {M M' : nb_M} {A B np : Int} {pe R : Int → Int} (hX : pu_X M B np pe R) (eg : ∀ p j, 0 ≤ p → p < np → 0 ≤ j → j ≤ 14 → M'.1 (A + 4 + p) j = M.1 (B + 4 + p) j) : pu_X M' A np pe R := fun p a b => by
  obtain ⟨x1, x2, x3, x4⟩ := hX p a b
  refine ⟨fun z => (eg p 11 a b (by decide) (by decide)).trans (x1 z), fun z => (eg p 11 a b (by decide) (by decide)).trans (x2 z), (eg p 13 a b (by decide) (by decide)).trans x3, (eg p 14 a b (by decide) (by decide)).trans x4⟩
/-- like rows and like tellings give a like standing -/
theorem pu_S_congr {M : nb_M} {A np ns : Int} {cr cr' pe pe' R R' : Int → Int} (hnp : np ≤ 10) (hns : ns ≤ 4) (h1 : 0 ≤ R 1 ∧ R 1 ≤ 10) (ec : ∀ i, 0 ≤ i → i < 6 * ns → cr' i = cr i) (ep : ∀ i, 0 ≤ i → i < 70 → pe' i = pe i) (eR : ∀ i, 0 ≤ i → i < 108 → R' i = R i) (hS : pu_S M A np ns cr pe R) : pu_S M A np ns cr' pe' R' := by
  obtain ⟨h4, h5, h6, h7, hG, hV⟩ := hS
  refine ⟨h4, h5, by rw [eR 1 (by omega) (by omega)]; exact h6, fun k a b => ?_, fun p a b => ?_, fun s a b => ?_⟩
  · rw [eR 1 (by omega) (by omega)] at b
    rw [eR _ (by omega) (by omega)]
    exact h7 k a b
  · have := hG p a b
    unfold pu_G at *
    rw [ep _ (by omega) (by omega), ep _ (by omega) (by omega), ep _ (by omega) (by omega), ep _ (by omega) (by omega), eR _ (by omega) (by omega), eR _ (by omega) (by omega), eR _ (by omega) (by omega), eR _ (by omega) (by omega), eR _ (by omega) (by omega), eR _ (by omega) (by omega), eR _ (by omega) (by omega)]
    exact this
  · have := hV s a b
    unfold pu_V at *
    rw [ec _ (by omega) (by omega), ec _ (by omega) (by omega), ec _ (by omega) (by omega), ec _ (by omega) (by omega), ec _ (by omega) (by omega), eR _ (by omega) (by omega), eR _ (by omega) (by omega), eR _ (by omega) (by omega), eR _ (by omega) (by omega)]
    exact this
theorem pu_pa_congr {np : Int} {pe pe' R R' : Int → Int} (hnp : np ≤ 10) (h1 : 0 ≤ R 1 ∧ R 1 ≤ 10) (hw : ∀ k, 0 ≤ k → k < R 1 → 0 ≤ R (2 + k) ∧ R (2 + k) < np) (ep : ∀ i, 0 ≤ i → i < 70 → pe' i = pe i) (eR : ∀ i, 0 ≤ i → i < 108 → R' i = R i) {q : Int} (hq : 0 ≤ q ∧ q < np) : pu_pa pe' R' q = pu_pa pe R q := by
  have : ∀ n : Nat, (n : Int) ≤ R 1 → pu_pas pe' R' q n = pu_pas pe R q n := by
    intro n
    induction n with
    | zero => intro _; rfl
    | succ n ih =>
      intro hn
      have := hw n (by omega) (by omega)
      unfold pu_pas
      rw [ih (by omega), eR (2 + n) (by omega) (by omega), eR _ (by omega) (by omega), eR _ (by omega) (by omega), ep _ (by omega) (by omega), ep _ (by omega) (by omega)]
  unfold pu_pa
  rw [eR 1 (by omega) (by omega), this _ (by omega)]
theorem pu_pu_congr2 {np : Int} {pe pe' R R' : Int → Int} (hnp : np ≤ 10) (h1 : 0 ≤ R 1 ∧ R 1 ≤ 10) (hw : ∀ k, 0 ≤ k → k < R 1 → 0 ≤ R (2 + k) ∧ R (2 + k) < np) (ep : ∀ i, 0 ≤ i → i < 70 → pe' i = pe i) (eR : ∀ i, 0 ≤ i → i < 108 → R' i = R i) {p : Int} (hp : 0 ≤ p ∧ p < np) : pu_pu pe' R' np p = pu_pu pe R np p := by
  have : ∀ n : Nat, n ≤ np.toNat → pu_pus pe' R' p n = pu_pus pe R p n := by
    intro n
    induction n with
    | zero => intro _; rfl
    | succ n ih =>
      intro hn
      unfold pu_pus
      rw [ih (by omega), pu_pa_congr hnp h1 hw ep eR ⟨by omega, by omega⟩, ep _ (by omega) (by omega), ep _ (by omega) (by omega)]
  unfold pu_pu
  rw [eR _ (by omega) (by omega), this _ (Nat.le_refl _)]
theorem pu_X_congr {M : nb_M} {A np : Int} {pe pe' R R' : Int → Int} (hnp : np ≤ 10) (h1 : 0 ≤ R 1 ∧ R 1 ≤ 10) (hw : ∀ k, 0 ≤ k → k < R 1 → 0 ≤ R (2 + k) ∧ R (2 + k) < np) (ep : ∀ i, 0 ≤ i → i < 70 → pe' i = pe i) (eR : ∀ i, 0 ≤ i → i < 108 → R' i = R i) (hX : pu_X M A np pe R) : pu_X M A np pe' R' := fun p a b => by
  obtain ⟨x1, x2, x3, x4⟩ := hX p a b
  refine ⟨?_, ?_, ?_, ?_⟩
  · rw [eR _ (by omega) (by omega), eR _ (by omega) (by omega)]; exact x1
  · rw [eR _ (by omega) (by omega), eR _ (by omega) (by omega)]; exact x2
  · rw [x3, pu_pa_congr hnp h1 hw ep eR ⟨a, b⟩]
  · rw [x4, pu_pu_congr2 hnp h1 hw ep eR ⟨a, b⟩]
theorem pu_Ib_congr {np ns : Int} {pe pe' R R' : Int → Int} (hnp : np ≤ 10) (hns : ns ≤ 4) (ep : ∀ i, 0 ≤ i → i < 70 → pe' i = pe i) (eR : ∀ i, 0 ≤ i → i < 108 → R' i = R i) (h : pu_Ib pe R np ns) : pu_Ib pe' R' np ns := by
  obtain ⟨h1, h2, h3, h4⟩ := h
  have r1 := h1.2.2.2.1
  refine ⟨pu_Rw_congr eR h1, pu_Rk_congr eR h2, ⟨fun p a b => ?_, fun k a b => ?_⟩, fun s a b => ?_⟩
  · rw [eR 0 (by omega) (by omega)]
    have g := h3.1 p a b
    have g2 : pu_hb pe R' (R 0) p := pu_hb_congr (eR _ (by omega) (by omega)) (eR _ (by omega) (by omega)) (eR _ (by omega) (by omega)) (fun k k0 k1 k2 => ⟨k, k0, by rw [eR _ (by omega) (by omega)]; exact k1, by rw [eR _ (by omega) (by omega)]; exact k2⟩) g
    unfold pu_hb at *
    rw [ep _ (by omega) (by omega)]
    exact g2
  · rw [eR 1 (by omega) (by omega)] at b
    have := h3.2 k a b
    rw [eR _ (by omega) (by omega), eR _ (by omega) (by omega)]
    exact this
  · rw [eR _ (by omega) (by omega)]
    exact h4 s a b
