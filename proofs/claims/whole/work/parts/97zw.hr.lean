/-! WHAT IS TOLD SO FAR, by both -/
def pu_H0 (M : nb_M) (So : Int) (g : Int → Int) : Prop := (g 0 = 0 ∧ g 1 = 0 ∧ g 2 = 0 ∧ M.1 So 9 = 0 ∧ M.1 So 10 = 0) ∨ (g 0 = 1 ∧ (1 ≤ g 1 ∧ g 1 ≤ 20) ∧ (1 ≤ g 2 ∧ g 2 ≤ 600) ∧ M.1 So 9 = g 1 ∧ M.1 So 10 = g 2)
def pu_H1 (M : nb_M) (So : Int) (g : Int → Int) : Prop := M.1 So 11 = g 3 ∧ M.1 So 12 = g 4 ∧ M.1 So 13 = g 5 ∧ M.1 So 14 = g 6 ∧ M.1 So 15 = g 7 ∧ (0 ≤ g 3 ∧ g 3 ≤ 5) ∧ (0 ≤ g 4 ∧ g 4 ≤ 3) ∧ (0 ≤ g 5 ∧ g 5 ≤ 10) ∧ (0 ≤ g 7 ∧ g 7 ≤ 8) ∧ (g 0 = 0 → g 3 = 0 ∧ g 4 = 0 ∧ g 5 = 0 ∧ g 6 = 0 ∧ g 7 = 0)
def pu_HD (M : nb_M) (So : Int) (g : Int → Int) (k : Int) : Prop := (k < g 3 → M.1 (So + 1) k = g (8 + 3 * k) ∧ M.1 (So + 2) k = g (8 + 3 * k + 1) ∧ M.1 (So + 3) k = g (8 + 3 * k + 2)) ∧ (0 ≤ g (8 + 3 * k) ∧ g (8 + 3 * k) ≤ 90) ∧ (0 ≤ g (8 + 3 * k + 1) ∧ g (8 + 3 * k + 1) ≤ 90) ∧ (0 ≤ g (8 + 3 * k + 2) ∧ g (8 + 3 * k + 2) ≤ 99) ∧ g (8 + 3 * k + 1) ≤ g (8 + 3 * k)
def pu_HV (M : nb_M) (So : Int) (g : Int → Int) (k : Int) : Prop := (k < g 4 → (M.1 (So + 30 + 2 * k) 1 = g (23 + 6 * k) ∧ M.1 (So + 30 + 2 * k) 2 = g (23 + 6 * k + 1) ∧ M.1 (So + 30 + 2 * k) 3 = g (23 + 6 * k + 2) ∧ M.1 (So + 30 + 2 * k) 4 = g (23 + 6 * k + 3) ∧ M.1 (So + 30 + 2 * k) 5 = g (23 + 6 * k + 4) ∧ M.1 (So + 30 + 2 * k) 6 = g (23 + 6 * k + 5) ∧ M.1 (So + 30 + 2 * k) 7 = -1 ∧ M.1 (So + 30 + 2 * k + 1) 0 = 0 ∧ M.1 (So + 30 + 2 * k + 1) 1 = 0) ∧ 1 ≤ g (23 + 6 * k + 5)) ∧ (0 ≤ g (23 + 6 * k) ∧ g (23 + 6 * k) ≤ 4) ∧ (0 ≤ g (23 + 6 * k + 1) ∧ g (23 + 6 * k + 1) ≤ 19) ∧ (0 ≤ g (23 + 6 * k + 2) ∧ g (23 + 6 * k + 2) ≤ 19) ∧ (0 ≤ g (23 + 6 * k + 3) ∧ g (23 + 6 * k + 3) ≤ 19) ∧ (0 ≤ g (23 + 6 * k + 4) ∧ g (23 + 6 * k + 4) ≤ 9) ∧ (0 ≤ g (23 + 6 * k + 5) ∧ g (23 + 6 * k + 5) ≤ 2)
def pu_HG (M : nb_M) (So : Int) (g : Int → Int) (k : Int) : Prop := (k < g 5 → (M.1 (So + 20 + k) 0 = g (41 + 7 * k) ∧ M.1 (So + 20 + k) 1 = g (41 + 7 * k + 1) ∧ M.1 (So + 20 + k) 2 = g (41 + 7 * k + 2) ∧ M.1 (So + 20 + k) 3 = g (41 + 7 * k + 3) ∧ M.1 (So + 20 + k) 4 = g (41 + 7 * k + 4) ∧ M.1 (So + 20 + k) 5 = g (41 + 7 * k + 5) ∧ M.1 (So + 20 + k) 7 = pu_sf g k) ∧ g (41 + 7 * k + 2) ≤ g 2) ∧ M.1 (So + 20 + k) 6 = pu_she (g (41 + 7 * k + 6)) ∧ (g 5 ≤ k → g (41 + 7 * k + 6) = 0) ∧ (∀ j, 0 ≤ j → j < 5 → M.1 (So + 5 + k) j = g (111 + 5 * k + j) ∧ (0 ≤ g (111 + 5 * k + j) ∧ g (111 + 5 * k + j) ≤ 9) ∧ (g 5 ≤ k ∨ g 3 ≤ j → g (111 + 5 * k + j) = 0)) ∧ (0 ≤ g (41 + 7 * k) ∧ g (41 + 7 * k) ≤ 3) ∧ (0 ≤ g (41 + 7 * k + 1) ∧ g (41 + 7 * k + 1) ≤ 99) ∧ (0 ≤ g (41 + 7 * k + 2) ∧ g (41 + 7 * k + 2) ≤ 600) ∧ (0 ≤ g (41 + 7 * k + 3) ∧ g (41 + 7 * k + 3) ≤ 19) ∧ (0 ≤ g (41 + 7 * k + 4) ∧ g (41 + 7 * k + 4) ≤ 600) ∧ (0 ≤ g (41 + 7 * k + 5) ∧ g (41 + 7 * k + 5) ≤ 99) ∧ (0 ≤ g (41 + 7 * k + 6) ∧ g (41 + 7 * k + 6) ≤ 601)
def pu_HT (M : nb_M) (So : Int) (g : Int → Int) (k : Int) : Prop := (k < g 7 → (M.1 (So + 17) k = g (161 + 3 * k) ∧ M.1 (So + 18) k = g (161 + 3 * k + 1) ∧ M.1 (So + 19) k = g (161 + 3 * k + 2)) ∧ g (161 + 3 * k) < g 5 ∧ g (161 + 3 * k + 1) < g 5 ∧ g (161 + 3 * k + 2) < g 5) ∧ (0 ≤ g (161 + 3 * k) ∧ g (161 + 3 * k) ≤ 9) ∧ (0 ≤ g (161 + 3 * k + 1) ∧ g (161 + 3 * k + 1) ≤ 9) ∧ (0 ≤ g (161 + 3 * k + 2) ∧ g (161 + 3 * k + 2) ≤ 9)
/-- how many shelves are told -/
def pu_shc (g : Int → Int) : Nat → Int
  | 0 => 0
  | m + 1 => pu_shc g m + (if 0 < g (41 + 7 * m + 6) then 1 else 0)
theorem pu_shc_congr {g g' : Int → Int} : ∀ m : Nat, (∀ k : Nat, k < m → g' (41 + 7 * k + 6) = g (41 + 7 * k + 6)) → pu_shc g' m = pu_shc g m
  | 0, _ => rfl
  | m + 1, h => by
    unfold pu_shc
    rw [pu_shc_congr m (fun k hk => h k (by omega)), h m (by omega)]
theorem pu_shc_rg {g : Int → Int} : ∀ m : Nat, 0 ≤ pu_shc g m ∧ pu_shc g m ≤ m
  | 0 => by unfold pu_shc; omega
  | m + 1 => by
    have ih := pu_shc_rg (g := g) m
    unfold pu_shc
    split <;> omega
theorem pu_shc_one {g g' : Int → Int} {q : Nat} (h0 : ¬ 0 < g (41 + 7 * (q : Int) + 6)) (h1 : 0 < g' (41 + 7 * (q : Int) + 6)) (h : ∀ k : Nat, k < 10 → k ≠ q → g' (41 + 7 * (k : Int) + 6) = g (41 + 7 * (k : Int) + 6)) : ∀ m : Nat, m ≤ 10 → q < m → pu_shc g' m = pu_shc g m + 1
  | 0, _, hq => absurd hq (by omega)
  | m + 1, hm, hq => by
    by_cases c : q = m
    · subst c
      have e := pu_shc_congr (g := g) (g' := g') q (fun k hk => h k (by omega) (by omega))
      unfold pu_shc
      rw [e, if_pos h1, if_neg h0]
      omega
    · have ih := pu_shc_one h0 h1 h m (by omega) (by omega)
      have e := h m (by omega) (by omega)
      unfold pu_shc
      rw [ih, e]
      omega
def pu_HR (M : nb_M) (So : Int) (g : Int → Int) : Prop := pu_H0 M So g ∧ pu_H1 M So g ∧ (∀ k, 0 ≤ k → k < 5 → pu_HD M So g k) ∧ (∀ k, 0 ≤ k → k < 3 → pu_HV M So g k) ∧ (∀ k, 0 ≤ k → k < 10 → pu_HG M So g k) ∧ (∀ k, 0 ≤ k → k < 8 → pu_HT M So g k) ∧ g 6 = pu_shc g 10
theorem pu_HR.congr {M M' : nb_M} {So : Int} {g g' : Int → Int} (h : pu_HR M So g) (hM : ∀ a, So ≤ a → a < So + 36 → M'.1 a = M.1 a) (hg : ∀ j, 0 ≤ j → j < 185 → g' j = g j) : pu_HR M' So g' := by
  obtain ⟨h0, h1, h2, h3, h4, h5, h6⟩ := h
  refine ⟨?_, ?_, fun k a b => ?_, fun k a b => ?_, fun k a b => ?_, fun k a b => ?_, ?_⟩
  · simp (disch := omega) only [pu_H0, hg, hM] at h0 ⊢
    exact h0
  · simp (disch := omega) only [pu_H1, hg, hM] at h1 ⊢
    exact h1
  · have h := h2 k a b
    simp (disch := omega) only [pu_HD, hg, hM] at h ⊢
    exact h
  · have h := h3 k a b
    simp (disch := omega) only [pu_HV, hg, hM] at h ⊢
    exact h
  · have h := h4 k a b
    simp (disch := omega) only [pu_HG, pu_sf, hg, hM] at h ⊢
    refine ⟨h.1, h.2.1, h.2.2.1, fun j x y => ?_, h.2.2.2.2⟩
    rw [hg _ (by omega) (by omega)]
    exact h.2.2.2.1 j x y
  · have h := h5 k a b
    simp (disch := omega) only [pu_HT, hg, hM] at h ⊢
    exact h
  · rw [hg 6 (by decide) (by decide), h6]
    exact (pu_shc_congr 10 (fun k hk => hg _ (by omega) (by omega))).symm
/-- what a line changes -/
def pu_cl (So : Int) (M M' : nb_M) : Prop := nb_Lay M' ∧ M'.2 = M.2 ∧ (∀ a, a ≠ 76 → a ≠ 81 → a ≠ 82 → a ≠ 83 → (a < So ∨ So + 36 ≤ a) → M'.1 a = M.1 a) ∧ M'.1 76 4 = M.1 76 4 ∧ ∀ a i, So + 20 ≤ a → a < So + 30 → 8 ≤ i → M'.1 a i = M.1 a i
def pu_ml (N N' : nb_M) : Prop := nb_Lay N' ∧ N'.2 = N.2 ∧ (∀ a, a ≠ 603 → a ≠ 605 → a ≠ 607 → N'.1 a = N.1 a) ∧ ∀ i, (i < 4 ∨ i = 11 ∨ i = 12 ∨ 13 < i) → N'.1 603 i = N.1 603 i
theorem pu_cl.tr {So : Int} {M M1 M2 : nb_M} (h : pu_cl So M M1) (g : pu_cl So M1 M2) : pu_cl So M M2 := ⟨g.1, g.2.1.trans h.2.1, fun a p q r s t => (g.2.2.1 a p q r s t).trans (h.2.2.1 a p q r s t), g.2.2.2.1.trans h.2.2.2.1, fun a i x y z => (g.2.2.2.2 a i x y z).trans (h.2.2.2.2 a i x y z)⟩
theorem pu_cf.cl {So : Int} {M M1 : nb_M} (hSo : nb_hs So) (h : pu_cf M M1) : pu_cl So M M1 := ⟨h.1, h.2.1, fun a p q r s _ => h.2.2.1 a p q r s, h.2.2.2, fun a i x y _ => by unfold nb_hs at hSo; rw [h.2.2.1 a (by omega) (by omega) (by omega) (by omega)]⟩
theorem pu_ml.tr {N N1 N2 : nb_M} (h : pu_ml N N1) (g : pu_ml N1 N2) : pu_ml N N2 := ⟨g.1, g.2.1.trans h.2.1, fun a p q r => (g.2.2.1 a p q r).trans (h.2.2.1 a p q r), fun i hi => (g.2.2.2 i hi).trans (h.2.2.2 i hi)⟩
theorem pu_mf.ml {N N1 : nb_M} (h : pu_mf N N1) : pu_ml N N1 := ⟨h.1, h.2.1, h.2.2.1, h.2.2.2.1.1⟩
theorem pu_cl.wr {So : Int} {M M1 : nb_M} (hSo : nb_hs So) (h : pu_cl So M M1) {a i v : Int} (ha : So ≤ a ∧ a < So + 36) (hi : a < So + 20 ∨ So + 30 ≤ a ∨ i < 8) (W : nb_Lay (nb_wr M1 a i v)) : pu_cl So M (nb_wr M1 a i v) := by
  unfold nb_hs at hSo
  refine ⟨W, h.2.1, fun b p q r s t => ?_, ?_, fun b k x y z => ?_⟩
  · rw [nb_wr_b (by omega)]; exact h.2.2.1 b p q r s t
  · rw [nb_wr_b (by omega)]; exact h.2.2.2.1
  · rw [nb_wr_1, if_neg (by omega)]; exact h.2.2.2.2 b k x y z
theorem pu_ml.wr {N N1 : nb_M} (h : pu_ml N N1) {i v : Int} : pu_ml N (nb_wr N1 607 i v) := by
  refine ⟨h.1.wr (fun w => nb_nnum (by decide) (by decide)), h.2.1, fun b p q r => ?_, fun k hk => ?_⟩
  · rw [nb_wr_b r]; exact h.2.2.1 b p q r
  · rw [nb_wr_b (by decide)]; exact h.2.2.2 k hk
variable {So n d s p : Int} {tx : Int → Int} {cnt j : Nat} {E : Nat → Int} {M N : nb_M}
theorem pu_Lv.mh {M' N' : nb_M} {i : Nat} (h : pu_Lv E cnt M N i d s p) (hM : ∀ a, 76 ≤ a → M'.1 a = M.1 a) (h3 : N'.1 603 = N.1 603) (h5 : N'.1 605 = N.1 605) (h7 : ∀ j, 185 ≤ j → N'.1 607 j = N.1 607 j) : pu_Lv E cnt M' N' i d s p := by
  obtain ⟨l1, l2, l3, l4, l5, l6, l7, l8, l9, l10⟩ := h
  have e76 := hM 76 (by decide)
  have e78 := hM 78 (by decide)
  have e79 := hM 79 (by decide)
  have e80 := hM 80 (by decide)
  refine ⟨by rw [e76]; exact l1, by rw [h3]; exact l2, by rw [e76]; exact l3, l4, by rw [e76, e78]; exact l5, by rw [e76, e80]; exact l6, fun z => by rw [e78]; exact l7 z, ?_, fun z => by rw [h3]; exact l9 z, l10.congr (by rw [e76]) (hM 81 (by decide)) (hM 82 (by decide)) (hM 83 (by decide)) h7⟩
  rw [e76, e79]
  unfold pu_rt at l8 ⊢
  rw [h3, h5]
  exact l8
theorem pu_Ba.mh {M' N' : nb_M} (h : pu_Ba So tx n cnt E M N) (W : nb_Lay M') (WN : nb_Lay N') (hM : ∀ a, 76 ≤ a → M'.1 a = M.1 a) (h3 : N'.1 603 = N.1 603) (h4 : N'.1 604 = N.1 604) : pu_Ba So tx n cnt E M' N' := by
  obtain ⟨a1, a2, a3, a4, a6, a7, a8, a9, a10⟩ := h
  refine ⟨W, WN, a3, by rw [hM 76 (by decide)]; exact a4, ?_, a7, by rw [h4]; exact a8, by unfold pu_ph at a9 ⊢; rw [h3]; exact a9, by rw [hM 76 (by decide)]; exact a10⟩
  unfold pu_TF pu_TK at a6 ⊢
  rw [hM 77 (by decide), hM 78 (by decide), hM 79 (by decide), hM 80 (by decide)]
  exact a6
theorem pu_RL.mh {M' N' : nb_M} (h : pu_RL So tx n cnt E M N j d s p) (W : nb_Lay M') (WN : nb_Lay N') (hM : ∀ a, 76 ≤ a → M'.1 a = M.1 a) (h3 : N'.1 603 = N.1 603) (h4 : N'.1 604 = N.1 604) (h5 : N'.1 605 = N.1 605) (h7 : ∀ j, 185 ≤ j → N'.1 607 j = N.1 607 j) : pu_RL So tx n cnt E M' N' j d s p := by
  refine ⟨h.1.mh W WN hM h3 h4, ?_⟩
  rcases h.2 with ⟨i, hi, hL⟩ | hD
  · exact Or.inl ⟨i, hi, hL.mh hM h3 h5 h7⟩
  · refine Or.inr ?_
    unfold pu_Dd at hD ⊢
    rw [hM 76 (by decide), h3]
    exact hD
/-- the class writes into its house, the reference into what it reads -/
theorem pu_RL.wh (h : pu_RL So tx n cnt E M N j d s p) {a i v : Int} (ha : a < So + 36) (W : nb_Lay (nb_wr M a i v)) : pu_RL So tx n cnt E (nb_wr M a i v) N j d s p := by
  have hSo := h.1.2.2.1
  unfold nb_hs at hSo
  exact h.mh W h.1.2.1 (fun b hb => nb_wr_b (by omega)) rfl rfl rfl (fun _ _ => rfl)
theorem pu_RL.wg (h : pu_RL So tx n cnt E M N j d s p) {i v : Int} (hi : i < 185) : pu_RL So tx n cnt E M (nb_wr N 607 i v) j d s p := h.mh h.1.1 (h.1.2.1.wr (fun w => nb_nnum (by decide) (by decide))) (fun _ _ => rfl) (nb_wr_b (by decide)) (nb_wr_b (by decide)) (nb_wr_b (by decide)) (fun j hj => by rw [nb_wr_1, if_neg (by omega)])
theorem pu_RL.dd (h : pu_RL So tx n cnt E M N j d s p) (hf : M.1 76 9 ≠ 0) : pu_Dd M N := by
  rcases h.2 with ⟨i, hi, hL⟩ | hD
  · exact absurd hL.1 hf
  · exact hD
theorem pu_RL.lv (h : pu_RL So tx n cnt E M N j d s p) (hf : M.1 76 9 = 0) : ∃ i : Nat, j ≤ i ∧ pu_Lv E cnt M N i d s p := by
  rcases h.2 with hL | hD
  · exact hL
  · exact absurd hf hD.1
theorem pu_RL.ff (h : pu_RL So tx n cnt E M N j d s p) : M.1 76 9 = 0 ↔ N.1 603 13 = 0 := by
  rcases h.2 with ⟨i, hi, hL⟩ | hD
  · exact ⟨fun _ => hL.2.1, fun _ => hL.1⟩
  · exact ⟨fun z => absurd z hD.1, fun z => absurd hD.2.1 (by omega)⟩
/-- how a line ends -/
def pu_LO (So : Int) (tx : Int → Int) (n : Int) (cnt : Nat) (E : Nat → Int) (M N M1 N1 : nb_M) (j : Nat) : Prop := pu_RL So tx n cnt E M1 N1 j (N1.1 607 3) (N1.1 607 4) (N1.1 607 5) ∧ pu_cl So M M1 ∧ pu_ml N N1 ∧ (M1.1 76 9 = 0 → pu_HR M1 So (N1.1 607))
theorem dd_number {kc lo hi : Int} (hc : pu_tok kc) (W : nb_Lay M) (hSo : nb_hs So) (h4 : M.1 76 4 = So) (hf : M.1 76 9 ≠ 0) : nb_R nb_P 243 0 [(13, 76), (2, kc), (0, lo), (0, hi)] [] M = some ([(0, nb_l2i (M.1 76 8))], M) := by
  obtain ⟨x, x1, x2, x3⟩ := sp_rd_stands W hSo h4 hc
  have st := dd_step W hSo h4 hf
  have wh := dd_whole (lo := lo) (hi := hi) (v3 := (98, 0)) W hSo h4 hf
  exact nb_Wq (w_rd_number_0 W hSo h4 (nb_Wp x3 ⟨x, rfl, W, h4, fun _ => nb_Wp (dd_fail W hSo h4 hf) ⟨rfl, W, h4, nb_Wp st ⟨rfl, W, h4, nb_Wp wh ⟨_, rfl, W, h4, fun _ => ⟨rfl, rfl⟩⟩⟩⟩, fun _ => nb_Wp st ⟨rfl, W, h4, nb_Wp wh ⟨_, rfl, W, h4, fun _ => ⟨rfl, rfl⟩⟩⟩⟩))
