/-! ACTS: what stands between calls, put together anew -/
theorem pu_rem12 : ∀ n : Nat, n ≤ 30 → nb_rem n 12 = ((n % 12 : Nat) : Int) := by decide +kernel
theorem pu_rem12i {x : Int} (h : 0 ≤ x ∧ x ≤ 30) : nb_rem x 12 = x % 12 := by
  obtain ⟨n, rfl⟩ : ∃ n : Nat, x = n := ⟨x.toNat, by omega⟩
  rw [pu_rem12 n (by omega)]
  omega
theorem pu_Sn_congr {M : nb_M} {A Ho k : Int} {r R R' : Int → Int} (hr : pu_Rr r) (e : ∀ i, 0 ≤ i → i < 108 → R' i = R i) (h : pu_Sn M A Ho r R k) : pu_Sn M A Ho r R' k := by
  obtain ⟨a1, a2, a3, a4, a5, a6, a7, a8⟩ := h
  have n5 := hr.2.2.2.2.2.2.1
  have n4 := hr.2.2.2.2.2.1
  have r1 := a3.1.2.2.2.1
  have hw : ∀ k, 0 ≤ k → k < R 1 → 0 ≤ R (2 + k) ∧ R (2 + k) < r 5 := fun k a b => ⟨(a3.2.2.1.2 k a b).1, (a3.2.2.1.2 k a b).2.1⟩
  refine ⟨pu_S_congr n5.2 (by omega) r1 (fun _ _ _ => rfl) (fun _ _ _ => rfl) e a1, pu_X_congr n5.2 r1 hw (fun _ _ _ => rfl) e a2, pu_Ib_congr n5.2 (by omega) (fun _ _ _ => rfl) e a3, a4, ?_, a6, ?_, fun p x y => ?_⟩
  · rw [e 0 (by decide) (by decide)]; exact a5
  · rw [e 0 (by decide) (by decide)]; exact a7
  · rw [e _ (by omega) (by omega)]; exact a8 p x y
theorem sp_sc_takeSn {N : nb_M} {A B Ho k : Int} {r R : Int → Int} {v2 : nb_V} (W : nb_Lay N) (hr : pu_Rr r) (hA : nb_sc A) (hB : nb_sc B) (hAB : A ≠ B) (h : pu_Sn N B Ho r R k) : nb_W 255 0 [(15, A), (15, B), v2] [] N (fun r' N' => r' = [] ∧ pu_fr N N' A ∧ pu_Sn N' A Ho r R k) := by
  obtain ⟨a1, a2, a3, a4, a5, a6, a7, a8⟩ := h
  have n5 := hr.2.2.2.2.2.2.1
  have n4 := hr.2.2.2.2.2.1
  refine nb_W.imp (sp_sc_take (np := r 5) (ns := r 4) W hA hB hAB a1.1 a1.2.1 n5 (by omega)) ?_
  rintro r' M1 ⟨rfl, hf, g1, g2, g3, g4, g5⟩
  exact ⟨rfl, hf, pu_S_take a3.1.2.2.2.1.2 a1 g1 g2 g3 g4 g5, pu_X_take a2 g3, a3, (g1 3 (by decide) (by decide)).trans a4, (g1 7 (by decide) (by decide)).trans a5, (g1 8 (by decide) (by decide)).trans a6, a7, a8⟩
/-- what the class's side of an act may change -/
def pu_CF (M N : nb_M) (B : Int) : Prop := nb_Lay N ∧ N.2 = M.2 ∧ (∀ i, i ≠ 8 → i ≠ 9 → i ≠ 11 → i ≠ 15 → N.1 2 i = M.1 2 i) ∧ ∀ a i, a ≠ 2 → (a < 84 ∨ (128 ≤ a ∧ a < 130) ∨ 273 ≤ a ∨ (a = 141 ∧ 0 ≤ i ∧ i < 8)) → (a < B ∨ B + 22 ≤ a) → N.1 a i = M.1 a i
/-- what the reference's side of an act may change -/
def pu_MF (N N2 : nb_M) : Prop := nb_Lay N2 ∧ N2.2 = N.2 ∧ pu_I7 N2 ∧ (∀ a, a ≠ 603 → a ≠ 608 → a ≠ 609 → a ≠ 610 → a ≠ 611 → a < 612 → N2.1 a = N.1 a) ∧ ∀ i, i ≠ 0 → i ≠ 11 → i ≠ 21 → i ≠ 22 → i ≠ 25 → i ≠ 26 → i ≠ 27 → i ≠ 28 → i ≠ 33 → N2.1 603 i = N.1 603 i
theorem pu_CF_CQ {M N : nb_M} {tr B : Int} (h : pu_CQ M N tr) : pu_CF M N B := by
  obtain ⟨h1, h2, h3, h4⟩ := h
  exact ⟨h1, h2, fun i _ _ _ hi => h4 2 i (Or.inr hi) (Or.inl (by decide)), fun a i ha hb _ => h4 a i (Or.inl ha) (by omega)⟩
theorem pu_CF.fr {M N N' : nb_M} {B : Int} (h : pu_CF M N B) (g : pu_fr N N' B) (hB : 84 ≤ B) : pu_CF M N' B := by
  obtain ⟨h1, h2, h3, h4⟩ := h
  obtain ⟨g1, g2, g3⟩ := g
  exact ⟨g1, g2.trans h2, fun i a b c d => (g3 2 i (by omega)).trans (h3 i a b c d), fun a i p q s => (g3 a i (by omega)).trans (h4 a i p q s)⟩
theorem pu_CF.fr84 {M N N' : nb_M} {B : Int} (h : pu_CF M N B) (g : pu_fr N N' 84) : pu_CF M N' B := by
  obtain ⟨h1, h2, h3, h4⟩ := h
  obtain ⟨g1, g2, g3⟩ := g
  exact ⟨g1, g2.trans h2, fun i a b c d => (g3 2 i (by omega)).trans (h3 i a b c d), fun a i p q s => (g3 a i (by omega)).trans (h4 a i p q s)⟩
theorem pu_CF.fld {M N : nb_M} {B i v : Int} (h : pu_CF M N B) (hi : i = 8 ∨ i = 9 ∨ i = 11 ∨ i = 15) : pu_CF M (nb_wr N 2 i v) B := by
  obtain ⟨h1, h2, h3, h4⟩ := h
  refine ⟨h1.wr (fun w => by rcases hi with rfl | rfl | rfl | rfl <;> exact nb_nlit (by decide) (by decide)), h2, fun j a b c d => ?_, fun a j p q s => ?_⟩
  · rw [nb_wr_1, if_neg (by omega)]; exact h3 j a b c d
  · rw [nb_wr_b p]; exact h4 a j p q s
theorem pu_CF.cell {M N : nb_M} {B a i v : Int} (h : pu_CF M N B) (ha : 84 ≤ a ∧ a < 128) (hr : ∀ w, ¬ nb_rf a i w) : pu_CF M (nb_wr N a i v) B := by
  obtain ⟨h1, h2, h3, h4⟩ := h
  refine ⟨h1.wr hr, h2, fun j x b c d => ?_, fun b j p q s => ?_⟩
  · rw [nb_wr_1, if_neg (by omega)]; exact h3 j x b c d
  · rw [nb_wr_b (by omega)]; exact h4 b j p q s
theorem pu_CF.row1 {M N : nb_M} {B : Int} (h : pu_CF M N B) (hB : 84 ≤ B) : N.1 1 = M.1 1 := funext fun i => h.2.2.2 1 i (by decide) (Or.inl (by decide)) (Or.inl (by omega))
theorem pu_CF.sm {M N : nb_M} {B : Int} (h : pu_CF M N B) (hB : 84 ≤ B) : pu_sm N M := ⟨h.2.1, h.row1 hB⟩
theorem pu_MF.row1 {M N : nb_M} (h : pu_MF M N) : N.1 1 = M.1 1 := h.2.2.2.1 1 (by decide) (by decide) (by decide) (by decide) (by decide) (by decide)
theorem pu_CF.x2 {M N : nb_M} {B Ho : Int} (h : pu_CF M N B) (hx : M.1 2 2 = Ho) : N.1 2 2 = Ho := (h.2.2.1 2 (by decide) (by decide) (by decide) (by decide)).trans hx
theorem pu_CF.row {M N : nb_M} {B a : Int} (h : pu_CF M N B) (hB : B ≤ 581) (ha : 603 ≤ a) : N.1 a = M.1 a := funext fun i => h.2.2.2 a i (by omega) (by omega) (by omega)
/-- a scene elsewhere stands -/
theorem pu_Sn_keep {M N : nb_M} {A Ho k j : Int} {r R : Int → Int} (hr : pu_Rr r) (hkj : k ≤ j) (h : pu_Sn M A Ho r R k) (e : ∀ a i, A ≤ a → a < A + 22 → N.1 a i = M.1 a i) : pu_Sn N A Ho r R j := pu_Sn_mono hr h.2.2.1.1.2.2.2.1.2 hkj (fun a p q => funext fun i => e a i p q) h
theorem pu_I_asm {M N M2 : nb_M} {k B Ho : Int} (h : pu_I M k) (hx2 : M.1 2 2 = Ho) (hop : 1 ≤ M.1 606 5) (hB : B = 84 ∨ (273 ≤ B ∧ B ≤ 581)) (c : pu_CF M N B) (m : pu_MF N M2) (t : M2.1 2 15 = M2.1 603 11 ∧ M2.1 603 11 ≠ 4) (s84 : pu_Sn M2 84 Ho (M.1 606) (M2.1 608) (k + 1)) (i4 : pu_I4 M2 Ho (k + 1)) (i5 : pu_I5 M2 Ho (k + 1)) : pu_I M2 (k + 1) := by
  obtain ⟨hL, ⟨t1, t2, t3, t4, t5⟩, ⟨i1, i2, i3⟩, ⟨Ho', So, ⟨s1, s2, s3, s4, s5⟩, u, v⟩, ⟨r1, r2, r3⟩, i7⟩ := h
  have eH : Ho' = Ho := s2.symm.trans hx2
  subst eH
  obtain ⟨c1, c2, c3, c4⟩ := c
  obtain ⟨m1, m2, m3, m4, m5⟩ := m
  have e6 : M2.1 606 = M.1 606 := (m4 606 (by decide) (by decide) (by decide) (by decide) (by decide) (by decide)).trans (funext fun i => c4 606 i (by decide) (by omega) (by omega))
  have e604 : M2.1 604 = M.1 604 := (m4 604 (by decide) (by decide) (by decide) (by decide) (by decide) (by decide)).trans (funext fun i => c4 604 i (by decide) (by omega) (by omega))
  have e2 : ∀ i, i ≠ 8 → i ≠ 9 → i ≠ 11 → i ≠ 15 → M2.1 2 i = M.1 2 i := fun i a b c d => by
    rw [m4 2 (by decide) (by decide) (by decide) (by decide) (by decide) (by decide)]; exact c3 i a b c d
  have elo : ∀ a i, a ≠ 2 → a < 84 → M2.1 a i = M.1 a i := fun a i p q => by
    rw [m4 a (by omega) (by omega) (by omega) (by omega) (by omega) (by omega)]; exact c4 a i p (Or.inl q) (by omega)
  have e603 : ∀ i, i ≠ 0 → i ≠ 11 → i ≠ 21 → i ≠ 22 → i ≠ 25 → i ≠ 26 → i ≠ 27 → i ≠ 28 → i ≠ 33 → M2.1 603 i = M.1 603 i := fun i a b c d e f g h j => by
    rw [m5 i a b c d e f g h j]; exact c4 603 i (by omega) (by omega) (by omega)
  have f2 := e603 2 (by decide) (by decide) (by decide) (by decide) (by decide) (by decide) (by decide) (by decide) (by decide)
  refine ⟨m1, ⟨?_, ?_, fun i a b => ?_, fun i a b => by rw [m4 141 (by decide) (by decide) (by decide) (by decide) (by decide) (by decide), c4 141 i (by decide) (by omega) (by omega)]; exact t4 i a b, fun a ha => by rw [m4 a (by omega) (by omega) (by omega) (by omega) (by omega) (by omega), show N.1 a = M.1 a from funext fun i => c4 a i (by omega) (by omega) (by omega)]; exact t5 a ha⟩, ⟨?_, ?_, fun z => ?_⟩, ⟨Ho', So, ⟨s1, ?_, ?_, ?_, ?_⟩, i4, i5⟩, ⟨t.1, ?_, fun z => absurd z t.2⟩, m3⟩
  · rw [f2]; exact t1
  · rw [f2, e2 1 (by decide) (by decide) (by decide) (by decide)]; exact t2
  · rw [f2] at b
    rw [e604, elo 3 i (by decide) (by decide)]
    exact t3 i a b
  · rw [e6]; exact i1
  · rw [e6, e603 14 (by decide) (by decide) (by decide) (by decide) (by decide) (by decide) (by decide) (by decide) (by decide)]; exact i2
  · rw [e6] at z
    omega
  · rw [e2 2 (by decide) (by decide) (by decide) (by decide)]; exact s2
  · rw [e2 3 (by decide) (by decide) (by decide) (by decide)]; exact s3
  · rw [e6]
    exact pu_Ho_congr s4 i1.1 (fun a i p q => elo a i (by omega) (by omega))
  · rw [e6]; exact s84
  · rw [e2 16 (by decide) (by decide) (by decide) (by decide), e603 9 (by decide) (by decide) (by decide) (by decide) (by decide) (by decide) (by decide) (by decide) (by decide)]; exact r2
/-! keeping how it is -/
def pu_kU (U : Int) : Int := if U = 12 then 12 else U + 1
def pu_kO (U O : Int) : Int := if U = 12 then (O + 1) % 12 else O
def pu_kB (U O : Int) : Int := 273 + 22 * ((pu_kO U O + (pu_kU U - 1)) % 12)
theorem pu_kB_rg {U O : Int} : 273 ≤ pu_kB U O ∧ pu_kB U O ≤ 515 ∧ nb_sc (pu_kB U O) := by
  unfold pu_kB
  generalize pu_kO U O + (pu_kU U - 1) = x
  have : 0 ≤ x % 12 ∧ x % 12 < 12 := by omega
  refine ⟨by omega, by omega, nb_scb (by omega) (by omega)⟩
theorem sp_c_keep {M N : nb_M} {k Ho : Int} (h : pu_I M k) (hx2 : M.1 2 2 = Ho) (hq : pu_CQ M N 0) : nb_W 63 0 [(19, 2)] [] N (fun r' N' => r' = [] ∧ pu_CF M N' (pu_kB (M.1 603 21) (M.1 2 8)) ∧ N'.1 2 15 = 0 ∧ N'.1 2 9 = pu_kU (M.1 603 21) ∧ N'.1 2 8 = pu_kO (M.1 603 21) (M.1 2 8) ∧ N'.1 2 11 = M.1 2 11 ∧ pu_Sn N' (pu_kB (M.1 603 21) (M.1 2 8)) Ho (M.1 606) (M.1 608) k ∧ pu_Sn N' 84 Ho (M.1 606) (M.1 608) k) := by
  have hI := h
  obtain ⟨hL, ht, ⟨i1, i2, i3⟩, ⟨Ho', So, ⟨s1, s2, s3, s4, s5⟩, ⟨u1, u2, u3, u4⟩, v⟩, h6, i7⟩ := h
  have eH : Ho' = Ho := s2.symm.trans hx2
  subst eH
  have hHo : nb_hs Ho' := by unfold nb_hs; omega
  have hr := i1.1
  have e29 : N.1 2 9 = M.1 603 21 := (hq.2.2.2 2 9 (Or.inr (by decide)) (Or.inl (by decide))).trans u2
  have e28 : N.1 2 8 = M.1 2 8 := hq.2.2.2 2 8 (Or.inr (by decide)) (Or.inl (by decide))
  have e11 : N.1 2 11 = M.1 2 11 := hq.2.2.2 2 11 (Or.inr (by decide)) (Or.inl (by decide))
  obtain ⟨b1, b2, b3⟩ := pu_kB_rg (U := M.1 603 21) (O := M.1 2 8)
  have hS : pu_Sn N 84 Ho' (M.1 606) (M.1 608) k := pu_Sn_keep hr (Int.le_refl k) s5 (fun a i p q => hq.2.2.2 a i (Or.inl (by omega)) (Or.inl (by omega)))
  refine w_c_keep_0 hq.1 hHo (hq.x2 hx2) ?_
  rw [e29, e28]
  refine ⟨fun c => ?_, fun c => ?_⟩
  · rw [pu_rem12i (x := M.1 2 8 + 1) (by omega), pu_rem12i (x := (M.1 2 8 + 1) % 12 + (M.1 603 21 - 1)) (by omega)]
    have eB : 273 + 22 * (((M.1 2 8 + 1) % 12 + (M.1 603 21 - 1)) % 12) = pu_kB (M.1 603 21) (M.1 2 8) := by
      unfold pu_kB pu_kO pu_kU
      rw [if_pos c, if_pos c, c]
    have eU : pu_kU (M.1 603 21) = 12 := if_pos c
    have eO : pu_kO (M.1 603 21) (M.1 2 8) = (M.1 2 8 + 1) % 12 := if_pos c
    rw [eB]
    refine ⟨by omega, by omega, by omega, by omega, by omega, by omega, ?_⟩
    have cf := ((pu_CF_CQ (B := pu_kB (M.1 603 21) (M.1 2 8)) hq).fld (i := 8) (v := (M.1 2 8 + 1) % 12) (by omega)).fld (i := 9) (v := M.1 603 21 - 1) (by omega)
    have hS2 : pu_Sn (nb_wr (nb_wr N 2 8 ((M.1 2 8 + 1) % 12)) 2 9 (M.1 603 21 - 1)) 84 Ho' (M.1 606) (M.1 608) k := pu_Sn_keep hr (Int.le_refl k) hS (fun a i p q => by rw [nb_wr_b (by omega), nb_wr_b (by omega)])
    refine nb_W.imp (sp_sc_takeSn cf.1 hr b3 nb_sc84 (by omega) hS2) ?_
    rintro r' N1 ⟨rfl, hf, hB⟩
    have cf2 := cf.fr hf (by omega)
    have f9 : N1.1 2 9 = 11 := by
      rw [hf.2.2 2 9 (by omega), nb_wr_1, if_pos ⟨rfl, rfl⟩]
      omega
    rw [f9]
    refine ⟨rfl, cf2.1, cf2.x2 hx2, by decide, by decide, fun _ => ⟨rfl, cf2.fld (by omega), ?_, ?_, ?_, ?_, ?_, ?_⟩⟩
    · rw [nb_wr_1, if_neg (by omega), hf.2.2 2 15 (by omega), nb_wr_1, if_neg (by omega), nb_wr_1, if_neg (by omega)]; exact hq.2.2.1
    · rw [nb_wr_1, if_pos ⟨rfl, rfl⟩, eU]
      rfl
    · rw [nb_wr_1, if_neg (by omega), hf.2.2 2 8 (by omega), nb_wr_1, if_neg (by omega), nb_wr_1, if_pos ⟨rfl, rfl⟩, eO]
    · rw [nb_wr_1, if_neg (by omega), hf.2.2 2 11 (by omega), nb_wr_1, if_neg (by omega), nb_wr_1, if_neg (by omega)]; exact e11
    · exact pu_Sn_keep hr (Int.le_refl k) hB (fun a i p q => by rw [nb_wr_b (by omega)])
    · exact pu_Sn_keep hr (Int.le_refl k) hS2 (fun a i p q => by rw [nb_wr_b (by omega)]; exact hf.2.2 a i (by omega))
  · rw [pu_rem12i (x := M.1 2 8 + M.1 603 21) (by omega)]
    have eU : pu_kU (M.1 603 21) = M.1 603 21 + 1 := if_neg c
    have eO : pu_kO (M.1 603 21) (M.1 2 8) = M.1 2 8 := if_neg c
    have eB : 273 + 22 * ((M.1 2 8 + M.1 603 21) % 12) = pu_kB (M.1 603 21) (M.1 2 8) := by
      unfold pu_kB
      rw [eU, eO]
      omega
    rw [eB]
    refine ⟨by omega, by omega, by omega, by omega, ?_⟩
    have cf := pu_CF_CQ (B := pu_kB (M.1 603 21) (M.1 2 8)) hq
    refine nb_W.imp (sp_sc_takeSn cf.1 hr b3 nb_sc84 (by omega) hS) ?_
    rintro r' N1 ⟨rfl, hf, hB⟩
    have cf2 := cf.fr hf (by omega)
    have f9 : N1.1 2 9 = M.1 603 21 := by rw [hf.2.2 2 9 (by omega)]; exact e29
    rw [f9]
    refine ⟨rfl, cf2.1, cf2.x2 hx2, by omega, by omega, fun _ => ⟨rfl, cf2.fld (by omega), ?_, ?_, ?_, ?_, ?_, ?_⟩⟩
    · rw [nb_wr_1, if_neg (by omega), hf.2.2 2 15 (by omega)]; exact hq.2.2.1
    · rw [nb_wr_1, if_pos ⟨rfl, rfl⟩, eU]
    · rw [nb_wr_1, if_neg (by omega), hf.2.2 2 8 (by omega), eO]; exact e28
    · rw [nb_wr_1, if_neg (by omega), hf.2.2 2 11 (by omega)]; exact e11
    · exact pu_Sn_keep hr (Int.le_refl k) hB (fun a i p q => by rw [nb_wr_b (by omega)])
    · exact pu_Sn_keep hr (Int.le_refl k) hS (fun a i p q => by rw [nb_wr_b (by omega)]; exact hf.2.2 a i (by omega))
/-- rows of what can be undone, behind the latest act -/
def pu_UR (f f' st : Int → Int) (U : Int) : Prop := ∀ j i, 0 ≤ j → j < pu_kU U → 0 ≤ i → i < 108 → f' (108 * j + i) = if j = pu_kU U - 1 then st i else if U = 12 then f (108 * (j + 1) + i) else f (108 * j + i)
theorem sp_m_note {N : nb_M} {U : Int} {v1 : nb_V} (W : nb_Lay N) (eU : N.1 603 21 = U) (hU : 0 ≤ U ∧ U ≤ 12) : nb_W 200 0 [(20, 603), v1] [] N (fun r' N' => r' = [] ∧ nb_Lay N' ∧ N'.2 = N.2 ∧ N'.1 603 21 = pu_kU U ∧ (∀ i, i ≠ 21 → N'.1 603 i = N.1 603 i) ∧ (∀ a, a ≠ 603 → a ≠ 610 → N'.1 a = N.1 a) ∧ pu_UR (N.1 610) (N'.1 610) (N.1 608) U) := by
  refine w_m_note_0 W ?_
  rw [eU]
  refine ⟨fun c => ?_, fun c => ⟨by omega, by omega, ?_⟩⟩
  · have hW : ∀ T, nb_Lay (nb_up N 610 T) := fun T => W.up (fun i w => nb_nnum (by decide) (by decide))
    suffices hl : ∀ (n j : Nat), (j : Int) + n = 1188 → nb_W 200 2 [(20, 603), (0, (j : Int))] [] (nb_up N 610 (fun i => if 0 ≤ i ∧ i < (j : Int) then N.1 610 (i + 108) else N.1 610 i)) (fun r' N' => r' = [] ∧ nb_Lay N' ∧ N'.2 = N.2 ∧ N'.1 603 21 = pu_kU U ∧ (∀ i, i ≠ 21 → N'.1 603 i = N.1 603 i) ∧ (∀ a, a ≠ 603 → a ≠ 610 → N'.1 a = N.1 a) ∧ pu_UR (N.1 610) (N'.1 610) (N.1 608) U) by
      have g := hl 1188 0 rfl
      have e : (fun i : Int => if 0 ≤ i ∧ i < ((0 : Nat) : Int) then N.1 610 (i + 108) else N.1 610 i) = N.1 610 := funext fun i => if_neg (by omega)
      rw [e, nb_up_id] at g
      exact g
    intro n
    induction n with
    | succ n ih =>
      intro j hj
      refine w_m_note_2 (hW _) (by omega) ⟨fun _ => ?_, fun z => absurd z (by omega)⟩
      have g := ih (j + 1) (by omega)
      have e : nb_wr (nb_up N 610 (fun i => if 0 ≤ i ∧ i < (j : Int) then N.1 610 (i + 108) else N.1 610 i)) 610 j ((nb_up N 610 (fun i => if 0 ≤ i ∧ i < (j : Int) then N.1 610 (i + 108) else N.1 610 i)).1 610 ((j : Int) + 108)) = nb_up N 610 (fun i => if 0 ≤ i ∧ i < ((j + 1 : Nat) : Int) then N.1 610 (i + 108) else N.1 610 i) := by
        rw [nb_wr_upa, nb_up_same]
        congr 1
        funext i
        simp only [nb_ud]
        rw [if_neg (show ¬ (0 ≤ (j : Int) + 108 ∧ (j : Int) + 108 < (j : Int)) by omega)]
        by_cases e : i = j
        · subst e
          rw [if_pos rfl, if_pos (by omega)]
        · rw [if_neg e]
          by_cases e2 : 0 ≤ i ∧ i < (j : Int)
          · rw [if_pos e2, if_pos (by omega)]
          · rw [if_neg e2, if_neg (by omega)]
      rw [e]
      exact g
    | zero =>
      intro j hj
      refine w_m_note_2 (hW _) (by omega) ⟨fun z => absurd z (by omega), fun _ => ?_⟩
      have e3 : (nb_up N 610 (fun i => if 0 ≤ i ∧ i < (j : Int) then N.1 610 (i + 108) else N.1 610 i)).1 603 = N.1 603 := nb_up_other (by decide)
      rw [e3, eU]
      have hW2 : nb_Lay (nb_wr (nb_up N 610 (fun i => if 0 ≤ i ∧ i < (j : Int) then N.1 610 (i + 108) else N.1 610 i)) 603 21 (U - 1)) := (hW _).wr (fun w => nb_nlit (by decide) (by decide))
      refine ⟨by omega, by omega, by omega, by omega, ?_⟩
      refine nb_Wp (sp_m_copy (n0 := 108) (n2 := 1296) (by decide) (by decide) (by decide) (by decide) (hW2.lk (by decide) (by decide +kernel)) (hW2.lk (by decide) (by decide +kernel)) (by decide) (by omega) (by decide) (by decide) (by omega)) ?_
      generalize hT : pu_cpy ((nb_wr (nb_up N 610 (fun i => if 0 ≤ i ∧ i < (j : Int) then N.1 610 (i + 108) else N.1 610 i)) 603 21 (U - 1)).1 608) ((nb_wr (nb_up N 610 (fun i => if 0 ≤ i ∧ i < (j : Int) then N.1 610 (i + 108) else N.1 610 i)) 603 21 (U - 1)).1 610) 0 (108 * (U - 1)) 108 = T
      have eT : ∀ i, T i = if 108 * (U - 1) ≤ i ∧ i < 108 * (U - 1) + 108 then N.1 608 (i - 108 * (U - 1)) else if 0 ≤ i ∧ i < 1188 then N.1 610 (i + 108) else N.1 610 i := fun i => by
        rw [← hT]
        unfold pu_cpy
        rw [nb_wr_b (by decide), nb_wr_b (by decide), nb_up_other (by decide), nb_up_same, show (j : Int) = 1188 by omega, Int.add_zero]
      have f21 : ∀ i, (nb_up (nb_wr (nb_up N 610 (fun i => if 0 ≤ i ∧ i < (j : Int) then N.1 610 (i + 108) else N.1 610 i)) 603 21 (U - 1)) 610 T).1 603 i = if i = 21 then U - 1 else N.1 603 i := fun i => by
        rw [nb_up_other (by decide), nb_wr_1, nb_up_other (by decide)]
        by_cases e : i = 21
        · rw [if_pos ⟨rfl, e⟩, if_pos e]
        · rw [if_neg (by omega), if_neg e]
      rw [f21, if_pos rfl]
      refine ⟨rfl, hW2.up (fun i w => nb_nnum (by decide) (by decide)), by omega, by omega, fun hL' => ⟨rfl, hL', rfl, ?_, fun i hi => ?_, fun a h1 h2 => ?_, fun j' i a b d e => ?_⟩⟩
      · rw [nb_wr_1, if_pos ⟨rfl, rfl⟩]
        unfold pu_kU
        rw [if_pos c]
        omega
      · rw [nb_wr_1, if_neg (by omega), f21, if_neg hi]
      · rw [nb_wr_b h1, nb_up_other h2, nb_wr_b h1, nb_up_other h2]
      · rw [nb_wr_b (by decide), nb_up_same, eT]
        unfold pu_kU at b ⊢
        rw [if_pos c] at b ⊢
        by_cases q : j' = 12 - 1
        · rw [if_pos q, if_pos (by omega)]
          exact congrArg (N.1 608) (by omega)
        · rw [if_neg q, if_neg (by omega), if_pos (by omega), if_pos c]
          exact congrArg (N.1 610) (by omega)
  · refine nb_Wp (sp_m_copy (n0 := 108) (n2 := 1296) (by decide) (by decide) (by decide) (by decide) (W.lk (by decide) (by decide +kernel)) (W.lk (by decide) (by decide +kernel)) (by decide) (by omega) (by decide) (by decide) (by omega)) ?_
    rw [nb_up_other (by decide), eU]
    refine ⟨rfl, W.up (fun i w => nb_nnum (by decide) (by decide)), by omega, by omega, fun hL' => ⟨rfl, hL', rfl, ?_, fun i hi => ?_, fun a h1 h2 => ?_, fun j' i a b d e => ?_⟩⟩
    · rw [nb_wr_1, if_pos ⟨rfl, rfl⟩]
      unfold pu_kU
      rw [if_neg c]
    · rw [nb_wr_1, if_neg (by omega), nb_up_other (by decide)]
    · rw [nb_wr_b h1, nb_up_other h2]
    · rw [nb_wr_b (by decide), nb_up_same]
      unfold pu_kU at b ⊢
      rw [if_neg c] at b ⊢
      unfold pu_cpy
      by_cases q : j' = U + 1 - 1
      · rw [if_pos q, if_pos (by omega)]
        exact congrArg (N.1 608) (by omega)
      · rw [if_neg q, if_neg (by omega), if_neg c]
