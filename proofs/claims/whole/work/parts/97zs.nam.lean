/-! NAMES of both readers -/
variable {So n d s p : Int} {tx : Int → Int} {cnt j : Nat} {E : Nat → Int} {M N : nb_M}
theorem sp_rd_find {v1 : nb_V} (W : nb_Lay M) (hSo : nb_hs So) (h4 : M.1 76 4 = So) (h5 : 0 ≤ M.1 76 5 ∧ M.1 76 5 ≤ 18) : ∃ x : Int, nb_R nb_P 240 0 [(13, 76), v1] [] M = some ([(0, x)], M) ∧ ((x = -1 ∧ ∀ i : Nat, (i : Int) < M.1 76 5 → M.1 81 i ≠ M.1 76 8) ∨ (0 ≤ x ∧ x < M.1 76 5 ∧ M.1 81 x = M.1 76 8)) := by
  suffices hl : ∀ (m i : Nat), (i : Int) + m = M.1 76 5 → (∀ q : Nat, q < i → M.1 81 q ≠ M.1 76 8) → ∃ x : Int, nb_W 240 1 [(13, 76), (0, (i : Int))] [] M (fun r' M' => r' = [(0, x)] ∧ M' = M) ∧ ((x = -1 ∧ ∀ i : Nat, (i : Int) < M.1 76 5 → M.1 81 i ≠ M.1 76 8) ∨ (0 ≤ x ∧ x < M.1 76 5 ∧ M.1 81 x = M.1 76 8)) by
    obtain ⟨x, x1, x2⟩ := hl (M.1 76 5).toNat 0 (by omega) (fun q hq => absurd hq (by omega))
    exact ⟨x, nb_Wq (w_rd_find_0 W hSo h4 x1), x2⟩
  intro m
  induction m with
  | zero =>
    intro i hi hno
    exact ⟨-1, w_rd_find_1 W hSo h4 ⟨fun z => absurd z (by omega), fun _ _ => ⟨rfl, rfl⟩⟩, Or.inl ⟨rfl, fun q hq => hno q (by omega)⟩⟩
  | succ m ih =>
    intro i hi hno
    by_cases c : M.1 81 i = M.1 76 8
    · exact ⟨i, w_rd_find_1 W hSo h4 ⟨fun _ => ⟨by omega, by omega, fun _ _ => ⟨rfl, rfl⟩, fun z => absurd (nb_lcmp_0.2 c) z⟩, fun z => absurd z (by omega)⟩, Or.inr ⟨by omega, by omega, c⟩⟩
    · obtain ⟨x, x1, x2⟩ := ih (i + 1) (by omega) (fun q hq => by
        by_cases e : q = i
        · subst e; exact c
        · exact hno q (by omega))
      refine ⟨x, w_rd_find_1 W hSo h4 ⟨fun _ => ⟨by omega, by omega, fun z => absurd (nb_lcmp_0.1 z) c, fun _ => ?_⟩, fun z => absurd z (by omega)⟩, x2⟩
      rw [nb_add_eq (by omega) (by omega), show (i : Int) + 1 = ((i + 1 : Nat) : Int) by omega]
      exact x1
/-- a name of the reference's that is the token -/
def pu_mt (N : nb_M) (m : Int) : Prop := 0 < N.1 607 (185 + m) ∧ N.1 607 (185 + m) = N.1 603 8 ∧ ∀ q : Nat, (q : Int) < N.1 603 8 → pu_nl (N.1 607) m q = N.1 605 q
theorem sp_m_find (WN : nb_Lay N) (h8 : 1 ≤ N.1 603 8 ∧ N.1 603 8 ≤ 8) : ∃ y : Int, nb_R nb_P 97 0 [(20, 603), (98, 0), (98, 0), (98, 0)] [] N = some ([(0, y)], N) ∧ ((y = -1 ∧ ∀ m : Nat, m < 18 → ¬ pu_mt N m) ∨ ((0 ≤ y ∧ y < 18) ∧ pu_mt N y)) := by
  suffices hl : ∀ (k m : Nat) (v2 v3 : nb_V), m + k = 18 → (∀ q : Nat, q < m → ¬ pu_mt N q) → ∃ y : Int, nb_W 97 1 [(20, 603), (0, (m : Int)), v2, v3] [] N (fun r' M' => r' = [(0, y)] ∧ M' = N) ∧ ((y = -1 ∧ ∀ m : Nat, m < 18 → ¬ pu_mt N m) ∨ ((0 ≤ y ∧ y < 18) ∧ pu_mt N y)) by
    obtain ⟨y, y1, y2⟩ := hl 18 0 (98, 0) (98, 0) rfl (fun q hq => absurd hq (by omega))
    exact ⟨y, nb_Wq (w_m_find_0 WN y1), y2⟩
  intro k
  induction k with
  | zero =>
    intro m v2 v3 hm hno
    have e : m = 18 := by omega
    subst e
    exact ⟨-1, w_m_find_1 WN (by omega) ⟨fun z => absurd z (by omega), fun _ _ => ⟨rfl, rfl⟩⟩, Or.inl ⟨rfl, hno⟩⟩
  | succ k ih =>
    intro m v2 v3 hm hno
    -- the letters
    have lt : ∀ (f q : Nat) (y2 : Int), (q : Int) + f = N.1 603 8 → (y2 = 0 ∨ y2 = 1) → (y2 = 1 → 0 < N.1 607 (185 + m) ∧ N.1 607 (185 + m) = N.1 603 8 ∧ ∀ i : Nat, i < q → pu_nl (N.1 607) m i = N.1 605 i) → (y2 = 0 → ¬ pu_mt N m) → ∃ y : Int, nb_W 97 7 [(20, 603), (0, (m : Int)), (0, y2), (0, (q : Int))] [] N (fun r' M' => r' = [(0, y)] ∧ M' = N) ∧ ((y = -1 ∧ ∀ m : Nat, m < 18 → ¬ pu_mt N m) ∨ ((0 ≤ y ∧ y < 18) ∧ pu_mt N y)) := by
      intro f
      induction f with
      | zero =>
        intro q y2 hq hy h1 h0
        by_cases c : y2 = 0
        · obtain ⟨y, g1, g2⟩ := ih (m + 1) (0, y2) (0, (q : Int)) (by omega) (fun i hi => by
            by_cases e : i = m
            · subst e; exact h0 c
            · exact hno i (by omega))
          refine ⟨y, w_m_find_7 WN (by omega) ⟨fun z => absurd z (by omega), fun _ => ⟨fun _ => ?_, fun z => absurd c z⟩⟩, g2⟩
          rw [show (m : Int) + 1 = ((m + 1 : Nat) : Int) by omega]
          exact g1
        · obtain ⟨a, b, e⟩ := h1 (by omega)
          exact ⟨m, w_m_find_7 WN (by omega) ⟨fun z => absurd z (by omega), fun _ => ⟨fun z => absurd z c, fun _ _ => ⟨rfl, rfl⟩⟩⟩, Or.inr ⟨by omega, a, b, fun i hi => e i (by omega)⟩⟩
      | succ f ihf =>
        intro q y2 hq hy h1 h0
        by_cases c : y2 = 0
        · obtain ⟨y, g1, g2⟩ := ih (m + 1) (0, y2) (0, (q : Int)) (by omega) (fun i hi => by
            by_cases e : i = m
            · subst e; exact h0 c
            · exact hno i (by omega))
          refine ⟨y, w_m_find_7 WN (by omega) ⟨fun _ => ⟨fun _ => ?_, fun z => absurd c z⟩, fun z => absurd z (by omega)⟩, g2⟩
          rw [show (m : Int) + 1 = ((m + 1 : Nat) : Int) by omega]
          exact g1
        · obtain ⟨a, b, e⟩ := h1 (by omega)
          by_cases ce : N.1 607 (203 + 8 * (m : Int) + q) = N.1 605 q
          · obtain ⟨y, g1, g2⟩ := ihf (q + 1) 1 (by omega) (Or.inr rfl) (fun _ => ⟨a, b, fun i hi => by
              by_cases ei : i = q
              · subst ei; exact ce
              · exact e i (by omega)⟩) (fun z => absurd z (by decide))
            refine ⟨y, w_m_find_7 WN (by omega) ⟨fun _ => ⟨fun z => absurd z c, fun _ => ?_⟩, fun z => absurd z (by omega)⟩, g2⟩
            rw [nb_add_eq (x := 203 + 8 * (m : Int)) (by omega) (by omega), nb_add_eq (x := (q : Int)) (by omega) (by omega), show (q : Int) + 1 = ((q + 1 : Nat) : Int) by omega]
            exact ⟨by omega, by omega, by omega, by omega, fun _ => g1, fun z => absurd ce z⟩
          · obtain ⟨y, g1, g2⟩ := ihf (q + 1) 0 (by omega) (Or.inl rfl) (fun z => absurd z (by decide)) (fun _ z => ce (z.2.2 q (by omega)))
            refine ⟨y, w_m_find_7 WN (by omega) ⟨fun _ => ⟨fun z => absurd z c, fun _ => ?_⟩, fun z => absurd z (by omega)⟩, g2⟩
            rw [nb_add_eq (x := 203 + 8 * (m : Int)) (by omega) (by omega), nb_add_eq (x := (q : Int)) (by omega) (by omega), show (q : Int) + 1 = ((q + 1 : Nat) : Int) by omega]
            exact ⟨by omega, by omega, by omega, by omega, fun z => absurd z ce, fun _ => g1⟩
    by_cases c1 : 0 < N.1 607 (185 + (m : Int))
    · by_cases c2 : N.1 607 (185 + (m : Int)) = N.1 603 8
      · obtain ⟨y, g1, g2⟩ := lt (N.1 603 8).toNat 0 1 (by omega) (Or.inr rfl) (fun _ => ⟨c1, c2, fun i hi => absurd hi (by omega)⟩) (fun z => absurd z (by decide))
        exact ⟨y, w_m_find_1 WN (by omega) ⟨fun _ => ⟨fun _ => ⟨fun _ => g1, fun z => absurd c2 z⟩, fun z => absurd z (by omega)⟩, fun z => absurd z (by omega)⟩, g2⟩
      · obtain ⟨y, g1, g2⟩ := lt (N.1 603 8).toNat 0 0 (by omega) (Or.inl rfl) (fun z => absurd z (by decide)) (fun _ z => c2 z.2.1)
        exact ⟨y, w_m_find_1 WN (by omega) ⟨fun _ => ⟨fun _ => ⟨fun z => absurd z c2, fun _ => g1⟩, fun z => absurd z (by omega)⟩, fun z => absurd z (by omega)⟩, g2⟩
    · obtain ⟨y, g1, g2⟩ := lt (N.1 603 8).toNat 0 0 (by omega) (Or.inl rfl) (fun z => absurd z (by decide)) (fun _ z => c1 z.1)
      exact ⟨y, w_m_find_1 WN (by omega) ⟨fun _ => ⟨fun z => absurd z c1, fun _ => g1⟩, fun z => absurd z (by omega)⟩, g2⟩
/-- both find the same -/
theorem rl_find {i : Nat} (hB : pu_Ba So tx n cnt E M N) (hL : pu_Lv E cnt M N i d s p) (hk : M.1 76 7 = 1) : ∃ x y : Int, nb_R nb_P 240 0 [(13, 76), (98, 0)] [] M = some ([(0, x)], M) ∧ nb_R nb_P 97 0 [(20, 603), (98, 0), (98, 0), (98, 0)] [] N = some ([(0, y)], N) ∧ ((x = -1 ∧ y = -1 ∧ ∀ i : Nat, (i : Int) < d + s + p → M.1 81 i ≠ M.1 76 8) ∨ (0 ≤ x ∧ x < d + s + p ∧ 0 ≤ y ∧ y = pu_sl (M.1 82 x) (M.1 83 x) ∧ pu_sot (M.1 82 x) (M.1 83 x) d s p)) := by
  have hL' := hL
  obtain ⟨l1, l2, l3, l4, l5, l6, l7, l8, l9, l10⟩ := hL'
  obtain ⟨W, WN, hSo, h764, hT, hn, htx, h3, h5⟩ := hB
  have rt : (1 ≤ N.1 603 8 ∧ N.1 603 8 ≤ 8) ∧ pu_abc (N.1 605) (N.1 603 8).toNat ∧ M.1 76 8 = pu_wv (N.1 605) (N.1 603 8).toNat := by
    rcases l8.2 with q | q | q | q | q | q <;> first | omega | (exact ⟨q.2.2.1, q.2.2.2.1, q.2.2.2.2.1⟩)
  obtain ⟨r1, r2, r3⟩ := rt
  obtain ⟨x, x1, x2⟩ := sp_rd_find (v1 := (98, 0)) W hSo h764 h5
  obtain ⟨y, y1, y2⟩ := sp_m_find WN r1
  obtain ⟨a1, a2, a3, a4, a5⟩ := l10
  refine ⟨x, y, x1, y1, ?_⟩
  have sl0 : ∀ i : Nat, (i : Int) < d + s + p → 0 ≤ pu_sl (M.1 82 i) (M.1 83 i) ∧ pu_sl (M.1 82 i) (M.1 83 i) < 18 := fun i hi => by
    have g := (a3 i hi).1
    unfold pu_sot at g
    rcases g with ⟨e, q⟩ | ⟨e, q⟩ | ⟨e, q⟩
    · rw [e, pu_sl_0]; omega
    · rw [e, pu_sl_1]; omega
    · rw [e, pu_sl_2]; omega
  -- a match of the reference's is an entry of the class's
  have mtE : ∀ m : Int, 0 ≤ m → m < 18 → pu_mt N m → ∃ i : Nat, (i : Int) < d + s + p ∧ pu_sl (M.1 82 i) (M.1 83 i) = m ∧ M.1 81 i = M.1 76 8 := fun m m0 m1 hm => by
    obtain ⟨i, i1, i2⟩ := a5 m m0 m1 hm.1
    have g := a3 i i1
    rw [i2] at g
    refine ⟨i, i1, i2, ?_⟩
    rw [g.2.2.2, r3, hm.2.1]
    exact pu_wv_congr _ (fun q hq => hm.2.2 q (by omega))
  rcases x2 with ⟨e, no⟩ | ⟨x0, xl, xe⟩
  · refine Or.inl ⟨e, ?_, fun i hi => no i (by omega)⟩
    rcases y2 with ⟨f, -⟩ | ⟨f, g⟩
    · exact f
    · obtain ⟨i, i1, -, i3⟩ := mtE y f.1 f.2 g
      exact absurd i3 (no i (by omega))
  · obtain ⟨xn, rfl⟩ : ∃ xn : Nat, x = xn := ⟨x.toNat, by omega⟩
    have gx := a3 xn (by omega)
    have s0 := sl0 xn (by omega)
    have mx : pu_mt N (pu_sl (M.1 82 xn) (M.1 83 xn)) := by
      have e := gx.2.2.2
      rw [xe, r3] at e
      obtain ⟨g1, g2⟩ := pu_wv_inj _ _ r2 gx.2.2.1 e
      exact ⟨by omega, by omega, fun q hq => (g2 q (by omega)).symm⟩
    refine Or.inr ⟨x0, by omega, ?_⟩
    rcases y2 with ⟨-, no⟩ | ⟨f, g⟩
    · have z := no (pu_sl (M.1 82 xn) (M.1 83 xn)).toNat (by omega)
      rw [show (((pu_sl (M.1 82 xn) (M.1 83 xn)).toNat : Nat) : Int) = pu_sl (M.1 82 xn) (M.1 83 xn) by omega] at z
      exact absurd mx z
    · obtain ⟨i, i1, i2, i3⟩ := mtE y f.1 f.2 g
      have ei : i = xn := by
        rcases Nat.lt_trichotomy i xn with q | q | q
        · exact absurd (i3.trans xe.symm) (a4 i xn q (by omega))
        · exact q
        · exact absurd (xe.trans i3.symm) (a4 xn i q i1)
      subst ei
      exact ⟨f.1, i2.symm, gx.1⟩
/-! a name must stand -/
theorem sp_m_mustName {i : Nat} (hB : pu_Ba So tx n cnt E M N) (hL : pu_Lv E cnt M N i d s p) : (M.1 76 7 = 1 → nb_R nb_P 96 0 [(20, 603), (98, 0)] [] N = some ([], N)) ∧ (M.1 76 7 ≠ 1 → ∀ N1, nb_R nb_P 92 0 [(20, 603), (0, 1), (0, N.1 603 4)] [] N = some ([], N1) → nb_Lay N1 → nb_R nb_P 96 0 [(20, 603), (98, 0)] [] N = some ([], N1)) := by
  have hL' := hL
  obtain ⟨l1, l2, l3, l4, l5, l6, l7, l8, l9, l10⟩ := hL'
  obtain ⟨W, WN, hSo, h764, hT, hn, htx, h3, h5⟩ := hB
  have w : ∀ k : Nat, 1 ≤ k → k ≤ 6 → ∃ y : Int, (y = 0 ∨ y = 1) ∧ (y = 1 ↔ ((M.1 76 7 = 1 ∨ M.1 76 7 = 2) ∧ M.1 76 8 = pu_tv k)) ∧ nb_R nb_P 93 0 [(20, 603), (2, (k : Int)), (98, 0), (98, 0)] [] N = some ([(0, y)], N) := fun k a b => by
    obtain ⟨y, y1, y2, y3⟩ := sp_m_isWord (v2 := (98, 0)) (v3 := (98, 0)) WN (pu_tok_at k a (by omega))
    exact ⟨y, y1, y2.trans (pu_isw_iff l8 l2 (pu_tok_at k a (by omega))), y3⟩
  obtain ⟨y1, b1, c1, e1⟩ := w 1 (by decide) (by decide)
  obtain ⟨y2, b2, c2, e2⟩ := w 2 (by decide) (by decide)
  obtain ⟨y3, b3, c3, e3⟩ := w 3 (by decide) (by decide)
  obtain ⟨y4, b4, c4, e4⟩ := w 4 (by decide) (by decide)
  obtain ⟨y5, b5, c5, e5⟩ := w 5 (by decide) (by decide)
  obtain ⟨y6, b6, c6, e6⟩ := w 6 (by decide) (by decide)
  have t1 : pu_tv ((1 : Nat) : Int) = pu_tv 60 := by decide +kernel
  have t2 : pu_tv ((2 : Nat) : Int) = pu_tv 61 := by decide +kernel
  have t3 : pu_tv ((3 : Nat) : Int) = pu_tv 62 := by decide +kernel
  have t4 : pu_tv ((4 : Nat) : Int) = pu_tv 63 := by decide +kernel
  have t5 : pu_tv ((5 : Nat) : Int) = pu_tv 64 := by decide +kernel
  have t6 : pu_tv ((6 : Nat) : Int) = pu_tv 65 := by decide +kernel
  rw [t1] at c1
  rw [t2] at c2
  rw [t3] at c3
  rw [t4] at c4
  rw [t5] at c5
  rw [t6] at c6
  constructor
  · intro hk
    have rt : N.1 603 6 = 2 ∧ ¬ pu_line (M.1 76 8) := by
      rcases l8.2 with q | q | q | q | q | q <;> first | omega | (exact ⟨q.2.1, fun z => absurd (q.2.2.2.2.2.2 z) (by omega)⟩)
    have nl := rt.2
    unfold pu_line at nl
    have z1 : y1 = 0 := by
      rcases b1 with q | q
      · exact q
      · exact absurd (Or.inl (c1.1 q).2) nl
    have z2 : y2 = 0 := by
      rcases b2 with q | q
      · exact q
      · exact absurd (Or.inr (Or.inl (c2.1 q).2)) nl
    have z3 : y3 = 0 := by
      rcases b3 with q | q
      · exact q
      · exact absurd (Or.inr (Or.inr (Or.inl (c3.1 q).2))) nl
    have z4 : y4 = 0 := by
      rcases b4 with q | q
      · exact q
      · exact absurd (Or.inr (Or.inr (Or.inr (Or.inl (c4.1 q).2)))) nl
    have z5 : y5 = 0 := by
      rcases b5 with q | q
      · exact q
      · exact absurd (Or.inr (Or.inr (Or.inr (Or.inr (Or.inl (c5.1 q).2))))) nl
    have z6 : y6 = 0 := by
      rcases b6 with q | q
      · exact q
      · exact absurd (Or.inr (Or.inr (Or.inr (Or.inr (Or.inr (c6.1 q).2))))) nl
    exact nb_Wq (w_m_mustName_0 WN (nb_Wp e1 ⟨y1, rfl, WN, fun _ => nb_Wp e2 ⟨y2, rfl, WN, fun _ => nb_Wp e3 ⟨y3, rfl, WN, fun _ => nb_Wp e4 ⟨y4, rfl, WN, fun _ => nb_Wp e5 ⟨y5, rfl, WN, fun _ => nb_Wp e6 ⟨y6, rfl, WN, fun _ => ⟨fun _ _ => ⟨rfl, rfl⟩, fun z => absurd rt.1 z⟩, fun z => absurd z6 z⟩, fun z => absurd z5 z⟩, fun z => absurd z4 z⟩, fun z => absurd z3 z⟩, fun z => absurd z2 z⟩, fun z => absurd z1 z⟩))
  · intro hk N1 hN1 WN1
    have fin : nb_W 92 0 [(20, 603), (0, 1), (0, N.1 603 4)] [] N (fun r M22 => r = [] ∧ nb_Lay M22 ∧ (nb_Lay M22 → (([] : List nb_V) = [] ∧ M22 = N1))) := nb_Wp hN1 ⟨rfl, WN1, fun _ => ⟨rfl, rfl⟩⟩
    -- the token is a word only if it is one of the six
    have rt : N.1 603 6 = 2 → y1 ≠ 0 ∨ y2 ≠ 0 ∨ y3 ≠ 0 ∨ y4 ≠ 0 ∨ y5 ≠ 0 ∨ y6 ≠ 0 := fun z => by
      have hl : M.1 76 7 = 2 ∧ pu_line (M.1 76 8) := by
        rcases l8.2 with q | q | q | q | q | q <;> first | omega | (exact ⟨by omega, q.2.2.2.2.2.1 (by omega)⟩)
      obtain ⟨k2, hl⟩ := hl
      rcases hl with q | q | q | q | q | q
      · exact Or.inl (by rw [c1.2 ⟨Or.inr k2, q⟩]; decide)
      · exact Or.inr (Or.inl (by rw [c2.2 ⟨Or.inr k2, q⟩]; decide))
      · exact Or.inr (Or.inr (Or.inl (by rw [c3.2 ⟨Or.inr k2, q⟩]; decide)))
      · exact Or.inr (Or.inr (Or.inr (Or.inl (by rw [c4.2 ⟨Or.inr k2, q⟩]; decide))))
      · exact Or.inr (Or.inr (Or.inr (Or.inr (Or.inl (by rw [c5.2 ⟨Or.inr k2, q⟩]; decide)))))
      · exact Or.inr (Or.inr (Or.inr (Or.inr (Or.inr (by rw [c6.2 ⟨Or.inr k2, q⟩]; decide)))))
    refine nb_Wq (w_m_mustName_0 WN (nb_Wp e1 ⟨y1, rfl, WN, fun z1 => nb_Wp e2 ⟨y2, rfl, WN, fun z2 => nb_Wp e3 ⟨y3, rfl, WN, fun z3 => nb_Wp e4 ⟨y4, rfl, WN, fun z4 => nb_Wp e5 ⟨y5, rfl, WN, fun z5 => nb_Wp e6 ⟨y6, rfl, WN, fun z6 => ⟨fun t => ?_, fun _ => fin⟩, fun _ => ⟨fun _ => fin, fun _ => fin⟩⟩, fun _ => ⟨fun _ => fin, fun _ => fin⟩⟩, fun _ => ⟨fun _ => fin, fun _ => fin⟩⟩, fun _ => ⟨fun _ => fin, fun _ => fin⟩⟩, fun _ => ⟨fun _ => fin, fun _ => fin⟩⟩, fun _ => ⟨fun _ => fin, fun _ => fin⟩⟩))
    exfalso
    have := rt t
    omega
/-- a name told -/
theorem rl_known {so lo hi : Int} (hs : (so = 0 ∧ lo = 0 ∧ hi = 4) ∨ (so = 2 ∧ lo = 8 ∧ hi = 17)) (h : pu_RL So tx n cnt E M N j d s p) : ∃ (x y : Int) (M1 N1 : nb_M), nb_R nb_P 241 0 [(13, 76), (0, so), (98, 0)] [] M = some ([(0, x)], M1) ∧ nb_R nb_P 99 0 [(20, 603), (0, lo), (0, hi), (98, 0)] [] N = some ([(0, y)], N1) ∧ pu_RL So tx n cnt E M1 N1 j d s p ∧ pu_cf M M1 ∧ pu_mf N N1 ∧ (M1.1 76 9 = 0 → M1.1 76 7 = 1 ∧ M.1 76 9 = 0 ∧ y = pu_sl so x ∧ 0 ≤ x ∧ ((so = 0 ∧ x < d) ∨ (so = 2 ∧ x < p))) ∧ (M1.1 76 9 ≠ 0 → x = -1 ∧ y = lo) := by
  obtain ⟨hB, h⟩ := h
  have hB' := hB
  obtain ⟨W, WN, hSo, h764, hT, hn, htx, h3, h5⟩ := hB'
  rcases h with ⟨i, hi', hL⟩ | hD
  · have hL' := hL
    obtain ⟨l1, l2, l3, l4, l5, l6, l7, l8, l9, l10⟩ := hL'
    have mn := sp_m_mustName hB hL
    by_cases k1 : M.1 76 7 = 1
    · obtain ⟨x, y, x1, y1, xy⟩ := rl_find hB hL k1
      have mn1 := mn.1 k1
      rcases xy with ⟨e, e2, no⟩ | ⟨x0, xl, y0, ye, xs⟩
      · obtain ⟨M1, N1, s1, s2, s3, s4, s5, s6⟩ := rl_fail (f := 2) (by decide) hB hL
        refine ⟨-1, lo, M1, N1, nb_Wq (w_rd_known_0 W hSo h764 (nb_Wp x1 ⟨x, rfl, W, h764, fun _ => ⟨fun _ => nb_Wp s1 ⟨rfl, s5.1, s5.2.2.2.trans h764, fun z => absurd z s4.1, fun _ _ => ⟨rfl, rfl⟩⟩, fun z => absurd z (by omega)⟩, fun z => absurd k1 z⟩)), ?_, ⟨s3, Or.inr s4⟩, s5, s6, fun z => absurd z s4.1, fun _ => ⟨rfl, rfl⟩⟩
        have f1 : N1.1 603 13 ≠ 0 := by have := s4.2.1; omega
        exact nb_Wq (w_m_named_0 WN ⟨fun _ => nb_Wp mn1 ⟨rfl, WN, fun _ => nb_Wp y1 ⟨y, rfl, WN, fun _ => nb_Wp s2 ⟨rfl, s6.1, fun z => absurd z f1, fun _ _ => ⟨rfl, rfl⟩⟩, fun z => absurd z (by omega)⟩, fun z => absurd l2 z⟩, fun z => absurd l2 z⟩)
      · have x18 : x < 18 := by have := l10.2.1; omega
        by_cases cs : M.1 82 x = so
        · have xs' := xs
          rw [cs] at xs' ye
          unfold pu_sot at xs'
          have yb : lo ≤ y ∧ y ≤ hi := by
            have := l10.2.1
            rcases hs with ⟨q1, q2, q3⟩ | ⟨q1, q2, q3⟩
            · rw [q1, pu_sl_0] at ye; omega
            · rw [q1, pu_sl_2] at ye; omega
          refine ⟨M.1 83 x, y, M, N, nb_Wq (w_rd_known_0 W hSo h764 (nb_Wp x1 ⟨x, rfl, W, h764, fun _ => ⟨fun z => absurd z (by omega), fun _ => ⟨x18, fun _ => ⟨fun _ _ => ⟨rfl, rfl⟩, fun z => absurd l1 z⟩, fun z => absurd cs z⟩⟩, fun z => absurd k1 z⟩)), ?_, ⟨hB, Or.inl ⟨i, hi', hL⟩⟩, pu_cf.id W, pu_mf.id WN, fun _ => ⟨k1, l1, ye, by omega, by omega⟩, fun z => absurd l1 z⟩
          exact nb_Wq (w_m_named_0 WN ⟨fun _ => nb_Wp mn1 ⟨rfl, WN, fun _ => nb_Wp y1 ⟨y, rfl, WN, fun z => absurd z (by omega), fun _ => ⟨fun z => absurd z (by omega), fun _ => ⟨fun _ _ => ⟨rfl, rfl⟩, fun z => absurd l2 z⟩⟩⟩, fun z => absurd l2 z⟩, fun z => absurd l2 z⟩)
        · obtain ⟨M1, N1, s1, s2, s3, s4, s5, s6⟩ := rl_fail (f := 2) (by decide) hB hL
          have f1 : N1.1 603 13 ≠ 0 := by have := s4.2.1; omega
          refine ⟨-1, lo, M1, N1, nb_Wq (w_rd_known_0 W hSo h764 (nb_Wp x1 ⟨x, rfl, W, h764, fun _ => ⟨fun z => absurd z (by omega), fun _ => ⟨x18, fun z => absurd z cs, fun _ => nb_Wp s1 ⟨rfl, s5.1, s5.2.2.2.trans h764, fun z => absurd z s4.1, fun _ _ => ⟨rfl, rfl⟩⟩⟩⟩, fun z => absurd k1 z⟩)), ?_, ⟨s3, Or.inr s4⟩, s5, s6, fun z => absurd z s4.1, fun _ => ⟨rfl, rfl⟩⟩
          have yb : y < lo ∨ hi < y := by
            have := l10.2.1
            unfold pu_sot at xs
            rcases xs with ⟨q, q2⟩ | ⟨q, q2⟩ | ⟨q, q2⟩
            · rw [q, pu_sl_0] at ye; omega
            · rw [q, pu_sl_1] at ye; omega
            · rw [q, pu_sl_2] at ye; omega
          exact nb_Wq (w_m_named_0 WN ⟨fun _ => nb_Wp mn1 ⟨rfl, WN, fun _ => nb_Wp y1 ⟨y, rfl, WN, fun _ => nb_Wp s2 ⟨rfl, s6.1, fun z => absurd z f1, fun _ _ => ⟨rfl, rfl⟩⟩, fun _ => ⟨fun _ => nb_Wp s2 ⟨rfl, s6.1, fun z => absurd z f1, fun _ _ => ⟨rfl, rfl⟩⟩, fun z => absurd z (by omega)⟩⟩, fun z => absurd l2 z⟩, fun z => absurd l2 z⟩)
    · obtain ⟨M1, N1, s1, s2, s3, s4, s5, s6⟩ := rl_fail (f := 1) (by decide) hB hL
      have f1 : N1.1 603 13 ≠ 0 := by have := s4.2.1; omega
      obtain ⟨x, x1, -⟩ := sp_rd_find (v1 := (98, 0)) W hSo h764 h5
      refine ⟨-1, lo, M1, N1, nb_Wq (w_rd_known_0 W hSo h764 (nb_Wp x1 ⟨x, rfl, W, h764, fun z => absurd z k1, fun _ => nb_Wp s1 ⟨rfl, s5.1, s5.2.2.2.trans h764, fun z => absurd z s4.1, fun _ _ => ⟨rfl, rfl⟩⟩⟩)), ?_, ⟨s3, Or.inr s4⟩, s5, s6, fun z => absurd z s4.1, fun _ => ⟨rfl, rfl⟩⟩
      exact nb_Wq (w_m_named_0 WN ⟨fun _ => nb_Wp (mn.2 k1 N1 s2 s6.1) ⟨rfl, s6.1, fun z => absurd z f1, fun _ _ => ⟨rfl, rfl⟩⟩, fun z => absurd l2 z⟩)
  · obtain ⟨x, x1, x2⟩ := sp_rd_find (v1 := (98, 0)) W hSo h764 h5
    have f1 : N.1 603 13 ≠ 0 := by have := hD.2.1; omega
    have df : ∀ f, nb_R nb_P 226 0 [(13, 76), (0, f)] [] M = some ([], M) := fun f => dd_fail W hSo h764 hD.1
    have x18 : x < 18 := by omega
    refine ⟨-1, lo, M, N, nb_Wq (w_rd_known_0 W hSo h764 (nb_Wp x1 ⟨x, rfl, W, h764, fun _ => ⟨fun _ => nb_Wp (df 2) ⟨rfl, W, h764, fun z => absurd z hD.1, fun _ _ => ⟨rfl, rfl⟩⟩, fun _ => ⟨x18, fun _ => ⟨fun z => absurd z hD.1, fun _ _ => ⟨rfl, rfl⟩⟩, fun _ => nb_Wp (df 2) ⟨rfl, W, h764, fun z => absurd z hD.1, fun _ _ => ⟨rfl, rfl⟩⟩⟩⟩, fun _ => nb_Wp (df 1) ⟨rfl, W, h764, fun z => absurd z hD.1, fun _ _ => ⟨rfl, rfl⟩⟩⟩)), nb_Wq (w_m_named_0 WN ⟨fun z => absurd z f1, fun _ _ => ⟨rfl, rfl⟩⟩), ⟨hB, Or.inr hD⟩, pu_cf.id W, pu_mf.id WN, fun z => absurd z hD.1, fun _ => ⟨rfl, rfl⟩⟩
