/-! SETS AS NUMBERS: the fewest liars -/
def pu_valn (s : Int) : Nat → Int
  | 0 => 0
  | n + 1 => pu_valn s n + (if pu_bit s n then nb_shl 1 n else 0)
theorem pu_val_all : ∀ s : Nat, s < 1024 → pu_valn s 10 = s := by decide +kernel
theorem pu_hi_all : ∀ s : Nat, s < 1024 → ∀ i : Nat, i < 32 → 10 ≤ i → bt (Int32.ofInt (s : Nat)) i = false := by decide +kernel
theorem pu_nat_all : ∀ s : Nat, s < 1024 → (Int32.ofInt (s : Nat)).toBitVec.toNat = s := by decide +kernel
theorem pu_full : ∀ n : Nat, n ≤ 10 → ∀ k : Nat, k < n → pu_bit (nb_shl 1 n - 1) k := by decide +kernel
theorem pu_full2 : ∀ n : Nat, n ≤ 10 → ∀ k : Nat, k < 10 → pu_bit (nb_shl 1 n - 1) k → k < n := by decide +kernel
theorem pu_ones_lt : ∀ s : Nat, s < 1024 → ∀ n : Nat, n ≤ 10 → True := fun _ _ _ _ => trivial
/-- one set within another -/
def pu_sub (x y : Int) : Prop := ∀ k : Nat, k < 10 → pu_bit x k → pu_bit y k
theorem pu_sub_n {x y : Int} (h : pu_sub x y) : ∀ n : Nat, n ≤ 10 → pu_valn x n ≤ pu_valn y n ∧ pu_onesn x n ≤ pu_onesn y n ∧ (pu_onesn x n = pu_onesn y n → pu_valn x n = pu_valn y n)
  | 0, _ => ⟨Int.le_refl _, Int.le_refl _, fun _ => rfl⟩
  | n + 1, hn => by
    obtain ⟨a, b, c⟩ := pu_sub_n h n (by omega)
    have hp := pu_pow10 n (by omega)
    have hxy := h n (by omega)
    unfold pu_valn pu_onesn
    rcases pu_bit_01 (s := x) (k := n) (by omega) with x0 | x1
    · rw [if_neg (show ¬ pu_bit x n from fun z => by unfold pu_bit at z; omega), x0]
      rcases pu_bit_01 (s := y) (k := n) (by omega) with y0 | y1
      · rw [if_neg (show ¬ pu_bit y n from fun z => by unfold pu_bit at z; omega), y0]
        exact ⟨by omega, by omega, fun z => by have := c (by omega); omega⟩
      · rw [if_pos (show pu_bit y n from y1), y1]
        exact ⟨by omega, by omega, fun z => by omega⟩
    · have y1 : pu_bit y n := hxy x1
      rw [if_pos (show pu_bit x n from x1), x1, if_pos y1, show nb_and (nb_shr y n) 1 = 1 from y1]
      exact ⟨by omega, by omega, fun z => by have := c (by omega); omega⟩
theorem pu_sub_le {x y : Int} (hx : 0 ≤ x ∧ x < 1024) (hy : 0 ≤ y ∧ y < 1024) (h : pu_sub x y) : x ≤ y ∧ pu_ones x ≤ pu_ones y ∧ (pu_ones x = pu_ones y → x = y) := by
  obtain ⟨m, rfl⟩ : ∃ m : Nat, x = m := ⟨x.toNat, by omega⟩
  obtain ⟨n, rfl⟩ : ∃ m : Nat, y = m := ⟨y.toNat, by omega⟩
  obtain ⟨a, b, c⟩ := pu_sub_n h 10 (Nat.le_refl _)
  rw [pu_val_all m (by omega), pu_val_all n (by omega)] at a c
  exact ⟨a, b, c⟩
theorem pu_and_rg {x y : Int} (hy : 0 ≤ y ∧ y < 1024) : 0 ≤ nb_and x y ∧ nb_and x y < 1024 := by
  obtain ⟨n, rfl⟩ : ∃ m : Nat, y = m := ⟨y.toNat, by omega⟩
  have hn := pu_nat_all n (by omega)
  have h : (Int32.ofInt x &&& Int32.ofInt (n : Nat)).toBitVec.toNat ≤ n := by
    rw [Int32.toBitVec_and, BitVec.toNat_and]
    exact Nat.le_trans Nat.and_le_right (by omega)
  have h2 : nb_and x n = ((Int32.ofInt x &&& Int32.ofInt (n : Nat)).toBitVec.toNat : Int) := by
    unfold nb_and
    show (Int32.ofInt x &&& Int32.ofInt (n : Nat)).toBitVec.toInt = _
    rw [BitVec.toInt_eq_toNat_of_lt (by omega)]
  omega
/-- the class's test for it -/
theorem pu_sub_test {x y : Int} (hx : 0 ≤ x ∧ x < 1024) : nb_and x (nb_xor y (-1)) = 0 ↔ pu_sub x y := by
  constructor
  · intro h k hk hb
    by_cases c : pu_bit y k
    · exact c
    · have g := (pu_bit_and2 (x := x) (y := nb_xor y (-1)) (q := k) (by omega)).2 ⟨hb, (pu_bit_not (by omega)).2 c⟩
      rw [h] at g
      exact absurd g (pu_bit_0 (by omega))
  · intro h
    obtain ⟨m, rfl⟩ : ∃ m : Nat, x = m := ⟨x.toNat, by omega⟩
    unfold nb_and nb_xor
    rw [nb_o32]
    have e : Int32.ofInt (m : Nat) &&& (Int32.ofInt y ^^^ Int32.ofInt (-1)) = 0 := b_ext (fun i hi => by
      rw [b_and, b_xor, show Int32.ofInt (-1) = -1 from by decide, b_m1 i hi, b_0]
      by_cases c : i < 10
      · by_cases d : bt (Int32.ofInt (m : Nat)) i = true
        · have g := h i c ((pu_bit_iff (by omega)).2 d)
          rw [(pu_bit_iff (by omega)).1 g]
          simp
        · simp [d]
      · rw [pu_hi_all m (by omega) i hi (by omega)]
        simp)
    rw [e]
    rfl
/-- who tells anything -/
def pu_al (r : Int → Int) : Nat → Int
  | 0 => 0
  | n + 1 => nb_or (pu_al r n) (nb_shl 1 (r (161 + 3 * n)))
theorem pu_al_ok {r : Int → Int} (hT : ∀ k, 0 ≤ k → k < 8 → 0 ≤ r (161 + 3 * k) ∧ r (161 + 3 * k) ≤ 9) : ∀ n : Nat, n ≤ 8 → (0 ≤ pu_al r n ∧ pu_al r n < 1024) ∧ ∀ k : Nat, k < 31 → (pu_bit (pu_al r n) k ↔ ∃ i : Nat, i < n ∧ r (161 + 3 * i) = k)
  | 0, _ => ⟨by unfold pu_al; omega, fun k hk => ⟨fun z => absurd z (pu_bit_0 (by omega)), fun ⟨i, hi, _⟩ => absurd hi (by omega)⟩⟩
  | n + 1, hn => by
    obtain ⟨a, b⟩ := pu_al_ok hT n (by omega)
    have g := hT n (by omega) (by omega)
    obtain ⟨m, hm⟩ : ∃ m : Nat, pu_al r n = m := ⟨(pu_al r n).toNat, by omega⟩
    obtain ⟨q, hq⟩ : ∃ m : Nat, r (161 + 3 * (n : Int)) = m := ⟨(r (161 + 3 * (n : Int))).toNat, by omega⟩
    unfold pu_al
    refine ⟨?_, fun k hk => ?_⟩
    · rw [hm, hq]
      exact pu_or_rg m (by omega) q (by omega)
    · rw [pu_bit_or2 (by omega), b k hk, hq, pu_bit_shl (by omega) (by omega)]
      constructor
      · rintro (⟨i, i1, i2⟩ | z)
        · exact ⟨i, by omega, i2⟩
        · exact ⟨n, by omega, by omega⟩
      · rintro ⟨i, i1, i2⟩
        by_cases e : i = n
        · subst e
          exact Or.inr (by omega)
        · exact Or.inl ⟨i, by omega, i2⟩
theorem pu_wok_congr {r : Int → Int} {s t : Int} (h : ∀ i : Nat, i < (r 7).toNat → (pu_bit s (r (161 + 3 * i)) ↔ pu_bit t (r (161 + 3 * i)))) : (pu_wok r s ↔ pu_wok r t) ∧ pu_wz r s = pu_wz r t := by
  have e : pu_w0 r s (r 7).toNat = pu_w0 r t (r 7).toNat := by
    funext p q
    unfold pu_w0
    refine propext ⟨?_, ?_⟩
    · rintro ⟨i, a, b, c, d⟩
      exact ⟨i, a, fun z => b ((h i a).2 z), c, d⟩
    · rintro ⟨i, a, b, c, d⟩
      exact ⟨i, a, fun z => b ((h i a).1 z), c, d⟩
  have e2 : pu_wz r s = pu_wz r t := by
    unfold pu_wz
    rw [e]
  refine ⟨?_, e2⟩
  unfold pu_wok
  rw [e2]
theorem pu_wf_none {W : Int → Int → Prop} (h : ∀ p q, ¬ W p q) : ∀ (n : Nat) (p q : Int), ¬ pu_wf W n p q
  | 0, p, q => h p q
  | n + 1, p, q => fun z => z.elim (pu_wf_none h n p q) (fun z => pu_wf_none h n p n z.1)
theorem pu_wok_all {r : Int → Int} {s : Int} (h : ∀ i : Nat, i < (r 7).toNat → pu_bit s (r (161 + 3 * i))) : pu_wok r s := fun p _ _ => pu_wf_none (fun p q ⟨i, a, b, _⟩ => b (h i a)) 10 p p
/-- what the class finds, what the reference finds -/
def pu_bC (r : Int → Int) (A C : Int) (n : Int) : Prop := pu_wok r C ∧ pu_sub C A ∧ (0 ≤ C ∧ C ≤ A) ∧ (C = A ∨ (C < n ∧ C < A ∧ ∀ t, 0 ≤ t → t < C → pu_sub t A → pu_wok r t → pu_ones C < pu_ones t)) ∧ ∀ t, 0 ≤ t → t < n → t < A → pu_sub t A → pu_wok r t → pu_ones C ≤ pu_ones t
def pu_bM (r : Int → Int) (P R : Int) (n : Int) : Prop := pu_wok r R ∧ (0 ≤ R ∧ R ≤ P) ∧ (R = P ∨ (R < n ∧ ∀ t, 0 ≤ t → t < R → pu_wok r t → pu_ones R < pu_ones t)) ∧ ∀ t, 0 ≤ t → t < n → pu_wok r t → pu_ones R ≤ pu_ones t
theorem pu_b_eq {r : Int → Int} {A P C R : Int} (hA : 0 ≤ A ∧ A < 1024) (hP : 0 ≤ P ∧ P < 1024) (hAP : pu_sub A P) (hall : ∀ i : Nat, i < (r 7).toNat → ∃ k : Nat, k < 10 ∧ r (161 + 3 * i) = k ∧ pu_bit A k) (hc : pu_bC r A C A) (hm : pu_bM r P R (P + 1)) : C = R := by
  obtain ⟨c1, c2, c3, c4, c5⟩ := hc
  obtain ⟨m1, m2, m3, m4⟩ := hm
  have hAP' := pu_sub_le hA hP hAP
  have h1 := m4 C c3.1 (by omega) c1
  -- the reference's is among the tellers
  have hS := pu_and_rg (x := R) hA
  have sub1 : pu_sub (nb_and R A) R := fun k hk z => ((pu_bit_and2 (by omega)).1 z).1
  have sub2 : pu_sub (nb_and R A) A := fun k hk z => ((pu_bit_and2 (by omega)).1 z).2
  have s1 := pu_sub_le hS (show 0 ≤ R ∧ R < 1024 by omega) sub1
  have okS : pu_wok r (nb_and R A) := (pu_wok_congr (s := R) (fun i hi => by
    obtain ⟨k, k1, k2, k3⟩ := hall i hi
    rw [k2, pu_bit_and2 (by omega)]
    exact ⟨fun z => ⟨z, k3⟩, fun z => z.1⟩)).1.1 m1
  have h2 := m4 (nb_and R A) hS.1 (by omega) okS
  have eS : nb_and R A = R := s1.2.2 (by omega)
  rw [eS] at sub2
  have hRA := pu_sub_le (show 0 ≤ R ∧ R < 1024 by omega) hA sub2
  have hCA := pu_sub_le (show 0 ≤ C ∧ C < 1024 by omega) hA c2
  have h3 : pu_ones C ≤ pu_ones R := by
    by_cases e : R = A
    · rw [e]; exact hCA.2.1
    · exact c5 R m2.1 (by omega) (by omega) sub2 m1
  have h4 : pu_ones C = pu_ones R := by omega
  rcases m3 with e | ⟨-, m3⟩
  · have : R = A := by omega
    rw [this]
    exact hCA.2.2 (by rw [← this]; exact h4)
  · have h5 : R ≤ C := by
      by_cases z : C < R
      · have := m3 C c3.1 z c1
        omega
      · omega
    rcases c4 with e | ⟨-, c6, c4⟩
    · have := hRA.2.2 (by rw [← e]; omega)
      omega
    · by_cases z : R < C
      · have := c4 R m2.1 z sub2 m1
        omega
      · omega
theorem sp_tl_fewest {M N : nb_M} {k tr Ho : Int} {v2 v3 v4 v5 : nb_V} (h : pu_I M k) (hx2 : M.1 2 2 = Ho) (hq : pu_CQ M N tr) : nb_W 280 0 [(17, 142), (12, Ho), v2, v3, v4, v5] [] N (fun r' N' => ∃ C : Int, r' = [(0, C)] ∧ pu_CQ M N' tr ∧ pu_bC (M.1 606) (pu_al (M.1 606) (M.1 606 7).toNat) C (pu_al (M.1 606) (M.1 606 7).toNat)) := by
  obtain ⟨Ho', hHo, hx2', hx3, hh, hSn, hT, h14, h7, hL⟩ := pu_I_at h
  have eH : Ho' = Ho := hx2'.symm.trans hx2
  subst eH
  have hr := hT.1
  have n7 := hr.2.2.2.2.2.2.2.2
  have hTl : ∀ k, 0 ≤ k → k < 8 → 0 ≤ M.1 606 (161 + 3 * k) ∧ M.1 606 (161 + 3 * k) ≤ 9 := fun k a b => (hT.2.2.2.2.1 k a b).1
  obtain ⟨a1, a2⟩ := pu_al_ok hTl (M.1 606 7).toNat (by omega)
  refine w_tl_fewestLiars_0 hq.1 hHo ?_
  generalize hA : pu_al (M.1 606) (M.1 606 7).toNat = A at *
  have okA : pu_wok (M.1 606) A := pu_wok_all (fun i hi => by
    have g := hTl i (by omega) (by omega)
    obtain ⟨m, hm⟩ : ∃ m : Nat, M.1 606 (161 + 3 * (i : Int)) = m := ⟨(M.1 606 (161 + 3 * (i : Int))).toNat, by omega⟩
    rw [hm]
    exact (a2 m (by omega)).2 ⟨i, hi, hm⟩)
  have l4 : ∀ (n j : Nat), (j : Int) + n = A → ∀ N v5 C, pu_CQ M N tr → pu_bC (M.1 606) A C j → nb_W 280 4 [(17, 142), (12, Ho'), (0, A), (0, C), (0, (j : Int)), v5] [] N (fun r' N' => ∃ C : Int, r' = [(0, C)] ∧ pu_CQ M N' tr ∧ pu_bC (M.1 606) A C A) := by
    intro n
    induction n with
    | zero =>
      intro j hj N v5 C q hc
      have ej : (j : Int) = A := by omega
      refine w_tl_fewestLiars_4 q.1 hHo (by omega) ⟨fun z => absurd z (by omega), fun _ _ => ⟨C, rfl, q, ?_⟩⟩
      rw [ej] at hc
      exact hc
    | succ n ih =>
      intro j hj N v5 C q hc
      have stay : (pu_sub j A → pu_wok (M.1 606) j → pu_ones C ≤ pu_ones j) → pu_bC (M.1 606) A C ((j + 1 : Nat) : Int) := fun z => by
        obtain ⟨c1, c2, c3, c4, c5⟩ := hc
        refine ⟨c1, c2, c3, c4.elim Or.inl (fun w => Or.inr ⟨by omega, w.2⟩), fun t t0 t1 t2 t3 t4 => ?_⟩
        by_cases e : t = j
        · subst e
          exact z t3 t4
        · exact c5 t t0 (by omega) t2 t3 t4
      obtain ⟨c1, c2, c3, c4, c5⟩ := hc
      refine w_tl_fewestLiars_4 q.1 hHo (by omega) ⟨fun _ => ⟨fun c => ⟨by omega, by omega, by omega, by omega, fun d => ?_, fun d => ?_⟩, fun c => ?_⟩, fun z => absurd z (by omega)⟩
      · have hsub := (pu_sub_test (by omega)).1 c
        refine nb_W.imp (sp_tl_agree h hx2 q) ?_
        rintro r' N' ⟨x, rfl, hx, hxk, q', -⟩
        refine ⟨x, rfl, q'.1, fun z => ?_, fun z => ?_⟩
        · exact ih (j + 1) (by omega) N' _ C q' (stay (fun _ w => absurd (hxk.2 w) (by omega)))
        · have okj := hxk.1 (by omega)
          refine ih (j + 1) (by omega) N' _ j q' ⟨okj, hsub, by omega, Or.inr ⟨by omega, by omega, fun t t0 t1 t3 t4 => ?_⟩, fun t t0 t1 t2 t3 t4 => ?_⟩
          · have := c5 t t0 t1 (by omega) t3 t4
            omega
          · by_cases e : t = j
            · subst e
              exact Int.le_refl _
            · have := c5 t t0 (by omega) t2 t3 t4
              omega
      · exact ih (j + 1) (by omega) N _ C q (stay (fun _ _ => d))
      · exact ih (j + 1) (by omega) N _ C q (stay (fun w _ => absurd ((pu_sub_test (by omega)).2 w) c))
  suffices l1 : ∀ (n j : Nat), (j : Int) + n = M.1 606 7 → nb_W 280 1 [(17, 142), (12, Ho'), (0, pu_al (M.1 606) j), (0, (j : Int)), v4, v5] [] N (fun r' N' => ∃ C : Int, r' = [(0, C)] ∧ pu_CQ M N' tr ∧ pu_bC (M.1 606) A C A) from l1 (M.1 606 7).toNat 0 (by omega)
  intro n
  have hN := hq.ho hHo hr hh
  have o := hN.1
  induction n with
  | zero =>
    intro j hj
    refine w_tl_fewestLiars_1 hq.1 hHo (by omega) ?_
    rw [o.2.2.2.2.2.2]
    refine ⟨by omega, by omega, fun z => absurd z (by omega), fun _ => ?_⟩
    rw [show j = (M.1 606 7).toNat by omega, hA]
    exact l4 A.toNat 0 (by omega) N _ A hq ⟨okA, fun _ _ z => z, by omega, Or.inl rfl, fun t t0 t1 => absurd t1 (by omega)⟩
  | succ n ih =>
    intro j hj
    obtain ⟨t1, t2, t3⟩ := hN.2.2.2.2.2.2 j (by omega) (by omega)
    refine w_tl_fewestLiars_1 hq.1 hHo (by omega) ?_
    rw [o.2.2.2.2.2.2, t1]
    exact ⟨by omega, by omega, fun _ => ih (j + 1) (by omega), fun z => absurd z (by omega)⟩
theorem sp_m_liarsOf {M N : nb_M} {S C : Int → Int} {v1 v2 : nb_V} (hT : pu_T (M.1 606)) (hq : pu_MM M N S C) : nb_W 196 0 [(20, 603), v1, v2] [] N (fun r' N' => ∃ R : Int, r' = [(0, R)] ∧ pu_MM M N' S C ∧ pu_bM (M.1 606) (nb_shl 1 (M.1 606 5) - 1) R (nb_shl 1 (M.1 606 5) - 1 + 1)) := by
  have hr := hT.1
  have n5 := hr.2.2.2.2.2.2.1
  have n7 := hr.2.2.2.2.2.2.2.2
  have hsh := pu_shl_rg n5
  obtain ⟨m, hm⟩ : ∃ m : Nat, M.1 606 5 = m := ⟨(M.1 606 5).toNat, by omega⟩
  have okP : pu_wok (M.1 606) (nb_shl 1 (M.1 606 5) - 1) := pu_wok_all (fun i hi => by
    have g := hT.2.2.2.2.2.1 i (by omega) (by omega)
    have g2 := (hT.2.2.2.2.1 i (by omega) (by omega)).1
    obtain ⟨q, hq⟩ : ∃ q : Nat, M.1 606 (161 + 3 * (i : Int)) = q := ⟨(M.1 606 (161 + 3 * (i : Int))).toNat, by omega⟩
    rw [hq, hm]
    exact pu_full m (by omega) q (by omega))
  refine w_m_liarsOf_0 hq.1 ?_
  rw [hq.r]
  generalize hP : nb_shl 1 (M.1 606 5) - 1 = P at *
  refine ⟨by omega, by omega, by omega, by omega, ?_⟩
  suffices hl : ∀ (n j : Nat), (j : Int) + n = P + 1 → ∀ N R, pu_MM M N S C → pu_bM (M.1 606) P R j → nb_W 196 2 [(20, 603), (0, R), (0, (j : Int))] [] N (fun r' N' => ∃ R : Int, r' = [(0, R)] ∧ pu_MM M N' S C ∧ pu_bM (M.1 606) P R (P + 1)) from hl (P + 1).toNat 0 (by omega) N P hq ⟨okP, by omega, Or.inl rfl, fun t t0 t1 => absurd t1 (by omega)⟩
  intro n
  induction n with
  | zero =>
    intro j hj N R q hc
    have ej : (j : Int) = P + 1 := by omega
    refine w_m_liarsOf_2 q.1 (by omega) ?_
    rw [q.r, hP]
    refine ⟨by omega, by omega, by omega, by omega, fun _ _ => ⟨R, rfl, q, ?_⟩, fun z => absurd z (by omega)⟩
    rw [ej] at hc
    exact hc
  | succ n ih =>
    intro j hj N R q hc
    have stay : (pu_wok (M.1 606) j → pu_ones R ≤ pu_ones j) → pu_bM (M.1 606) P R ((j + 1 : Nat) : Int) := fun z => by
      obtain ⟨c1, c3, c4, c5⟩ := hc
      refine ⟨c1, c3, c4.elim Or.inl (fun w => Or.inr ⟨by omega, w.2⟩), fun t t0 t1 t4 => ?_⟩
      by_cases e : t = j
      · subst e
        exact z t4
      · exact c5 t t0 (by omega) t4
    obtain ⟨c1, c3, c4, c5⟩ := hc
    refine w_m_liarsOf_2 q.1 (by omega) ?_
    rw [q.r, hP]
    refine ⟨by omega, by omega, by omega, by omega, fun z => absurd z (by omega), fun _ => ⟨fun d => ?_, fun d => ?_⟩⟩
    · refine nb_W.imp (sp_m_layTellings hT q) ?_
      rintro r' N' ⟨x, rfl, hx, hxk, q', -⟩
      refine ⟨x, rfl, q'.1, fun z => ?_, fun z => ?_⟩
      · exact ih (j + 1) (by omega) N' R q' (stay (fun w => absurd (hxk.2 w) (by omega)))
      · have okj := hxk.1 (by omega)
        refine ih (j + 1) (by omega) N' j q' ⟨okj, by omega, Or.inr ⟨by omega, fun t t0 t1 t4 => ?_⟩, fun t t0 t1 t4 => ?_⟩
        · have := c5 t t0 t1 t4
          omega
        · by_cases e : t = j
          · subst e
            exact Int.le_refl _
          · have := c5 t t0 (by omega) t4
            omega
    · exact ih (j + 1) (by omega) N R q (stay (fun _ => d))
theorem pu_liars_eq {M : nb_M} {k C R : Int} (h : pu_I M k) (hc : pu_bC (M.1 606) (pu_al (M.1 606) (M.1 606 7).toNat) C (pu_al (M.1 606) (M.1 606 7).toNat)) (hm : pu_bM (M.1 606) (nb_shl 1 (M.1 606 5) - 1) R (nb_shl 1 (M.1 606 5) - 1 + 1)) : C = R := by
  obtain ⟨Ho, hHo, hx2, hx3, hh, hSn, hT, h14, h7, hL⟩ := pu_I_at h
  have hr := hT.1
  have n5 := hr.2.2.2.2.2.2.1
  have n7 := hr.2.2.2.2.2.2.2.2
  have hsh := pu_shl_rg n5
  have hTl : ∀ k, 0 ≤ k → k < 8 → 0 ≤ M.1 606 (161 + 3 * k) ∧ M.1 606 (161 + 3 * k) ≤ 9 := fun k a b => (hT.2.2.2.2.1 k a b).1
  obtain ⟨a1, a2⟩ := pu_al_ok hTl (M.1 606 7).toNat (by omega)
  obtain ⟨m, hm5⟩ : ∃ m : Nat, M.1 606 5 = m := ⟨(M.1 606 5).toNat, by omega⟩
  refine pu_b_eq a1 (by omega) (fun q hq z => ?_) (fun i hi => ?_) hc hm
  · obtain ⟨i, i1, i2⟩ := (a2 q (by omega)).1 z
    have g := (hT.2.2.2.2.2.1 i (by omega) (by omega)).1
    rw [hm5]
    exact pu_full m (by omega) q (by omega)
  · have g := hTl i (by omega) (by omega)
    obtain ⟨q, hq⟩ : ∃ q : Nat, M.1 606 (161 + 3 * (i : Int)) = q := ⟨(M.1 606 (161 + 3 * (i : Int))).toNat, by omega⟩
    exact ⟨q, by omega, hq, (a2 q (by omega)).2 ⟨i, hi, hq⟩⟩
theorem pa_liars : pu_pair 60 [(19, 2)] 197 [(20, 603)] := by
  apply pu_pair_r
  intro M k hI hk0 hk1
  obtain ⟨Ho, hHo, hx2, hx3, hh, hSn, hT, -, h7, hL⟩ := pu_I_at hI
  have hr := hT.1
  have n5 := hr.2.2.2.2.2.2.1
  have h14 := pu_house hI
  have o := hh.1
  refine w_c_liars_0 hL hHo hx2 ?_
  rw [o.2.2.2.2.1]
  refine ⟨by omega, by omega, fun c => ?_, fun c _ => ?_⟩
  · refine nb_W.imp (sp_tl_fewest hI hx2 (pu_CQ_g hL)) ?_
    rintro r' M1 ⟨C, rfl, hq, hc⟩
    refine ⟨C, rfl, hq.1, hq.x2 hx2, fun _ => ⟨C, 0, rfl, hq, fun z => absurd z (by decide), ?_⟩⟩
    obtain ⟨b3, b6, b8, b9, b12, b13, h7', -⟩ := pu_CQ_ref hI hq
    refine w_m_liars_0 hq.1 ?_
    rw [b3]
    refine ⟨by omega, by omega, fun z => absurd z (by omega), fun _ => ?_⟩
    refine nb_W.imp (sp_m_liarsOf (by rw [b6]; exact hT) (pu_MM_g hq.1)) ?_
    rintro r2 M2 ⟨R, rfl, q, hm⟩
    rw [b6] at hm
    have e := pu_liars_eq hI hc hm
    subst e
    exact ⟨_, rfl, q.1, fun _ => ⟨rfl, q.mq h7'⟩⟩
  · have hq : pu_CQ M (nb_wr M 2 15 1) 1 := pu_CQ_g hL
    refine ⟨-1, 1, rfl, hq, fun z => absurd z (by decide), ?_⟩
    obtain ⟨b3, b6, b8, b9, b12, b13, h7', -⟩ := pu_CQ_ref hI hq
    refine w_m_liars_0 hq.1 ?_
    rw [b3]
    exact ⟨by omega, by omega, fun _ hL' => ⟨rfl, pu_MQ_no h7' hL'⟩, fun z => absurd z (by omega)⟩
theorem pa_surely (p q : Int) : pu_pair 61 [(19, 2), (0, p), (0, q)] 198 [(20, 603), (0, p), (0, q)] := by
  apply pu_pair_r
  intro M k hI hk0 hk1
  obtain ⟨Ho, hHo, hx2, hx3, hh, hSn, hT, -, h7, hL⟩ := pu_I_at hI
  have hr := hT.1
  have n5 := hr.2.2.2.2.2.2.1
  have h14 := pu_house hI
  have o := hh.1
  by_cases hp : 0 ≤ p ∧ p < M.1 606 5 ∧ 0 ≤ q ∧ q < M.1 606 5 ∧ p ≠ q
  case neg =>
    have hq : pu_CQ M (nb_wr M 2 15 1) 1 := pu_CQ_g hL
    obtain ⟨b3, b6, b8, b9, b12, b13, h7', -⟩ := pu_CQ_ref hI hq
    have ref : nb_W 198 0 [(20, 603), (0, p), (0, q)] [] (nb_wr M 2 15 1) (fun r2 M2 => r2 = [(0, -1)] ∧ pu_MQ (nb_wr M 2 15 1) M2 1) := by
      refine w_m_surely_0 hq.1 ?_
      rw [b3, b6]
      repeat' (first | assumption | with_reducible apply And.intro | intro _)
      all_goals (first | omega | (exfalso; omega) | rfl | exact pu_MQ_no h7' (by assumption))
    refine w_c_surely_0 hL hHo hx2 ?_
    rw [o.2.2.2.2.1]
    repeat' (first | assumption | with_reducible apply And.intro | intro _)
    all_goals first
      | omega
      | (exfalso; omega)
      | exact ⟨-1, 1, rfl, hq, fun z => absurd z (by decide), ref⟩
  refine w_c_surely_0 hL hHo hx2 ?_
  rw [o.2.2.2.2.1]
  repeat' (first | assumption | with_reducible apply And.intro | intro _)
  all_goals try (first | omega | (exfalso; omega))
  refine w_tl_follows_0 (pu_CQ_g (t := 0) hL).1 hHo ?_
  refine nb_W.imp (sp_tl_fewest hI hx2 (pu_CQ_g hL)) ?_
  rintro r' N1 ⟨C, rfl, q1, hc⟩
  refine ⟨C, rfl, q1.1, ?_⟩
  refine nb_W.imp (sp_tl_agree hI hx2 q1) ?_
  rintro r' N2 ⟨x, rfl, -, -, hq, hb⟩
  have hbit := hb p q (by omega) (by omega) (by omega) (by omega)
  obtain ⟨b3, b6, b8, b9, b12, b13, h7', -⟩ := pu_CQ_ref hI hq
  have ref : ∀ v : Int, ((v = 0 ∧ ¬ pu_wz (M.1 606) C p q) ∨ (v = 1 ∧ pu_wz (M.1 606) C p q)) → nb_W 198 0 [(20, 603), (0, p), (0, q)] [] N2 (fun r2 M2 => r2 = [(0, v)] ∧ pu_MQ N2 M2 0) := by
    intro v hv
    refine w_m_surely_0 hq.1 ?_
    rw [b3, b6]
    repeat' (first | assumption | with_reducible apply And.intro | intro _)
    all_goals try (first | omega | (exfalso; omega))
    refine nb_W.imp (sp_m_liarsOf (by rw [b6]; exact hT) (pu_MM_g hq.1)) ?_
    rintro r2 M2 ⟨R, rfl, q2, hm⟩
    rw [b6] at hm
    have e := pu_liars_eq hI hc hm
    subst e
    refine ⟨_, rfl, q2.1, ?_⟩
    refine nb_W.imp (sp_m_layTellings (by rw [b6]; exact hT) q2) ?_
    rintro r2 M3 ⟨y, rfl, -, -, q3, hw⟩
    rw [b6] at hw
    have hwp := hw p q (by omega) (by omega) (by omega) (by omega)
    refine ⟨_, rfl, q3.1, by omega, by omega, by omega, by omega, by omega, by omega, fun z _ => ⟨?_, q3.mq h7'⟩, fun z _ => ⟨?_, q3.mq h7'⟩⟩
    · rcases hv with ⟨rfl, -⟩ | ⟨-, w⟩
      · rfl
      · exact absurd z (hwp.2 w)
    · rcases hv with ⟨-, w⟩ | ⟨rfl, -⟩
      · exact absurd (hwp.1 z) w
      · rfl
  refine ⟨x, rfl, hq.1, by omega, by omega, fun c _ => ⟨1, rfl, hq.1, hq.x2 hx2, fun z => absurd z (by decide), fun _ _ => ⟨1, 0, rfl, hq, fun z => absurd z (by decide), ref 1 (Or.inr ⟨rfl, hbit.1 c⟩)⟩⟩, fun c _ => ⟨0, rfl, hq.1, hq.x2 hx2, fun _ _ => ⟨0, 0, rfl, hq, fun z => absurd z (by decide), ref 0 (Or.inl ⟨rfl, fun z => c (hbit.2 z)⟩)⟩, fun z => absurd rfl z⟩⟩
