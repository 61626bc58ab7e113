/-! WORDS: letters as numbers, longs -/
theorem nb_ofl {x : Int} (h1 : -9223372036854775808 ≤ x) (h2 : x ≤ 9223372036854775807) : (Int64.ofInt x).toInt = x := by
  rw [Int64.toInt_ofInt]
  exact Int.bmod_eq_of_le (by simp only [Int64.size]; omega) (by simp only [Int64.size]; omega)
theorem nb_ladd_eq {x y : Int} (h1 : -9223372036854775808 ≤ x + y) (h2 : x + y ≤ 9223372036854775807) : nb_ladd x y = x + y := by
  unfold nb_ladd
  rw [← Int64.ofInt_add]
  exact nb_ofl h1 h2
theorem nb_lsub_eq {x y : Int} (h1 : -9223372036854775808 ≤ x - y) (h2 : x - y ≤ 9223372036854775807) : nb_lsub x y = x - y := by
  unfold nb_lsub
  rw [← Int64.ofInt_sub]
  exact nb_ofl h1 h2
theorem nb_lmul_eq {x y : Int} (h1 : -9223372036854775808 ≤ x * y) (h2 : x * y ≤ 9223372036854775807) : nb_lmul x y = x * y := by
  unfold nb_lmul
  rw [← Int64.ofInt_mul]
  exact nb_ofl h1 h2
theorem pu_i2l_eq {x : Int} (h1 : -2147483648 ≤ x) (h2 : x ≤ 2147483647) : nb_i2l x = x := by
  unfold nb_i2l
  rw [Int32.toInt_toInt64]
  exact nb_ofr h1 h2
theorem nb_l2i_eq {x : Int} (h1 : -2147483648 ≤ x) (h2 : x ≤ 2147483647) : nb_l2i x = x := by
  unfold nb_l2i
  rw [Int64.toInt_toInt32, nb_ofl (by omega) (by omega)]
  exact Int.bmod_eq_of_le (by omega) (by omega)
theorem nb_lcmp_0 {x y : Int} : nb_lcmp x y = 0 ↔ x = y := by
  unfold nb_lcmp
  by_cases h : x < y
  · rw [if_pos h]
    exact ⟨fun z => absurd z (by decide), fun z => absurd h (by omega)⟩
  · rw [if_neg h]
    by_cases e : x = y
    · rw [if_pos e]
      exact ⟨fun _ => e, fun _ => rfl⟩
    · rw [if_neg e]
      exact ⟨fun z => absurd z (by decide), fun z => absurd z e⟩
theorem pu_lsh {w : Int} (h0 : 0 ≤ w) (h1 : w < 1125899906842624) : nb_lshl w 5 = w * 32 := by
  unfold nb_lshl
  have e : ((Int32.ofInt 5).toInt64 &&& 63) = (5 : Int64) := by decide
  rw [e]
  have e2 : (Int64.ofInt w <<< (5 : Int64)).toInt = ((Int64.ofInt w).toBitVec <<< ((5 : Int64).toBitVec.smod 64)).toInt := rfl
  have hn : ((5 : Int64).toBitVec.smod 64).toNat = 5 := by decide
  rw [e2, BitVec.shiftLeft_eq', BitVec.toInt_shiftLeft, hn]
  rw [Nat.shiftLeft_eq, Int.natCast_mul, Int.natCast_pow, ← Int.bmod_mul_bmod, ← BitVec.toInt_eq_toNat_bmod]
  have g : ((Int64.ofInt w).toInt * (2 : Int) ^ 5).bmod (2 ^ 64) = w * 32 := by
    rw [nb_ofl (by omega) (by omega)]
    exact Int.bmod_eq_of_le (by omega) (by omega)
  exact g
theorem pu_ln {x : Int} (h0 : 0 ≤ x) (h1 : x ≤ 9223372036854775807) : (((Int64.ofInt x).toBitVec.toNat : Nat) : Int) = x := by
  have c := BitVec.toInt_eq_toNat_cond (Int64.ofInt x).toBitVec
  have e : (Int64.ofInt x).toBitVec.toInt = x := nb_ofl (by omega) h1
  have hl := (Int64.ofInt x).toBitVec.isLt
  rw [e] at c
  split at c <;> omega
theorem pu_lor {z c : Int} (h0 : 0 ≤ z) (h1 : z < 1125899906842624) (c0 : 0 ≤ c) (c1 : c < 32) : nb_lor (z * 32) c = z * 32 + c := by
  have ex := pu_ln (x := z * 32) (by omega) (by omega)
  have ey := pu_ln (x := c) (by omega) (by omega)
  obtain ⟨n, rfl⟩ := Int.eq_ofNat_of_zero_le h0
  have exn : (Int64.ofInt ((n : Int) * 32)).toBitVec.toNat = n * 2 ^ 5 := by omega
  have hc : (Int64.ofInt c).toBitVec.toNat < 2 ^ 5 := by omega
  have hor : (Int64.ofInt ((n : Int) * 32) ||| Int64.ofInt c).toBitVec.toNat = n * 2 ^ 5 + (Int64.ofInt c).toBitVec.toNat := by
    rw [Int64.toBitVec_or, BitVec.toNat_or, exn, ← Nat.shiftLeft_eq, ← Nat.shiftLeft_add_eq_or_of_lt hc]
  unfold nb_lor
  have g := BitVec.toInt_eq_toNat_cond (Int64.ofInt ((n : Int) * 32) ||| Int64.ofInt c).toBitVec
  rw [hor] at g
  show (Int64.ofInt ((n : Int) * 32) ||| Int64.ofInt c).toBitVec.toInt = _
  rw [g, if_pos (by omega)]
  omega
/-- letters, five bits each -/
def pu_wv (f : Int → Int) : Nat → Int
  | 0 => 0
  | n + 1 => pu_wv f n * 32 + (f n - 96)
def pu_abc (f : Int → Int) (n : Nat) : Prop := ∀ i : Nat, i < n → 97 ≤ f i ∧ f i ≤ 122
theorem pu_wv_rg {f : Int → Int} : ∀ n : Nat, pu_abc f n → 0 ≤ pu_wv f n ∧ pu_wv f n < (32 : Int) ^ n
  | 0, _ => by
    unfold pu_wv
    exact ⟨Int.le_refl 0, by decide⟩
  | n + 1, h => by
    have ih := pu_wv_rg (f := f) n (fun i hi => h i (by omega))
    have g := h n (by omega)
    have e : (32 : Int) ^ (n + 1) = (32 : Int) ^ n * 32 := Int.pow_succ _ _
    unfold pu_wv
    rw [e]
    omega
theorem pu_p32 : ∀ n : Nat, n ≤ 8 → (32 : Int) ^ n ≤ 1099511627776 := by decide +kernel
theorem pu_wv_8 {f : Int → Int} {n : Nat} (hn : n ≤ 8) (h : pu_abc f n) : 0 ≤ pu_wv f n ∧ pu_wv f n < 1099511627776 := by
  have a := pu_wv_rg n h
  have b := pu_p32 n hn
  omega
theorem pu_wv_inj {f g : Int → Int} : ∀ a b : Nat, pu_abc f a → pu_abc g b → pu_wv f a = pu_wv g b → a = b ∧ ∀ i : Nat, i < a → f i = g i
  | 0, 0, _, _, _ => ⟨rfl, fun i hi => absurd hi (by omega)⟩
  | 0, b + 1, _, hg, e => by
    exfalso
    have q := pu_wv_rg (f := g) b (fun i hi => hg i (by omega))
    have p := hg b (by omega)
    unfold pu_wv at e
    omega
  | a + 1, 0, hf, _, e => by
    exfalso
    have q := pu_wv_rg (f := f) a (fun i hi => hf i (by omega))
    have p := hf a (by omega)
    unfold pu_wv at e
    omega
  | a + 1, b + 1, hf, hg, e => by
    have p := hf a (by omega)
    have q := hg b (by omega)
    have e2 : pu_wv f a * 32 + (f a - 96) = pu_wv g b * 32 + (g b - 96) := e
    obtain ⟨r1, r2⟩ := pu_wv_inj a b (fun i hi => hf i (by omega)) (fun i hi => hg i (by omega)) (by omega)
    subst r1
    refine ⟨rfl, fun i hi => ?_⟩
    by_cases c : i = a
    · subst c
      omega
    · exact r2 i (by omega)
theorem pu_wv_congr {f g : Int → Int} : ∀ n : Nat, (∀ i : Nat, i < n → f i = g i) → pu_wv f n = pu_wv g n
  | 0, _ => rfl
  | n + 1, h => by
    have ih := pu_wv_congr (f := f) (g := g) n (fun i hi => h i (by omega))
    unfold pu_wv
    rw [ih, h n (by omega)]
/-- a word's step -/
theorem pu_wv_step {f : Int → Int} {n : Nat} {c : Int} (hn : n < 8) (h : pu_abc f n) (hc : f n = c) (c1 : 97 ≤ c ∧ c ≤ 122) : nb_lor (nb_lshl (pu_wv f n) 5) (nb_i2l (nb_add (nb_sub c 97) 1)) = pu_wv f (n + 1) := by
  have a := pu_wv_8 (by omega) h
  rw [nb_sub_eq (by omega) (by omega), nb_add_eq (by omega) (by omega), pu_i2l_eq (by omega) (by omega), pu_lsh a.1 (by omega), pu_lor a.1 (by omega) (by omega) (by omega)]
  show _ = pu_wv f n * 32 + (f n - 96)
  omega
/-! constants -/
def pu_tl (k : Int) : Nat := (nb_P.2.2.2.2.2 k).length
def pu_tw (k : Int) : Int → Int := fun i => (nb_P.2.2.2.2.2 k).getD i.toNat 0
def pu_tok (k : Int) : Prop := k ≠ 0 ∧ (1 ≤ pu_tl k ∧ pu_tl k ≤ 8) ∧ pu_abc (pu_tw k) (pu_tl k)
theorem pu_tokn : ∀ k : Nat, k < 66 → 1 ≤ k → ((1 ≤ pu_tl k ∧ pu_tl k ≤ 8) ∧ ∀ i : Nat, i < pu_tl k → 97 ≤ pu_tw k i ∧ pu_tw k i ≤ 122) := by decide +kernel
theorem pu_tok_at (k : Nat) (h1 : 1 ≤ k) (h2 : k ≤ 65) : pu_tok k := ⟨by omega, (pu_tokn k (by omega) h1).1, (pu_tokn k (by omega) h1).2⟩
def pu_tv (k : Int) : Int := pu_wv (pu_tw k) (pu_tl k)
theorem sp_tk_letters {M : nb_M} {k : Int} {v1 v2 v3 : nb_V} (hk : pu_tok k) : nb_R nb_P 292 0 [(2, k), v1, v2, v3] [] M = some ([(1, pu_tv k)], M) := by
  obtain ⟨h0, ⟨h1, h8⟩, ha⟩ := hk
  rw [q_tk_letters_0]
  have hlen : 0 < (nb_P.2.2.2.2.2 k).length := h1
  suffices hl : ∀ (n j : Nat) (v2 : nb_V), j + n = pu_tl k → nb_R nb_P 292 1 [(2, k), (1, pu_wv (pu_tw k) j), v2, (0, (j : Int))] [] M = some ([(1, pu_tv k)], M) from hl (pu_tl k) 0 _ (by omega)
  intro n
  induction n with
  | zero =>
    intro j v2 hj
    rw [q_tk_letters_1 _ _ _ _ _ h0, if_pos hlen]
    show nb_R nb_P 292 2 [(2, k), (1, pu_wv (pu_tw k) j), v2, (0, (j : Int))] [(0, ((nb_P.2.2.2.2.2 k).length : Int)), (0, (j : Int))] M = _
    have e : j = pu_tl k := by omega
    subst e
    rw [q_tk_letters_2, if_neg (by unfold pu_tl; omega), q_tk_letters_5]
    rfl
  | succ n ih =>
    intro j v2 hj
    rw [q_tk_letters_1 _ _ _ _ _ h0, if_pos hlen]
    show nb_R nb_P 292 2 [(2, k), (1, pu_wv (pu_tw k) j), v2, (0, (j : Int))] [(0, ((nb_P.2.2.2.2.2 k).length : Int)), (0, (j : Int))] M = _
    have hjl : j < (nb_P.2.2.2.2.2 k).length := by unfold pu_tl at hj; omega
    rw [q_tk_letters_2, if_pos (by omega), q_tk_letters_3 _ _ _ _ _ h0, if_pos (by omega)]
    show nb_R nb_P 292 4 [(2, k), (1, pu_wv (pu_tw k) j), v2, (0, (j : Int))] [(0, pu_tw k j), (1, nb_lshl (pu_wv (pu_tw k) j) 5)] M = _
    have g := ha j (by unfold pu_tl; omega)
    rw [q_tk_letters_4, pu_wv_step (by omega) (fun i hi => ha i (by omega)) rfl g, nb_add_eq (by omega) (by omega)]
    exact ih (j + 1) _ (by omega)
def pu_isw (N : nb_M) (k : Int) : Prop := N.1 603 13 = 0 ∧ N.1 603 6 = 2 ∧ N.1 603 8 = pu_tl k ∧ ∀ i : Nat, i < pu_tl k → N.1 605 i = pu_tw k i
theorem sp_m_isWord {N : nb_M} {k : Int} {v2 v3 : nb_V} (W : nb_Lay N) (hk : pu_tok k) : ∃ x : Int, (x = 0 ∨ x = 1) ∧ (x = 1 ↔ pu_isw N k) ∧ nb_R nb_P 93 0 [(20, 603), (2, k), v2, v3] [] N = some ([(0, x)], N) := by
  obtain ⟨h0, ⟨h1, h8⟩, ha⟩ := hk
  have hlen : 0 < (nb_P.2.2.2.2.2 k).length := h1
  by_cases c1 : N.1 603 13 = 0
  case neg =>
    refine ⟨0, Or.inl rfl, ⟨fun z => absurd z (by decide), fun z => absurd z.1 c1⟩, ?_⟩
    rw [q_m_isWord_0 _ _ _ _ _ (by decide), if_neg (show ¬ nb_rd N 603 13 = 0 from c1), q_m_isWord_4]
  by_cases c2 : N.1 603 6 = 2
  case neg =>
    refine ⟨0, Or.inl rfl, ⟨fun z => absurd z (by decide), fun z => absurd z.2.1 c2⟩, ?_⟩
    rw [q_m_isWord_0 _ _ _ _ _ (by decide), if_pos (show nb_rd N 603 13 = 0 from c1), q_m_isWord_1 _ _ _ _ _ (by decide), if_neg (show ¬ nb_rd N 603 6 = 2 from c2), q_m_isWord_4]
  by_cases c3 : N.1 603 8 = pu_tl k
  case neg =>
    refine ⟨0, Or.inl rfl, ⟨fun z => absurd z (by decide), fun z => absurd z.2.2.1 c3⟩, ?_⟩
    rw [q_m_isWord_0 _ _ _ _ _ (by decide), if_pos (show nb_rd N 603 13 = 0 from c1), q_m_isWord_1 _ _ _ _ _ (by decide), if_pos (show nb_rd N 603 6 = 2 from c2), q_m_isWord_2 _ _ _ _ _ (by decide) h0, if_pos hlen]
    show nb_R nb_P 93 3 [(20, 603), (2, k), v2, v3] [(0, ((nb_P.2.2.2.2.2 k).length : Int)), (0, N.1 603 8)] N = _
    rw [q_m_isWord_3, if_neg (show ¬ N.1 603 8 = ((nb_P.2.2.2.2.2 k).length : Int) from c3), q_m_isWord_4]
  have en : nb_R nb_P 93 0 [(20, 603), (2, k), v2, v3] [] N = nb_R nb_P 93 6 [(20, 603), (2, k), (0, 1), (0, 0)] [] N := by
    rw [q_m_isWord_0 _ _ _ _ _ (by decide), if_pos (show nb_rd N 603 13 = 0 from c1), q_m_isWord_1 _ _ _ _ _ (by decide), if_pos (show nb_rd N 603 6 = 2 from c2), q_m_isWord_2 _ _ _ _ _ (by decide) h0, if_pos hlen]
    show nb_R nb_P 93 3 [(20, 603), (2, k), v2, v3] [(0, ((nb_P.2.2.2.2.2 k).length : Int)), (0, N.1 603 8)] N = _
    rw [q_m_isWord_3, if_pos (show N.1 603 8 = ((nb_P.2.2.2.2.2 k).length : Int) from c3), q_m_isWord_5]
  rw [en]
  have hm : nb_rd N 603 12 = 605 := W.m12
  have hl5 : nb_ln N 605 = 8 := W.lk (by decide) (by decide +kernel)
  suffices hl : ∀ (n j : Nat) (y : Int), j + n = pu_tl k → (y = 0 ∨ y = 1) → (y = 1 ↔ ∀ i : Nat, i < j → N.1 605 i = pu_tw k i) → ∃ x : Int, (x = 0 ∨ x = 1) ∧ (x = 1 ↔ ∀ i : Nat, i < pu_tl k → N.1 605 i = pu_tw k i) ∧ nb_R nb_P 93 6 [(20, 603), (2, k), (0, y), (0, (j : Int))] [] N = some ([(0, x)], N) by
    obtain ⟨x, x1, x2, x3⟩ := hl (pu_tl k) 0 1 (by omega) (Or.inr rfl) ⟨fun _ i hi => absurd hi (by omega), fun _ => rfl⟩
    exact ⟨x, x1, ⟨fun z => ⟨c1, c2, c3, x2.1 z⟩, fun z => x2.2 z.2.2.2⟩, x3⟩
  intro n
  induction n with
  | zero =>
    intro j y hj hy he
    have e : j = pu_tl k := by omega
    subst e
    refine ⟨y, hy, he, ?_⟩
    rw [q_m_isWord_6 _ _ _ _ _ (by decide), if_neg (by show ¬ (((pu_tl k : Nat) : Int) < N.1 603 8); omega), q_m_isWord_13, nb_i2z_eq hy]
  | succ n ih =>
    intro j y hj hy he
    have step : ∀ y2 : Int, (y2 = 0 ∨ y2 = 1) → (y2 = 1 ↔ ∀ i : Nat, i < j + 1 → N.1 605 i = pu_tw k i) → ∃ x : Int, (x = 0 ∨ x = 1) ∧ (x = 1 ↔ ∀ i : Nat, i < pu_tl k → N.1 605 i = pu_tw k i) ∧ nb_R nb_P 93 12 [(20, 603), (2, k), (0, y), (0, (j : Int))] [(0, y2)] N = some ([(0, x)], N) := fun y2 a b => by
      obtain ⟨x, x1, x2, x3⟩ := ih (j + 1) y2 (by omega) a b
      refine ⟨x, x1, x2, ?_⟩
      rw [q_m_isWord_12, nb_add_eq (by omega) (by omega)]
      exact x3
    have hj6 : (j : Int) < nb_rd N 603 8 := by show (j : Int) < N.1 603 8; omega
    rcases hy with rfl | rfl
    · obtain ⟨x, x1, x2, x3⟩ := step 0 (Or.inl rfl) ⟨fun z => absurd z (by decide), fun z => he.2 (fun i hi => z i (by omega))⟩
      refine ⟨x, x1, x2, ?_⟩
      rw [q_m_isWord_6 _ _ _ _ _ (by decide), if_pos hj6, q_m_isWord_7, if_pos rfl, q_m_isWord_11]
      exact x3
    · have hh := he.1 rfl
      have hgo : nb_R nb_P 93 6 [(20, 603), (2, k), (0, 1), (0, (j : Int))] [] N = nb_R nb_P 93 9 [(20, 603), (2, k), (0, 1), (0, (j : Int))] [(0, pu_tw k j), (0, N.1 605 j)] N := by
        rw [q_m_isWord_6 _ _ _ _ _ (by decide), if_pos hj6, q_m_isWord_7, if_neg (by decide), q_m_isWord_8 _ _ _ _ _ (by decide) (by rw [hm]; decide) (by omega) (by rw [hm, hl5]; omega) h0, if_pos (by unfold pu_tl at hj; omega), hm]
        rfl
      by_cases e : N.1 605 j = pu_tw k j
      · obtain ⟨x, x1, x2, x3⟩ := step 1 (Or.inr rfl) ⟨fun _ i hi => by
          by_cases q : i = j
          · subst q; exact e
          · exact hh i (by omega), fun _ => rfl⟩
        refine ⟨x, x1, x2, ?_⟩
        rw [hgo, q_m_isWord_9, if_pos e, q_m_isWord_10]
        exact x3
      · obtain ⟨x, x1, x2, x3⟩ := step 0 (Or.inl rfl) ⟨fun z => absurd z (by decide), fun z => absurd (z j (by omega)) e⟩
        refine ⟨x, x1, x2, ?_⟩
        rw [hgo, q_m_isWord_9, if_neg e, q_m_isWord_11]
        exact x3
