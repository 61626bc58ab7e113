/-! BITS: a family pasted from kit/laws/BITS; bits of sets -/
def bt (x : Int32) (i : Nat) : Bool := x.toBitVec.getLsbD i
theorem b_ext {x y : Int32} (h : ∀ i, i < 32 → bt x i = bt y i) : x = y := Int32.toBitVec_inj.mp (BitVec.eq_of_getLsbD_eq (fun i hi => h i hi))
theorem b_or (x y : Int32) (i : Nat) : bt (x ||| y) i = (bt x i || bt y i) := by unfold bt; rw [Int32.toBitVec_or, BitVec.getLsbD_or]
theorem b_and (x y : Int32) (i : Nat) : bt (x &&& y) i = (bt x i && bt y i) := by unfold bt; rw [Int32.toBitVec_and, BitVec.getLsbD_and]
theorem b_xor (x y : Int32) (i : Nat) : bt (x ^^^ y) i = (bt x i ^^ bt y i) := by unfold bt; rw [Int32.toBitVec_xor, BitVec.getLsbD_xor]
theorem b_big {x : Int32} {i : Nat} (h : 32 ≤ i) : bt x i = false := BitVec.getLsbD_of_ge _ _ h
theorem b_255 (i : Nat) : bt 255 i = decide (i < 8) := by
  rcases Nat.lt_or_ge i 32 with h | h
  · exact (by decide +kernel : ∀ i, i < 32 → bt 255 i = decide (i < 8)) i h
  · rw [b_big h, decide_eq_false (by omega)]
theorem b_65535 (i : Nat) : bt 65535 i = decide (i < 16) := by
  rcases Nat.lt_or_ge i 32 with h | h
  · exact (by decide +kernel : ∀ i, i < 32 → bt 65535 i = decide (i < 16)) i h
  · rw [b_big h, decide_eq_false (by omega)]
theorem b_m1 : ∀ i, i < 32 → bt (-1) i = true := by decide +kernel
theorem b_0 (i : Nat) : bt 0 i = false := BitVec.getLsbD_zero
theorem s_l : ∀ n, n < 32 → ((nI n &&& 31).toBitVec.smod 32).toNat = n := by decide +kernel
theorem s_u : ∀ n, n < 32 → (((nI n).toUInt32 &&& Int32.toUInt32 31).toBitVec % 32).toNat = n := by decide +kernel
theorem b_shl (n : Nat) (hn : n < 32) (x : Int32) {i : Nat} (hi : i < 32) : bt (x <<< (nI n &&& 31)) i = (decide (n ≤ i) && bt x (i - n)) := by
  unfold bt
  rw [Int32.toBitVec_shiftLeft]
  show (x.toBitVec <<< ((nI n &&& 31).toBitVec.smod 32).toNat).getLsbD i = _
  rw [s_l n hn, BitVec.getLsbD_shiftLeft]
  rcases Nat.lt_or_ge i n with h | h
  · simp [h, Nat.not_le.mpr h]
  · simp [hi, h, Nat.not_lt.mpr h]
theorem b_ushr (n : Nat) (hn : n < 32) (x : Int32) (i : Nat) : bt ((x.toUInt32 >>> ((nI n).toUInt32 &&& Int32.toUInt32 31)).toInt32) i = bt x (n + i) := by
  show (x.toUInt32 >>> ((nI n).toUInt32 &&& Int32.toUInt32 31)).toBitVec.getLsbD i = x.toUInt32.toBitVec.getLsbD (n + i)
  rw [UInt32.toBitVec_shiftRight]
  show (x.toUInt32.toBitVec >>> (((nI n).toUInt32 &&& Int32.toUInt32 31).toBitVec % 32).toNat).getLsbD i = _
  rw [s_u n hn, BitVec.getLsbD_ushiftRight]
theorem b_sshr (n : Nat) (hn : n < 32) (x : Int32) {i : Nat} (hi : i < 32) : bt (x >>> (nI n &&& 31)) i = if n + i < 32 then bt x (n + i) else bt x 31 := by
  unfold bt
  rw [Int32.toBitVec_shiftRight]
  show (x.toBitVec.sshiftRight ((nI n &&& 31).toBitVec.smod 32).toNat).getLsbD i = _
  rw [s_l n hn, BitVec.getLsbD_sshiftRight, BitVec.msb_eq_getLsbD_last]
  simp [hi]

theorem pu_ofk : ∀ k, k < 32 → Int32.ofInt (k : Nat) = nI k := by decide +kernel
theorem pu_b1 (i : Nat) (hi : i < 32) : bt 1 i = decide (i = 0) := (by decide +kernel : ∀ i, i < 32 → bt 1 i = decide (i = 0)) i hi
theorem pu_bit_bt {s : Int} {k : Nat} (hk : k < 31) : nb_and (nb_shr s k) 1 = if bt (Int32.ofInt s) k = true then 1 else 0 := by
  unfold nb_and nb_shr
  rw [nb_o32, pu_ofk k (by omega)]
  have e : (Int32.ofInt s >>> (nI k &&& 31)) &&& Int32.ofInt 1 = if bt (Int32.ofInt s) k = true then 1 else 0 := b_ext (fun i hi => by
    rw [b_and, b_sshr k (by omega) _ hi, show Int32.ofInt 1 = 1 from by decide, pu_b1 i hi]
    by_cases h : i = 0
    · subst h
      rw [if_pos (by omega)]
      by_cases h2 : bt (Int32.ofInt s) k = true
      · rw [if_pos h2, pu_b1 0 (by decide)]
        simp [h2]
      · rw [if_neg h2, b_0]
        simp [h2]
    · by_cases h2 : bt (Int32.ofInt s) k = true
      · rw [if_pos h2, pu_b1 i hi]
        simp [h]
      · rw [if_neg h2, b_0]
        simp [h])
  rw [e]
  split <;> decide
/-- whether someone is in a set -/
abbrev pu_bit (s p : Int) : Prop := nb_and (nb_shr s p) 1 = 1
theorem pu_bit_iff {s : Int} {k : Nat} (hk : k < 31) : pu_bit s k ↔ bt (Int32.ofInt s) k = true := by
  unfold pu_bit
  rw [pu_bit_bt hk]
  split
  · rename_i h
    exact ⟨fun _ => h, fun _ => rfl⟩
  · rename_i h
    exact ⟨fun q => absurd q (by decide), fun q => absurd q h⟩
theorem pu_bit_01 {s : Int} {k : Nat} (hk : k < 31) : nb_and (nb_shr s k) 1 = 0 ∨ nb_and (nb_shr s k) 1 = 1 := by
  rw [pu_bit_bt hk]
  split
  · exact Or.inr rfl
  · exact Or.inl rfl
theorem pu_shl1 {q i : Nat} (hq : q < 31) (hi : i < 32) : bt (Int32.ofInt (nb_shl 1 q)) i = decide (i = q) := by
  unfold nb_shl
  rw [nb_o32, pu_ofk q (by omega), b_shl q (by omega) _ hi, show Int32.ofInt 1 = 1 from by decide, pu_b1 _ (by omega)]
  by_cases h : i = q
  · subst h
    simp
  · by_cases h2 : q ≤ i
    · simp [h, h2]
      omega
    · simp [h, h2]
theorem pu_bit_or {s p q : Int} (hp : 0 ≤ p ∧ p < 31) (hq : 0 ≤ q ∧ q < 31) : pu_bit (nb_or s (nb_shl 1 q)) p ↔ pu_bit s p ∨ p = q := by
  obtain ⟨k, rfl⟩ : ∃ k : Nat, p = k := ⟨p.toNat, by omega⟩
  obtain ⟨j, rfl⟩ : ∃ k : Nat, q = k := ⟨q.toNat, by omega⟩
  rw [pu_bit_iff (by omega), pu_bit_iff (by omega)]
  unfold nb_or
  rw [nb_o32, b_or, pu_shl1 (by omega) (by omega)]
  simp only [Bool.or_eq_true, decide_eq_true_eq]
  exact or_congr Iff.rfl ⟨fun h => by omega, fun h => by omega⟩
theorem pu_bit_0 {p : Int} (hp : 0 ≤ p ∧ p < 31) : ¬ pu_bit 0 p := by
  obtain ⟨k, rfl⟩ : ∃ k : Nat, p = k := ⟨p.toNat, by omega⟩
  rw [pu_bit_iff (by omega), show Int32.ofInt 0 = 0 from by decide, b_0]
  decide
/-! PASSED, PUSHED -/
/-- who was begun with ahead of someone, as far as the first k: a set, and whether his own turn has come -/
def pu_pas (pe R : Int → Int) (p : Int) : Nat → Int × Bool
  | 0 => (0, false)
  | k + 1 => if (pu_pas pe R p k).2 = true then pu_pas pe R p k else if R (2 + k) = p then ((pu_pas pe R p k).1, true) else
      (if (pe (7 * p + 2) < pe (7 * R (2 + k) + 2) ∨ (pe (7 * R (2 + k) + 2) = pe (7 * p + 2) ∧ p < R (2 + k))) ∧ pe (7 * p + 2) ≤ R (12 + 8 * R (2 + k) + 4) ∧ ¬ (R (12 + 8 * p + 7) ≠ -2 ∧ R (12 + 8 * p + 7) ≤ R (12 + 8 * R (2 + k) + 4)) then nb_or (pu_pas pe R p k).1 (nb_shl 1 (R (2 + k))) else (pu_pas pe R p k).1, false)
def pu_pa (pe R : Int → Int) (p : Int) : Int := (pu_pas pe R p (R 1).toNat).1
def pu_pus (pe R : Int → Int) (p : Int) : Nat → Int
  | 0 => 0
  | q + 1 => if (q : Int) ≠ p ∧ (pe (7 * q + 2) < pe (7 * p + 2) ∨ (pe (7 * p + 2) = pe (7 * q + 2) ∧ (q : Int) < p)) ∧ pu_bit (pu_pa pe R q) p then nb_or (pu_pus pe R p q) (nb_shl 1 q) else pu_pus pe R p q
def pu_pu (pe R : Int → Int) (np p : Int) : Int := if R (12 + 8 * p + 4) = -2 then 0 else pu_pus pe R p np.toNat
/-- before those who come at t stand, and behind that, how it is with someone -/
def pu_hb (pe R : Int → Int) (t p : Int) : Prop :=
  (R (12 + 8 * p) = 0 → t ≤ pe (7 * p + 2) ∧ R (12 + 8 * p + 4) = -2 ∧ R (12 + 8 * p + 7) = -2) ∧
  (R (12 + 8 * p) = 1 → pe (7 * p + 2) < t ∧ R (12 + 8 * p + 4) = -2 ∧ R (12 + 8 * p + 7) = -2) ∧
  (R (12 + 8 * p) = 2 → 0 ≤ R (12 + 8 * p + 4) ∧ R (12 + 8 * p + 4) < t ∧ R (12 + 8 * p + 7) = -2 ∧ ∃ k : Int, 0 ≤ k ∧ k < R 1 ∧ R (2 + k) = p) ∧
  (R (12 + 8 * p) = 3 ∨ R (12 + 8 * p) = 4 → R (12 + 8 * p + 4) = -2 ∧ 0 ≤ R (12 + 8 * p + 7) ∧ R (12 + 8 * p + 7) < t) ∧
  (R (12 + 8 * p) = 5 → R (12 + 8 * p + 4) = -2 ∧ 0 ≤ R (12 + 8 * p + 7) ∧ R (12 + 8 * p + 7) ≤ t)
def pu_hm (pe R : Int → Int) (t p : Int) : Prop :=
  (R (12 + 8 * p) = 0 → t < pe (7 * p + 2) ∧ R (12 + 8 * p + 4) = -2 ∧ R (12 + 8 * p + 7) = -2) ∧
  (R (12 + 8 * p) = 1 → pe (7 * p + 2) ≤ t ∧ R (12 + 8 * p + 4) = -2 ∧ R (12 + 8 * p + 7) = -2) ∧
  (R (12 + 8 * p) = 2 → 0 ≤ R (12 + 8 * p + 4) ∧ R (12 + 8 * p + 4) ≤ t ∧ R (12 + 8 * p + 7) = -2 ∧ ∃ k : Int, 0 ≤ k ∧ k < R 1 ∧ R (2 + k) = p) ∧
  (R (12 + 8 * p) = 3 ∨ R (12 + 8 * p) = 4 → R (12 + 8 * p + 4) = -2 ∧ 0 ≤ R (12 + 8 * p + 7) ∧ R (12 + 8 * p + 7) ≤ t) ∧
  (R (12 + 8 * p) = 5 → R (12 + 8 * p + 4) = -2 ∧ 0 ≤ R (12 + 8 * p + 7) ∧ R (12 + 8 * p + 7) ≤ t)
/-- who was begun with -/
def pu_who (R : Int → Int) (np : Int) : Prop := ∀ k, 0 ≤ k → k < R 1 → 0 ≤ R (2 + k) ∧ R (2 + k) < np ∧ R (12 + 8 * R (2 + k)) = 2
def pu_Hb (pe R : Int → Int) (np t : Int) : Prop := (∀ p, 0 ≤ p → p < np → pu_hb pe R t p) ∧ pu_who R np
def pu_Hm (pe R : Int → Int) (np t : Int) : Prop := (∀ p, 0 ≤ p → p < np → pu_hm pe R t p) ∧ pu_who R np
