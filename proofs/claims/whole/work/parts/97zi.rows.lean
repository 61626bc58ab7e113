/-! ROWS OF ORDERS: words -/
def pu_rm (s i : Int) : Int := nb_and s (nb_xor (nb_shl 1 i) (-1))
theorem pu_rm_all : ∀ s : Nat, s < 128 → ∀ i : Nat, i < 7 → 0 ≤ pu_rm s i ∧ pu_rm s i ≤ s := by decide +kernel
theorem pu_rm_in1 : ∀ s : Nat, s < 128 → ∀ i : Nat, i < 7 → pu_bit s i → pu_rm s i < s ∧ pu_ones (pu_rm s i) = pu_ones s - 1 := by decide +kernel
theorem pu_rm_in2 : ∀ s : Nat, s < 128 → ∀ i : Nat, i < 7 → ∀ j : Nat, j < 7 → (pu_bit (pu_rm s i) j ↔ (pu_bit s j ∧ j ≠ i)) := by decide +kernel
theorem pu_rm_in (s : Nat) (hs : s < 128) (i : Nat) (hi : i < 7) (hb : pu_bit s i) : pu_rm s i < s ∧ pu_ones (pu_rm s i) = pu_ones s - 1 ∧ ∀ j : Nat, j < 7 → (pu_bit (pu_rm s i) j ↔ pu_bit s j ∧ j ≠ i) := ⟨(pu_rm_in1 s hs i hi hb).1, (pu_rm_in1 s hs i hi hb).2, pu_rm_in2 s hs i hi⟩
theorem pu_ones_some : ∀ s : Nat, s < 128 → s ≠ 0 → ∃ i : Nat, i < 7 ∧ pu_bit s i := by decide +kernel
theorem pu_bit_lt : ∀ n : Nat, n ≤ 7 → ∀ s : Nat, s < 128 → (s : Int) < nb_shl 1 n → ∀ i : Nat, i < 7 → pu_bit s i → i < n := by decide +kernel
theorem pu_ones_full : ∀ n : Nat, n ≤ 7 → pu_ones (nb_shl 1 n - 1) = n := by decide +kernel
theorem pu_ones_0 : ∀ s : Nat, s < 128 → pu_ones s = 0 → s = 0 := by decide +kernel
theorem pu_ones_7 : ∀ s : Nat, s < 128 → 0 ≤ pu_ones s ∧ pu_ones s ≤ 7 := by decide +kernel
/-- the first least over a set -/
def pu_vf (f : Nat → Int) (s : Int) : Nat → Nat × Int
  | 0 => (0, 1000000)
  | n + 1 => if pu_bit s n ∧ f n < (pu_vf f s n).2 then (n, f n) else pu_vf f s n
theorem pu_vf_or {f : Nat → Int} {s : Int} : ∀ n : Nat, ((pu_vf f s n) = (0, 1000000) ∧ ∀ i, i < n → pu_bit s i → 1000000 ≤ f i) ∨ ((pu_vf f s n).1 < n ∧ pu_bit s ((pu_vf f s n).1 : Nat) ∧ (pu_vf f s n).2 = f (pu_vf f s n).1)
  | 0 => Or.inl ⟨rfl, fun i hi => absurd hi (by omega)⟩
  | n + 1 => by
    have ih := pu_vf_or (f := f) (s := s) n
    unfold pu_vf
    by_cases c : pu_bit s n ∧ f n < (pu_vf f s n).2
    · rw [if_pos c]
      exact Or.inr ⟨by omega, c.1, rfl⟩
    · rw [if_neg c]
      rcases ih with ⟨a, b⟩ | ⟨a, b, d⟩
      · refine Or.inl ⟨a, fun i hi hb => ?_⟩
        by_cases e : i = n
        · subst e
          rw [a] at c
          have : ¬ f i < 1000000 := fun z => c ⟨hb, z⟩
          omega
        · exact b i (by omega) hb
      · exact Or.inr ⟨by omega, b, d⟩
theorem pu_vf_congr {f g : Nat → Int} {s : Int} : ∀ n : Nat, (∀ i, i < n → pu_bit s i → f i = g i) → pu_vf f s n = pu_vf g s n
  | 0, _ => rfl
  | n + 1, h => by
    have ih := pu_vf_congr (f := f) (g := g) (s := s) n (fun i hi hb => h i (by omega) hb)
    unfold pu_vf
    rw [ih]
    by_cases c : pu_bit s n
    · rw [h n (by omega) c]
    · rw [if_neg (fun z => c z.1), if_neg (fun z => c z.1)]
def pu_vb (T : Int → Int → Int) (cnt : Nat) : Nat → Int → Int → Nat × Int
  | 0, _, _ => (0, 0)
  | n + 1, s, d => pu_vf (fun i => ((n : Int) + 1) * T d i + (pu_vb T cnt n (pu_rm s i) i).2) s cnt
def pu_vl (cnt : Nat) (d : Int) : Prop := (0 ≤ d ∧ d < cnt) ∨ d = 7
theorem pu_vb_ok {T : Int → Int → Int} {cnt : Nat} (h7 : cnt ≤ 7) (hT : ∀ (d : Int) (i : Nat), pu_vl cnt d → i < cnt → 0 ≤ T d i ∧ T d i ≤ 4500) : ∀ (n s : Nat) (d : Int), pu_vl cnt d → (s : Int) < nb_shl 1 cnt → pu_ones s = n → (0 ≤ (pu_vb T cnt n s d).2 ∧ (pu_vb T cnt n s d).2 ≤ 31500 * n) ∧ (1 ≤ n → (pu_vb T cnt n s d).1 < cnt ∧ pu_bit s ((pu_vb T cnt n s d).1 : Nat))
  | 0, s, d, _, _, _ => ⟨by unfold pu_vb; omega, fun h => absurd h (by omega)⟩
  | n + 1, s, d, hd, hs, ho => by
    have hp := pu_pow7 cnt h7
    have hs7 : s < 128 := by omega
    have h7' := pu_ones_7 s hs7
    have ih : ∀ i : Nat, i < cnt → pu_bit s i → 0 ≤ (pu_vb T cnt n (pu_rm s i) i).2 ∧ (pu_vb T cnt n (pu_rm s i) i).2 ≤ 31500 * n := fun i hi hb => by
      have g := pu_rm_in s hs7 i (by omega) hb
      have g0 := pu_rm_all s hs7 i (by omega)
      obtain ⟨m, hm⟩ : ∃ m : Nat, pu_rm s i = m := ⟨(pu_rm s i).toNat, by omega⟩
      rw [hm] at g ⊢
      exact (pu_vb_ok h7 hT n m i (Or.inl ⟨by omega, by omega⟩) (by omega) (by omega)).1
    have hf : ∀ i : Nat, i < cnt → pu_bit s i → 0 ≤ ((n : Int) + 1) * T d i + (pu_vb T cnt n (pu_rm s i) i).2 ∧ ((n : Int) + 1) * T d i + (pu_vb T cnt n (pu_rm s i) i).2 ≤ 31500 * (n + 1) := fun i hi hb => by
      have g := ih i hi hb
      have t := hT d i hd hi
      have m := pu_mul (x := (n : Int) + 1) (y := T d i) (a := 7) (b := 4500) (by omega) t
      omega
    unfold pu_vb
    rcases pu_vf_or (f := fun i => ((n : Int) + 1) * T d i + (pu_vb T cnt n (pu_rm s i) i).2) (s := s) cnt with ⟨a, b⟩ | ⟨a, b, c⟩
    · exfalso
      obtain ⟨i, i1, i2⟩ := pu_ones_some s hs7 (fun z => by subst z; have w : pu_ones ((0 : Nat) : Int) = 0 := (by decide +kernel); omega)
      have i3 := pu_bit_lt cnt h7 s hs7 hs i i1 i2
      have g := b i i3 i2
      have g2 := hf i i3 i2
      omega
    · refine ⟨?_, fun _ => ⟨a, b⟩⟩
      rw [c]
      have g := hf _ a b
      exact ⟨g.1, by have := g.2; omega⟩
/-- the row that comes out -/
def pu_lx (T : Int → Int → Int) (cnt : Nat) : Nat → Int → Int → Nat → Nat
  | 0, _, _, _ => 0
  | n + 1, s, d, 0 => (pu_vb T cnt (n + 1) s d).1
  | n + 1, s, d, j + 1 => pu_lx T cnt n (pu_rm s ((pu_vb T cnt (n + 1) s d).1 : Nat)) ((pu_vb T cnt (n + 1) s d).1 : Nat) j
/-- numbers of those who wait -/
theorem pu_wn_none {R : Int → Int} {i : Int} : ∀ n : Nat, pu_cnt R 1 n ≤ i → pu_wn R i n = -1
  | 0, _ => rfl
  | n + 1, h => by
    unfold pu_cnt at h
    have ih := pu_wn_none (R := R) (i := i) n (by split at h <;> omega)
    unfold pu_wn
    rw [ih, if_neg (by decide)]
    by_cases c : R (12 + 8 * n) = 1 ∧ pu_cnt R 1 n = i
    · rw [if_pos c.1] at h
      omega
    · rw [if_neg c]
theorem pu_wn_some {R : Int → Int} {i : Int} : ∀ n : Nat, 0 ≤ i → i < pu_cnt R 1 n → pu_wn R i n ≠ -1
  | 0, h0, h => absurd h (by unfold pu_cnt; omega)
  | n + 1, h0, h => by
    unfold pu_cnt at h
    unfold pu_wn
    by_cases c : i < pu_cnt R 1 n
    · have ih := pu_wn_some (R := R) n h0 c
      rw [if_pos ih]
      exact ih
    · rw [pu_wn_none n (by omega), if_neg (by decide)]
      by_cases e : R (12 + 8 * n) = 1
      · rw [if_pos e] at h
        rw [if_pos ⟨e, by omega⟩]
        omega
      · rw [if_neg e] at h
        omega
theorem pu_wn_at {R : Int → Int} {p n : Nat} (hp : p < n) (hw : R (12 + 8 * p) = 1) : pu_wn R (pu_cnt R 1 p) n = p := by
  have e : pu_wn R (pu_cnt R 1 p) (p + 1) = p := by
    unfold pu_wn
    rw [pu_wn_none p (Int.le_refl _), if_neg (by decide), if_pos ⟨hw, rfl⟩]
  have g := pu_wn_end (R := R) (i := pu_cnt R 1 p) (k := p + 1) (by rw [e]; omega) (n - (p + 1))
  rw [show p + 1 + (n - (p + 1)) = n by omega] at g
  rw [g, e]
theorem pu_cnt_mono {R : Int → Int} {x : Int} : ∀ (m n : Nat), n ≤ m → pu_cnt R x n ≤ pu_cnt R x m
  | 0, n, h => by
    have : n = 0 := by omega
    subst this
    exact Int.le_refl _
  | m + 1, n, h => by
    by_cases e : n = m + 1
    · subst e
      exact Int.le_refl _
    · have ih := pu_cnt_mono (R := R) (x := x) m n (by omega)
      have e1 : pu_cnt R x (m + 1) = pu_cnt R x m + (if R (12 + 8 * m) = x then 1 else 0) := rfl
      have e2 : (0 : Int) ≤ (if R (12 + 8 * (m : Int)) = x then 1 else 0) := by
        by_cases c : R (12 + 8 * (m : Int)) = x
        · rw [if_pos c]; decide
        · rw [if_neg c]; decide
      omega
/-- the setting: who waits, what their times are -/
def pu_rw (M : nb_M) (i : Nat) : Int := pu_wn (M.1 608) i (M.1 606 5).toNat
def pu_rT (M : nb_M) (s : Int) (d i : Int) : Int := pu_tb (M.1 606) (if d = 7 then M.1 608 (92 + 4 * s + 3) - 1 else pu_rw M d.toNat) (pu_rw M i.toNat)
theorem pu_rw_ok {M : nb_M} {cnt : Nat} (hc : (cnt : Int) = pu_cnt (M.1 608) 1 (M.1 606 5).toNat) {i : Nat} (hi : i < cnt) : 0 ≤ pu_rw M i ∧ pu_rw M i < M.1 606 5 ∧ M.1 608 (12 + 8 * pu_rw M i) = 1 := by
  have a := pu_wn_some (R := M.1 608) (i := i) (M.1 606 5).toNat (by omega) (by omega)
  rcases pu_wn_rg (R := M.1 608) (i := i) (M.1 606 5).toNat with b | ⟨b, c, d⟩
  · exact absurd b a
  · exact ⟨b, by unfold pu_rw; omega, d⟩
theorem pu_rT_ok {M : nb_M} {cnt : Nat} {s : Int} (hr : pu_Rr (M.1 606)) (hc : (cnt : Int) = pu_cnt (M.1 608) 1 (M.1 606 5).toNat) (d : Int) (i : Nat) (hd : pu_vl cnt d) (hi : i < cnt) : 0 ≤ pu_rT M s d i ∧ pu_rT M s d i ≤ 4500 := by
  have n5 := hr.2.2.2.2.2.2.1
  have g := pu_rw_ok hc hi
  unfold pu_rT
  rw [show (i : Int).toNat = i from rfl]
  exact pu_tb_rg hr (by omega)
