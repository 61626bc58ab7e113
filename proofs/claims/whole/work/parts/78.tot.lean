/-! CONTRACTS: added, total, waitsOfSet; the class's sums are the reference's -/
def pu_adt (r pe R : Int → Int) (bell w p : Int) : Int := if w = 3 then pu_wc pe R bell p else if w = 4 then pu_ones (pu_pa pe R p) else if w = 5 then (if R (12 + 8 * p) = 2 ∨ R (12 + 8 * p) = 3 then pu_co r p else 0) else 0
def pu_ad (r pe R : Int → Int) (bell w : Int) : Nat → Int
  | 0 => 0
  | n + 1 => pu_ad r pe R bell w n + pu_adt r pe R bell w n
theorem pu_wc_rg {pe R : Int → Int} {bell p : Int} (hR : pu_Rw R) (hP : pu_Rp pe) (hb : 0 ≤ bell ∧ bell ≤ 9000) (hp : 0 ≤ p ∧ p ≤ 9) : -700 ≤ pu_wc pe R bell p ∧ pu_wc pe R bell p ≤ 10000 := by
  have q := hR.1 p hp.1 hp.2
  have q2 := (hP p hp.1 hp.2).2.2.1
  unfold pu_wc
  (repeat' split) <;> omega
theorem pu_adt_rg {r pe R : Int → Int} {bell w p : Int} (hr : pu_Rr r) (hR : pu_Rw R) (hP : pu_Rp pe) (hb : 0 ≤ bell ∧ bell ≤ 9000) (hp : 0 ≤ p ∧ p ≤ 9) : -700 ≤ pu_adt r pe R bell w p ∧ pu_adt r pe R bell w p ≤ 10000 := by
  have h1 := pu_co_rg hr hp
  have h2 := pu_wc_rg hR hP hb hp
  have h3 := pu_onesn_rg (s := pu_pa pe R p) 10 (Nat.le_refl 10)
  unfold pu_adt pu_ones
  (repeat' split) <;> omega
theorem pu_ad_rg {r pe R : Int → Int} {bell w : Int} (hr : pu_Rr r) (hR : pu_Rw R) (hP : pu_Rp pe) (hb : 0 ≤ bell ∧ bell ≤ 9000) : ∀ n : Nat, n ≤ 10 → -700 * n ≤ pu_ad r pe R bell w n ∧ pu_ad r pe R bell w n ≤ 10000 * n
  | 0, _ => by
    unfold pu_ad
    omega
  | n + 1, h => by
    have h1 := pu_ad_rg (w := w) hr hR hP hb n (by omega)
    have h2 := pu_adt_rg (w := w) (p := n) hr hR hP hb (by omega)
    unfold pu_ad
    omega
theorem sp_sc_added {M : nb_M} {A Ho np ns w bell : Int} {cr pe R r : Int → Int} {v2 v3 : nb_V} (W : nb_Lay M) (hA : nb_sc A) (hHo : nb_hs Ho) (hAh : M.1 A 3 = Ho) (hr : pu_Rr r) (hh : pu_Ho M Ho r) (hnp : np = r 5) (hR : pu_Rw R) (hP : pu_Rp pe) (hS : pu_S M A np ns cr pe R) (hX : pu_X M A np pe R) (h8 : M.1 A 8 = bell) (hb : 0 ≤ bell ∧ bell ≤ 9000) : nb_R nb_P 269 0 [(15, A), (0, w), v2, v3] [] M = some ([(0, pu_ad r pe R bell w np.toNat)], M) := by
  have hn := hr.2.2.2.2.2.2.1
  apply nb_Wq
  refine w_sc_added_0 W hA hHo hAh ?_
  suffices h : ∀ (n k : Nat), k + n = np.toNat → nb_W 269 1 [(15, A), (0, w), (0, pu_ad r pe R bell w k), (0, (k : Int))] [] M (fun r' M' => r' = [(0, pu_ad r pe R bell w np.toNat)] ∧ M' = M) from h _ 0 (Nat.zero_add _)
  intro n
  induction n with
  | zero =>
    intro k hk
    have h1 := pu_ad_rg (w := w) hr hR hP hb k (by omega)
    refine w_sc_added_1 W hA hHo hAh hr hh h8 (cr := cr) (pe := pe) (R := R) (np := np) (ns := ns) (by omega) (by omega) ?_
    rw [hS.1]
    refine ⟨by omega, by omega, fun h => absurd h (by omega), fun _ => ⟨?_, rfl⟩⟩
    rw [show np.toNat = k by omega]
  | succ n ih =>
    intro k hk
    have ih := ih (k + 1) (by omega)
    have h1 := pu_ad_rg (w := w) hr hR hP hb k (by omega)
    have e2 : pu_ad r pe R bell w (k + 1) = pu_ad r pe R bell w k + pu_adt r pe R bell w k := rfl
    rw [e2] at ih
    unfold pu_adt at ih
    obtain ⟨g0, g2, g3, g4, g5, g6, g7, g8, -⟩ := hS.2.2.2.2.1 k (by omega) (by omega)
    have x13 := (hX k (by omega) (by omega)).2.2.1
    have q1 := pu_co_rg hr (p := k) (by omega)
    have q2 := pu_wc_rg hR hP hb (p := k) (by omega)
    have q3 := pu_onesn_rg (s := pu_pa pe R k) 10 (Nat.le_refl 10)
    have q4 : pu_ones (pu_pa pe R k) = pu_onesn (pu_pa pe R k) 10 := rfl
    have q5 := pu_pa_rg (pe := pe) (p := k) hR
    have q6 := (hP k (by omega) (by omega)).2.2.1
    refine w_sc_added_1 W hA hHo hAh hr hh h8 (cr := cr) (pe := pe) (R := R) (np := np) (ns := ns) (by omega) (by omega) ?_
    rw [hS.1, g8, x13]
    refine ⟨by omega, by omega, fun _ => ?_, fun h => absurd h (by omega)⟩
    clear g0 g2 g3 g4 g5 g6 g7 g8 x13
    repeat' (first | assumption | with_reducible apply And.intro | intro _)
    all_goals first
      | assumption
      | omega
      | (clear q1 q2 q3 q4 q5 q6
         (repeat (first | rw [if_pos (by omega)] at ih | rw [if_neg (by omega)] at ih))
         first | exact ih | (rw [Int.add_zero] at ih; exact ih))
def pu_ws (pe R : Int → Int) (bell set : Int) : Nat → Int
  | 0 => 0
  | n + 1 => pu_ws pe R bell set n + (if nb_and (nb_shr set n) 1 = 1 then pu_wc pe R bell n else 0)
theorem pu_ws_rg {pe R : Int → Int} {bell set : Int} (hR : pu_Rw R) (hP : pu_Rp pe) (hb : 0 ≤ bell ∧ bell ≤ 9000) : ∀ n : Nat, n ≤ 10 → -700 * n ≤ pu_ws pe R bell set n ∧ pu_ws pe R bell set n ≤ 10000 * n
  | 0, _ => by
    unfold pu_ws
    omega
  | n + 1, h => by
    have h1 := pu_ws_rg (set := set) hR hP hb n (by omega)
    have h2 := pu_wc_rg (p := n) hR hP hb (by omega)
    unfold pu_ws
    split <;> omega
theorem sp_sc_waitsOfSet {M : nb_M} {A np ns set bell : Int} {cr pe R : Int → Int} {v2 v3 : nb_V} (W : nb_Lay M) (hA : nb_sc A) (hnp : 0 ≤ np ∧ np ≤ 10) (hR : pu_Rw R) (hP : pu_Rp pe) (hS : pu_S M A np ns cr pe R) (hX : pu_X M A np pe R) (h8 : M.1 A 8 = bell) (hb : 0 ≤ bell ∧ bell ≤ 9000) : nb_R nb_P 270 0 [(15, A), (0, set), v2, v3] [] M = some ([(0, pu_ws pe R bell set np.toNat)], M) := by
  apply nb_Wq
  refine w_sc_waitsOfSet_0 W hA ?_
  suffices h : ∀ (n k : Nat), k + n = np.toNat → nb_W 270 1 [(15, A), (0, set), (0, pu_ws pe R bell set k), (0, (k : Int))] [] M (fun r' M' => r' = [(0, pu_ws pe R bell set np.toNat)] ∧ M' = M) from h _ 0 (Nat.zero_add _)
  intro n
  induction n with
  | zero =>
    intro k hk
    have h1 := pu_ws_rg (set := set) hR hP hb k (by omega)
    refine w_sc_waitsOfSet_1 W hA h8 (cr := cr) (pe := pe) (R := R) (np := np) (ns := ns) (by omega) (by omega) ?_
    rw [hS.1]
    refine ⟨by omega, by omega, fun h => absurd h (by omega), fun _ => ⟨?_, rfl⟩⟩
    rw [show np.toNat = k by omega]
  | succ n ih =>
    intro k hk
    have ih := ih (k + 1) (by omega)
    have h1 := pu_ws_rg (set := set) hR hP hb k (by omega)
    have e2 : pu_ws pe R bell set (k + 1) = pu_ws pe R bell set k + (if nb_and (nb_shr set k) 1 = 1 then pu_wc pe R bell k else 0) := rfl
    rw [e2] at ih
    have q2 := pu_wc_rg hR hP hb (p := k) (by omega)
    have q6 := (hP k (by omega) (by omega)).2.2.1
    refine w_sc_waitsOfSet_1 W hA h8 (cr := cr) (pe := pe) (R := R) (np := np) (ns := ns) (by omega) (by omega) ?_
    rw [hS.1]
    refine ⟨by omega, by omega, fun _ => ⟨fun c => ⟨by omega, by omega, by omega, hR, by omega, by omega, hS, hX, by omega, by omega, by omega, by omega, ?_⟩, fun c => ?_⟩, fun h => absurd h (by omega)⟩
    · rw [if_pos c] at ih
      exact ih
    · rw [if_neg c, Int.add_zero] at ih
      exact ih
/-! the same -/
theorem pu_pa_away {pe R : Int → Int} {np t p : Int} (hp : 0 ≤ p ∧ p < np) (hR : pu_Rw R) (hb : pu_Hb pe R np t) (h0 : R (12 + 8 * p) = 0) : pu_pa pe R p = 0 := by
  have h1 := hR.2.2.2.1
  have hc := (hb.1 p hp.1 hp.2).1 h0
  have : ∀ n : Nat, (n : Int) ≤ R 1 → pu_pas pe R p n = (0, false) := by
    intro n
    induction n with
    | zero => intro _; rfl
    | succ n ih =>
      intro hn
      obtain ⟨w0, w1, w2⟩ := hb.2 n (by omega) (by omega)
      have w3 := ((hb.1 _ w0 w1).2.2.1 w2).2.1
      rw [pu_pas, ih (by omega), if_neg (by decide), if_neg (fun e => by rw [e] at w2; omega), if_neg (by omega)]
  unfold pu_pa
  rw [this _ (by omega)]
theorem pu_sut_adt {r pe R : Int → Int} {np t bell w p : Int} (hp : 0 ≤ p ∧ p < np) (hR : pu_Rw R) (hnp : np ≤ 10) (hb : pu_Hb pe R np t) : pu_sut r pe R bell w p = if w = 0 then (if R (12 + 8 * p) = 2 then 1 else 0) + (if R (12 + 8 * p) = 3 then 1 else 0) else if w = 1 then (if R (12 + 8 * p) = 4 then 1 else 0) else if w = 2 then (if R (12 + 8 * p) = 1 then 1 else 0) else if w = 3 then pu_wc pe R bell p else if w = 4 then pu_ones (pu_pa pe R p) else (if R (12 + 8 * p) = 2 ∨ R (12 + 8 * p) = 3 then pu_co r p else 0) := by
  have hd := (hR.1 p hp.1 (by omega)).1
  obtain ⟨b0, b1, b2, b3, b5⟩ := hb.1 p hp.1 hp.2
  replace b2 := fun z => (b2 z).1
  have hz : R (12 + 8 * p) = 0 → pu_pa pe R p = 0 := pu_pa_away hp hR hb
  have ho : pu_ones 0 = 0 := by decide
  have hd' : R (12 + 8 * p) = 0 ∨ R (12 + 8 * p) = 1 ∨ R (12 + 8 * p) = 2 ∨ R (12 + 8 * p) = 3 ∨ R (12 + 8 * p) = 4 ∨ R (12 + 8 * p) = 5 := by omega
  unfold pu_sut pu_wc pu_wo pu_fo
  rcases hd' with h | h | h | h | h | h
  · simp [h, hz h, ho]
  · have q := b1 h
    simp [h, q.2.1, q.2.2]
  · have q : R (12 + 8 * p + 4) ≠ -2 := by have := b2 h; omega
    simp [h, q]
  · have q := b3 (Or.inl h)
    have q2 : R (12 + 8 * p + 7) ≠ -2 := by omega
    simp [h, q.1, q2]
  · have q := b3 (Or.inr h)
    have q2 : R (12 + 8 * p + 7) ≠ -2 := by omega
    simp [h, q.1, q2]
  · simp [h]
/-- the class's total -/
def pu_tot (r pe R : Int → Int) (np bell w : Int) : Int := if w = 0 then pu_cnt R 2 np.toNat + pu_cnt R 3 np.toNat else if w = 1 then pu_cnt R 4 np.toNat else if w = 2 then pu_cnt R 1 np.toNat else pu_ad r pe R bell w np.toNat
theorem pu_tot_sum {r pe R : Int → Int} {np t bell w : Int} (hR : pu_Rw R) (hnp : np ≤ 10) (hb : pu_Hb pe R np t) (hw : 0 ≤ w ∧ w ≤ 5) : pu_tot r pe R np bell w = pu_sum r pe R np bell w := by
  have : ∀ n : Nat, (n : Int) ≤ np → (if w = 0 then pu_cnt R 2 n + pu_cnt R 3 n else if w = 1 then pu_cnt R 4 n else if w = 2 then pu_cnt R 1 n else pu_ad r pe R bell w n) = pu_sun r pe R bell w n := by
    intro n
    induction n with
    | zero =>
      intro _
      unfold pu_cnt pu_ad pu_sun
      (repeat' split) <;> rfl
    | succ n ih =>
      intro hn
      have ih := ih (by omega)
      have e := pu_sut_adt (r := r) (bell := bell) (w := w) (p := n) ⟨by omega, by omega⟩ hR hnp hb
      have hw' : w = 0 ∨ w = 1 ∨ w = 2 ∨ w = 3 ∨ w = 4 ∨ w = 5 := by omega
      show _ = pu_sun r pe R bell w n + pu_sut r pe R bell w n
      rw [e, ← ih]
      have c2 : ∀ x, pu_cnt R x (n + 1) = pu_cnt R x n + (if R (12 + 8 * n) = x then 1 else 0) := fun _ => rfl
      have a2 : pu_ad r pe R bell w (n + 1) = pu_ad r pe R bell w n + pu_adt r pe R bell w n := rfl
      rw [c2, c2, c2, c2, a2]
      unfold pu_adt
      clear c2 a2 ih e
      rcases hw' with rfl | rfl | rfl | rfl | rfl | rfl
      · simp only [if_true]
        omega
      all_goals simp
  by_cases h0 : 0 ≤ np
  · exact this np.toNat (by omega)
  · unfold pu_tot pu_sum
    rw [show np.toNat = 0 by omega]
    unfold pu_cnt pu_ad pu_sun
    (repeat' split) <;> rfl
