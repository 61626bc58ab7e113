/-! CONTRACTS of the reference's small methods -/
theorem nb_WL {m k : Nat} {L L' st st' : List nb_V} {M M' : nb_M} {Q : List nb_V → nb_M → Prop} (g : nb_W m k L' st' M' Q) (h1 : L = L') (h2 : st = st') (h3 : M = M') : nb_W m k L st M Q := by
  subst h1 h2 h3
  exact g
theorem nb_Lc {a b : nb_V} {L L' : List nb_V} (h : a = b) (h2 : L = L') : a :: L = b :: L' := by subst h h2; rfl
theorem nb_Pc {t : Nat} {x y : Int} (h : x = y) : ((t, x) : nb_V) = (t, y) := by subst h; rfl
theorem pu_mul {x y a b : Int} (h1 : 0 ≤ x ∧ x ≤ a) (h2 : 0 ≤ y ∧ y ≤ b) : 0 ≤ x * y ∧ x * y ≤ a * b := ⟨Int.mul_nonneg h1.1 h2.1, Int.le_trans (Int.mul_le_mul_of_nonneg_right h1.2 h2.1) (Int.mul_le_mul_of_nonneg_left h2.2 (Int.le_trans h1.1 h1.2))⟩
/-- bounds of what is told -/
def pu_Rr (r : Int → Int) : Prop :=
  (∀ d, 0 ≤ d → d < 5 → (0 ≤ r (8 + 3 * d) ∧ r (8 + 3 * d) ≤ 90) ∧ (0 ≤ r (8 + 3 * d + 1) ∧ r (8 + 3 * d + 1) ≤ 90) ∧ (0 ≤ r (8 + 3 * d + 2) ∧ r (8 + 3 * d + 2) ≤ 99) ∧ r (8 + 3 * d + 1) ≤ r (8 + 3 * d)) ∧
  (∀ p d, 0 ≤ p → p < 10 → 0 ≤ d → d < 5 → 0 ≤ r (111 + 5 * p + d) ∧ r (111 + 5 * p + d) ≤ 9) ∧
  (0 ≤ r 1 ∧ r 1 ≤ 20) ∧ (0 ≤ r 2 ∧ r 2 ≤ 600) ∧ (0 ≤ r 3 ∧ r 3 ≤ 5) ∧ (0 ≤ r 4 ∧ r 4 ≤ 3) ∧ (0 ≤ r 5 ∧ r 5 ≤ 10) ∧ (0 ≤ r 6 ∧ r 6 ≤ 10) ∧ (0 ≤ r 7 ∧ r 7 ≤ 8)
theorem pu_tt_rg {r : Int → Int} (hr : pu_Rr r) {last p d : Int} (hp : 0 ≤ p ∧ p ≤ 9) (hd : 0 ≤ d ∧ d < 5) : 0 ≤ pu_tt r last p d ∧ pu_tt r last p d ≤ 900 := by
  have h1 := hr.1 d hd.1 hd.2
  have h2 := hr.2.1 p d hp.1 (by omega) hd.1 hd.2
  have h3 := pu_mul h2 h1.2.1
  unfold pu_tt
  split
  · omega
  · split <;> omega
theorem pu_tbs_rg {r : Int → Int} (hr : pu_Rr r) {last p : Int} (hp : 0 ≤ p ∧ p ≤ 9) : ∀ n : Nat, n ≤ 5 → 0 ≤ pu_tbs r last p n ∧ pu_tbs r last p n ≤ 900 * n
  | 0, _ => by
    unfold pu_tbs
    omega
  | n + 1, h => by
    have h1 := pu_tbs_rg hr hp (last := last) n (by omega)
    have h2 := pu_tt_rg hr hp (last := last) (d := n) (by omega)
    unfold pu_tbs
    omega
theorem pu_tb_rg {r : Int → Int} (hr : pu_Rr r) {last p : Int} (hp : 0 ≤ p ∧ p ≤ 9) : 0 ≤ pu_tb r last p ∧ pu_tb r last p ≤ 4500 := pu_tbs_rg hr hp 5 (Nat.le_refl 5)
theorem sp_m_timeBehind {M : nb_M} {last p : Int} (W : nb_Lay M) (hr : pu_Rr (M.1 606)) (hl : -1 ≤ last ∧ last ≤ 9) (hp : 0 ≤ p ∧ p ≤ 9) : nb_R nb_P 129 0 [(20, 603), (0, last), (0, p), (98, 0), (98, 0), (98, 0), (98, 0)] [] M = some ([(0, pu_tb (M.1 606) last p)], M) := by
  apply nb_Wq
  refine w_m_timeBehind_0 W ?_
  suffices h : ∀ (n k : Nat), k + n = 5 → ∀ v5 v6, nb_W 129 1 [(20, 603), (0, last), (0, p), (0, pu_tbs (M.1 606) last p k), (0, (k : Int)), v5, v6] [] M (fun r' M' => r' = [(0, pu_tb (M.1 606) last p)] ∧ M' = M) from h 5 0 rfl _ _
  intro n
  induction n with
  | zero =>
    intro k hk v5 v6
    obtain rfl : k = 5 := by omega
    refine w_m_timeBehind_1 W hl hp (by omega) ⟨fun h => absurd h (by omega), fun _ => ⟨rfl, rfl⟩⟩
  | succ n ih =>
    intro k hk v5 v6
    have h1 := hr.1 k (by omega) (by omega)
    have h2 := hr.2.1 p k (by omega) (by omega) (by omega) (by omega)
    have h3 := pu_mul h2 h1.2.1
    have h4 := pu_tbs_rg hr hp (last := last) k (by omega)
    have e : pu_tbs (M.1 606) last p (k + 1) = pu_tbs (M.1 606) last p k + pu_tt (M.1 606) last p k := rfl
    have ih := ih (k + 1) (by omega)
    rw [e] at ih
    unfold pu_tt at ih
    refine w_m_timeBehind_1 W hl hp (by omega) ?_
    repeat' (first | apply And.intro | intro _)
    all_goals first | omega | (refine nb_WL (ih ?_ ?_) ?_ rfl rfl; rotate_left 2; (repeat' (first | with_reducible rfl | refine nb_Lc ?_ ?_ | refine nb_Pc ?_)) <;> simp [*] <;> omega)
theorem pu_cos_rg {r : Int → Int} (hr : pu_Rr r) {p : Int} (hp : 0 ≤ p ∧ p ≤ 9) : ∀ n : Nat, n ≤ 5 → 0 ≤ pu_cos r p n ∧ pu_cos r p n ≤ 900 * n
  | 0, _ => by
    unfold pu_cos
    omega
  | n + 1, h => by
    have h1 := pu_cos_rg hr hp n (by omega)
    have h2 := hr.1 n (by omega) (by omega)
    have h3 := hr.2.1 p n hp.1 (by omega) (by omega) (by omega)
    have h4 := pu_mul h3 h2.2.2.1
    unfold pu_cos
    omega
theorem sp_m_costsOf {M : nb_M} {p : Int} (W : nb_Lay M) (hr : pu_Rr (M.1 606)) (hp : 0 ≤ p ∧ p ≤ 9) : nb_R nb_P 141 0 [(20, 603), (0, p), (98, 0), (98, 0)] [] M = some ([(0, pu_co (M.1 606) p)], M) := by
  apply nb_Wq
  refine w_m_costsOf_0 W ?_
  suffices h : ∀ (n k : Nat), k + n = 5 → nb_W 141 1 [(20, 603), (0, p), (0, pu_cos (M.1 606) p k), (0, (k : Int))] [] M (fun r' M' => r' = [(0, pu_co (M.1 606) p)] ∧ M' = M) from h 5 0 rfl
  intro n
  induction n with
  | zero =>
    intro k hk
    obtain rfl : k = 5 := by omega
    refine w_m_costsOf_1 W hp (by omega) ⟨fun h => absurd h (by omega), fun _ => ⟨rfl, rfl⟩⟩
  | succ n ih =>
    intro k hk
    have h2 := hr.1 k (by omega) (by omega)
    have h3 := hr.2.1 p k hp.1 (by omega) (by omega) (by omega)
    have h4 := pu_mul h3 h2.2.2.1
    have h5 := pu_cos_rg hr hp k (by omega)
    have ih := ih (k + 1) (by omega)
    refine w_m_costsOf_1 W hp (by omega) ⟨fun h => ?_, fun h => absurd h (by omega)⟩
    repeat' (first | apply And.intro | intro _)
    all_goals first | omega | exact ih
/-- bounds of a row -/
def pu_Rw (R : Int → Int) : Prop :=
  (∀ p, 0 ≤ p → p ≤ 9 → (0 ≤ R (12 + 8 * p) ∧ R (12 + 8 * p) ≤ 5) ∧ (0 ≤ R (12 + 8 * p + 1) ∧ R (12 + 8 * p + 1) ≤ 19) ∧ (0 ≤ R (12 + 8 * p + 2) ∧ R (12 + 8 * p + 2) ≤ 99) ∧ (-100000 ≤ R (12 + 8 * p + 3) ∧ R (12 + 8 * p + 3) ≤ 100000) ∧ (-2 ≤ R (12 + 8 * p + 4) ∧ R (12 + 8 * p + 4) ≤ 10000) ∧ (-2 ≤ R (12 + 8 * p + 5) ∧ R (12 + 8 * p + 5) ≤ 100000) ∧ (-2 ≤ R (12 + 8 * p + 6) ∧ R (12 + 8 * p + 6) ≤ 3) ∧ (-2 ≤ R (12 + 8 * p + 7) ∧ R (12 + 8 * p + 7) ≤ 10000)) ∧
  (∀ s, 0 ≤ s → s ≤ 3 → (0 ≤ R (92 + 4 * s) ∧ R (92 + 4 * s) ≤ 19) ∧ (0 ≤ R (92 + 4 * s + 1) ∧ R (92 + 4 * s + 1) ≤ 100000) ∧ (0 ≤ R (92 + 4 * s + 2) ∧ R (92 + 4 * s + 2) ≤ 100000) ∧ (0 ≤ R (92 + 4 * s + 3) ∧ R (92 + 4 * s + 3) ≤ 10)) ∧
  (0 ≤ R 0 ∧ R 0 ≤ 10000) ∧ (0 ≤ R 1 ∧ R 1 ≤ 10) ∧ (∀ k, 0 ≤ k → k < R 1 → 0 ≤ R (2 + k) ∧ R (2 + k) ≤ 9)
theorem sp_m_turn {M : nb_M} {A s p : Int} {v4 v5 : nb_V} (W : nb_Lay M) (h0 : A ≠ 0) (h1 : A ≠ 1) (hl : nb_ln M A = 108) (hR : pu_Rw (M.1 A)) (hs : 0 ≤ s ∧ s ≤ 3) (hp : 0 ≤ p ∧ p ≤ 9) : nb_R nb_P 130 0 [(20, 603), (3, A), (0, s), (0, p), v4, v5] [] M = some ([(0, pu_tn (M.1 612) (M.1 613) (M.1 A) s p)], M) := by
  have h2 := hR.1 p hp.1 hp.2
  have h3 := hR.2.1 s hs.1 hs.2
  apply nb_Wq
  refine w_m_turn_0 W h0 h1 hl hs hp h2.2.1 h3.1 h2.2.2.1 ?_
  unfold pu_tn pu_far
  repeat' (first | apply And.intro | intro _)
  all_goals first | omega | rfl | (simp [*] <;> omega)
theorem sp_m_far {M : nb_M} {a b : Int} (ha : -1000000 ≤ a ∧ a ≤ 1000000) (hb : -1000000 ≤ b ∧ b ≤ 1000000) : nb_R nb_P 127 0 [(0, a), (0, b)] [] M = some ([(0, pu_far a b)], M) := by
  apply nb_Wq
  refine w_m_far_0 ha hb ?_
  unfold pu_far
  repeat' (first | apply And.intro | intro _)
  all_goals first | omega | rfl | (simp [*] <;> omega)
