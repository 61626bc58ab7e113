/-! THE CLASS IN WORDS OF THE REFERENCE: a house, a scene; contracts of its small methods -/
def pu_sf (r : Int → Int) (p : Int) : Int := if r (41 + 7 * p) = 1 then r (41 + 7 * p + 2) - r (41 + 7 * p + 1) else if r (41 + 7 * p) = 2 then r (41 + 7 * p + 2) + r (41 + 7 * p + 1) else r (41 + 7 * p + 2)
def pu_she (x : Int) : Int := if x = 0 then -2 else x - 1
/-- a person as told -/
def pu_Gt (g r : Int → Int) (p : Int) : Prop := (g 0 = r (41 + 7 * p) ∧ g 1 = r (41 + 7 * p + 1) ∧ g 2 = r (41 + 7 * p + 2) ∧ g 3 = r (41 + 7 * p + 3) ∧ g 4 = r (41 + 7 * p + 4) ∧ g 5 = r (41 + 7 * p + 5) ∧ g 6 = pu_she (r (41 + 7 * p + 6)) ∧ g 7 = pu_sf r p) ∧ (g 8 = 0 ∧ g 9 = -2 ∧ g 10 = -2 ∧ g 12 = -2 ∧ g 13 = 0 ∧ g 14 = 0)
/-- one of the staff as told -/
def pu_Vt (v f r : Int → Int) (s : Int) : Prop := v 1 = r (23 + 6 * s) ∧ v 2 = r (23 + 6 * s + 1) ∧ v 3 = r (23 + 6 * s + 2) ∧ v 4 = r (23 + 6 * s + 3) ∧ v 5 = r (23 + 6 * s + 4) ∧ v 6 = r (23 + 6 * s + 5) ∧ v 7 = -1 ∧ f 0 = 0 ∧ f 1 = 0
/-- a house that holds what is told -/
def pu_Ho (M : nb_M) (Ho : Int) (r : Int → Int) : Prop :=
  (M.1 Ho 9 = r 1 ∧ M.1 Ho 10 = r 2 ∧ M.1 Ho 11 = r 3 ∧ M.1 Ho 12 = r 4 ∧ M.1 Ho 13 = r 5 ∧ M.1 Ho 14 = r 6 ∧ M.1 Ho 15 = r 7) ∧
  (∀ d, 0 ≤ d → d < r 3 → M.1 (Ho + 1) d = r (8 + 3 * d) ∧ M.1 (Ho + 2) d = r (8 + 3 * d + 1) ∧ M.1 (Ho + 3) d = r (8 + 3 * d + 2)) ∧
  (∀ p d, 0 ≤ p → p < r 5 → 0 ≤ d → d < 5 → M.1 (Ho + 5 + p) d = r (111 + 5 * p + d)) ∧
  (∀ p d, 0 ≤ p → p < 10 → r 3 ≤ d → d < 5 → r (111 + 5 * p + d) = 0) ∧
  (∀ p, 0 ≤ p → p < r 5 → pu_Gt (M.1 (Ho + 20 + p)) r p) ∧
  (∀ s, 0 ≤ s → s < r 4 → pu_Vt (M.1 (Ho + 30 + 2 * s)) (M.1 (Ho + 30 + 2 * s + 1)) r s) ∧
  (∀ k, 0 ≤ k → k < r 7 → M.1 (Ho + 17) k = r (161 + 3 * k) ∧ M.1 (Ho + 18) k = r (161 + 3 * k + 1) ∧ M.1 (Ho + 19) k = r (161 + 3 * k + 2))
theorem pu_tbs_end {r : Int → Int} {last p : Int} {m : Nat} (h : ∀ d : Nat, m ≤ d → d < 5 → r (111 + 5 * p + d) = 0) : ∀ n : Nat, m + n ≤ 5 → pu_tbs r last p (m + n) = pu_tbs r last p m
  | 0, _ => rfl
  | n + 1, hn => by
    show pu_tbs r last p (m + n) + pu_tt r last p ((m + n : Nat) : Int) = _
    rw [pu_tbs_end h n (by omega)]
    unfold pu_tt
    rw [if_pos (h (m + n) (by omega) (by omega))]
    omega
theorem sp_h_timeBehind {M : nb_M} {Ho last p : Int} {v3 v4 v5 v6 : nb_V} {r : Int → Int} (W : nb_Lay M) (hHo : nb_hs Ho) (hr : pu_Rr r) (hh : pu_Ho M Ho r) (hl : -1 ≤ last ∧ last < r 5) (hp : 0 ≤ p ∧ p < r 5) : nb_R nb_P 220 0 [(12, Ho), (0, last), (0, p), v3, v4, v5, v6] [] M = some ([(0, pu_tb r last p)], M) := by
  have hd3 := hr.2.2.2.2.1
  have hd5 := hr.2.2.2.2.2.2.1
  have he : pu_tb r last p = pu_tbs r last p (r 3).toNat := by
    have := pu_tbs_end (r := r) (last := last) (p := p) (m := (r 3).toNat) (fun d h1 h2 => hh.2.2.2.1 p d (by omega) (by omega) (by omega) (by omega)) (5 - (r 3).toNat) (by omega)
    rw [show (r 3).toNat + (5 - (r 3).toNat) = 5 by omega] at this
    exact this
  apply nb_Wq
  refine w_h_timeBehind_0 W hHo ?_
  suffices h : ∀ (n k : Nat), k + n = (r 3).toNat → ∀ v5 v6, nb_W 220 1 [(12, Ho), (0, last), (0, p), (0, pu_tbs r last p k), (0, (k : Int)), v5, v6] [] M (fun r' M' => r' = [(0, pu_tb r last p)] ∧ M' = M) from h _ 0 (Nat.zero_add _) _ _
  intro n
  induction n with
  | zero =>
    intro k hk v5 v6
    obtain rfl : k = (r 3).toNat := by omega
    refine w_h_timeBehind_1 W hHo (by omega) (by omega) (by omega) ?_
    rw [hh.1.2.2.1]
    exact ⟨hd3.1, hd3.2, fun h => absurd h (by omega), fun _ => ⟨by rw [he], rfl⟩⟩
  | succ n ih =>
    intro k hk v5 v6
    have ih := ih (k + 1) (by omega)
    have h1 := hr.1 k (by omega) (by omega)
    have h2 := hr.2.1 p k (by omega) (by omega) (by omega) (by omega)
    have h3 := pu_mul h2 h1.2.1
    have h4 := pu_tbs_rg hr (p := p) (by omega) (last := last) k (by omega)
    have g1 := hh.2.1 k (by omega) (by omega)
    have g2 := hh.2.2.1 p k (by omega) (by omega) (by omega) (by omega)
    have e1 : (r (111 + 5 * p + k) - 1) * r (8 + 3 * k + 1) = r (111 + 5 * p + k) * r (8 + 3 * k + 1) - r (8 + 3 * k + 1) := by rw [Int.sub_mul, Int.one_mul]
    have e : pu_tbs r last p (k + 1) = pu_tbs r last p k + pu_tt r last p k := rfl
    rw [e] at ih
    have hq : ∀ x, x = pu_tbs r last p k + pu_tt r last p k → ∀ v5 v6, nb_W 220 12 [(12, Ho), (0, last), (0, p), (0, x), (0, (k : Int)), v5, v6] [] M (fun r' M' => r' = [(0, pu_tb r last p)] ∧ M' = M) := by
      intro x hx v5 v6
      subst hx
      exact w_h_timeBehind_12 W hHo (by omega) (ih v5 v6)
    unfold pu_tt at hq
    refine w_h_timeBehind_1 W hHo (by omega) (by omega) (by omega) ?_
    rw [hh.1.2.2.1, hh.1.2.2.2.2.1, g1.1, g1.2.1, g2]
    by_cases hl0 : 0 ≤ last
    · have g3 := hh.2.2.1 last k (by omega) (by omega) (by omega) (by omega)
      have h5 := hr.2.1 last k (by omega) (by omega) (by omega) (by omega)
      rw [g3]
      repeat' (first | with_reducible apply And.intro | intro _)
      all_goals first | omega | (refine hq _ ?_ _ _; (repeat' split) <;> omega)
    · repeat' (first | with_reducible apply And.intro | intro _)
      all_goals first | omega | (refine hq _ ?_ _ _; (repeat' split) <;> omega)
theorem sp_h_priceOf {M : nb_M} {Ho p : Int} {v2 v3 : nb_V} {r : Int → Int} (W : nb_Lay M) (hHo : nb_hs Ho) (hr : pu_Rr r) (hh : pu_Ho M Ho r) (hp : 0 ≤ p ∧ p < r 5) : nb_R nb_P 221 0 [(12, Ho), (0, p), v2, v3] [] M = some ([(0, pu_co r p)], M) := by
  have hd3 := hr.2.2.2.2.1
  have hd5 := hr.2.2.2.2.2.2.1
  have hz : ∀ m : Nat, (r 3).toNat ≤ m → m ≤ 5 → pu_cos r p m = pu_cos r p (r 3).toNat := by
    intro m
    induction m with
    | zero => intro h1 _; rw [show (r 3).toNat = 0 by omega]
    | succ m ih =>
      intro h1 h2
      by_cases e : (r 3).toNat = m + 1
      · rw [e]
      · have := hh.2.2.2.1 p m (by omega) (by omega) (by omega) (by omega)
        show pu_cos r p m + _ = _
        rw [ih (by omega) (by omega), this]
        omega
  have he : pu_co r p = pu_cos r p (r 3).toNat := hz 5 (by omega) (by omega)
  apply nb_Wq
  refine w_h_priceOf_0 W hHo ?_
  suffices h : ∀ (n k : Nat), k + n = (r 3).toNat → nb_W 221 1 [(12, Ho), (0, p), (0, pu_cos r p k), (0, (k : Int))] [] M (fun r' M' => r' = [(0, pu_co r p)] ∧ M' = M) from h _ 0 (Nat.zero_add _)
  intro n
  induction n with
  | zero =>
    intro k hk
    obtain rfl : k = (r 3).toNat := by omega
    refine w_h_priceOf_1 W hHo (by omega) (by omega) ?_
    rw [hh.1.2.2.1]
    exact ⟨hd3.1, hd3.2, fun h => absurd h (by omega), fun _ => ⟨by rw [he], rfl⟩⟩
  | succ n ih =>
    intro k hk
    have ih := ih (k + 1) (by omega)
    have h1 := hr.1 k (by omega) (by omega)
    have h2 := hr.2.1 p k (by omega) (by omega) (by omega) (by omega)
    have h3 := pu_mul h2 h1.2.2.1
    have h4 := pu_cos_rg hr (p := p) (by omega) k (by omega)
    have g1 := hh.2.1 k (by omega) (by omega)
    have g2 := hh.2.2.1 p k (by omega) (by omega) (by omega) (by omega)
    refine w_h_priceOf_1 W hHo (by omega) (by omega) ?_
    rw [hh.1.2.2.1, g1.2.2, g2]
    repeat' (first | with_reducible apply And.intro | intro _)
    all_goals first | omega | exact ih
/-- who came behind whom -/
def pu_bh (pe : Int → Int) (q p : Int) : Prop := pe (7 * p + 2) < pe (7 * q + 2) ∨ (pe (7 * q + 2) = pe (7 * p + 2) ∧ p < q)
/-- how late someone's turn is, as the class counts -/
def pu_rk (cr pe R : Int → Int) (s p : Int) : Int := if cr (6 * s) = 0 ∧ R (12 + 8 * p + 1) < R (92 + 4 * s) then 20 + R (12 + 8 * p + 1) else pu_tn cr pe R s p
theorem pu_rk_lt {cr pe R : Int → Int} {s p q : Int} (hR : pu_Rw R) (hs : 0 ≤ s ∧ s ≤ 3) (hp : 0 ≤ p ∧ p ≤ 9) (hq : 0 ≤ q ∧ q ≤ 9) : (pu_rk cr pe R s p < pu_rk cr pe R s q ↔ pu_tn cr pe R s p < pu_tn cr pe R s q) ∧ (pu_rk cr pe R s p = pu_rk cr pe R s q ↔ pu_tn cr pe R s p = pu_tn cr pe R s q) := by
  have h1 := (hR.1 p hp.1 hp.2).2.1
  have h2 := (hR.1 q hq.1 hq.2).2.1
  have h3 := (hR.2.1 s hs.1 hs.2).1
  unfold pu_rk
  by_cases hz : cr (6 * s) = 0
  · unfold pu_tn
    simp only [hz, if_true, true_and]
    constructor <;> (repeat' split) <;> omega
  · constructor <;> simp [hz]
/-- a person in a scene -/
def pu_G (g pe R : Int → Int) (p : Int) : Prop := g 0 = pe (7 * p) ∧ g 2 = pe (7 * p + 2) ∧ g 3 = R (12 + 8 * p + 1) ∧ g 4 = pe (7 * p + 4) ∧ g 5 = R (12 + 8 * p + 2) ∧ g 6 = pu_she (pe (7 * p + 6)) ∧ g 7 = R (12 + 8 * p + 3) ∧ g 8 = R (12 + 8 * p) ∧ g 9 = R (12 + 8 * p + 4) ∧ g 10 = R (12 + 8 * p + 5) ∧ g 12 = R (12 + 8 * p + 6)
/-- one of the staff in a scene -/
def pu_V (v f cr R : Int → Int) (s : Int) : Prop := v 1 = cr (6 * s) ∧ v 2 = R (92 + 4 * s) ∧ v 3 = cr (6 * s + 2) ∧ v 4 = cr (6 * s + 3) ∧ v 5 = cr (6 * s + 4) ∧ v 6 = cr (6 * s + 5) ∧ v 7 = R (92 + 4 * s + 3) - 1 ∧ f 0 = R (92 + 4 * s + 1) ∧ f 1 = R (92 + 4 * s + 2)
theorem sp_sv_rank {M : nb_M} {v g s p : Int} {v2 : nb_V} {cr pe R : Int → Int} (hv : v ≠ 0) (hg : g ≠ 0) (hR : pu_Rw R) (hs : 0 ≤ s ∧ s ≤ 3) (hp : 0 ≤ p ∧ p ≤ 9) (hG : pu_G (M.1 g) pe R p) {f : Int → Int} (hV : pu_V (M.1 v) f cr R s) : nb_R nb_P 278 0 [(16, v), (11, g), v2] [] M = some ([(0, pu_rk cr pe R s p)], M) := by
  have h1 := hR.1 p hp.1 hp.2
  have h3 := (hR.2.1 s hs.1 hs.2).1
  obtain ⟨g0, g2, g3, g4, g5, g6, g7, -⟩ := hG
  obtain ⟨k1, k2, -⟩ := hV
  apply nb_Wq
  refine w_sv_rank_0 hv hg (by omega) (by omega) (by omega) ?_
  rw [k1, k2, g3, g5, g7, g0]
  unfold pu_rk pu_tn pu_far
  repeat' (first | with_reducible apply And.intro | intro _)
  all_goals first | rfl | (simp [*] <;> omega) | (simp [*]; done) | (simp only [*]; (repeat' split) <;> first | rfl | omega)
/-- the first hand that is free: 1, 2; 0 -/
def pu_fh (cr R : Int → Int) (t s : Int) : Int := if 0 < cr (6 * s + 5) ∧ R (92 + 4 * s + 1) ≤ t then 1 else if 1 < cr (6 * s + 5) ∧ R (92 + 4 * s + 2) ≤ t then 2 else 0
theorem sp_sv_freeHand {M : nb_M} {v s t : Int} {v2 : nb_V} {cr R : Int → Int} (hv : v ≠ 0) (hvf : M.1 v 0 = v + 1) (hvl : nb_ln M (v + 1) = 2) (hv1 : v + 1 ≠ 0) (hV : pu_V (M.1 v) (M.1 (v + 1)) cr R s) : nb_R nb_P 275 0 [(16, v), (0, t), v2] [] M = some ([(0, pu_fh cr R t s - 1)], M) := by
  obtain ⟨k1, k2, k3, k4, k5, k6, k7, f0, f1⟩ := hV
  apply nb_Wq
  unfold pu_fh
  refine w_sv_freeHand_0 hv hvf hvl hv1 ?_
  refine w_sv_freeHand_1 hv hvf hvl hv1 (by omega) ?_
  rw [k6, f0]
  have h2 : 1 < cr (6 * s + 5) ∨ cr (6 * s + 5) ≤ 1 := by omega
  refine ⟨fun _ => ⟨fun h => ⟨fun h3 => ?_, fun h3 => ⟨?_, rfl⟩⟩, fun h => ⟨?_, rfl⟩⟩, fun h => absurd h (by decide)⟩
  · show nb_W 275 1 [(16, v), (0, t), (0, 1)] [] M _
    refine w_sv_freeHand_1 hv hvf hvl hv1 (by omega) ?_
    rw [k6, f1]
    refine ⟨fun _ => ⟨fun h => ⟨fun h3 => ?_, fun h3 => ⟨?_, rfl⟩⟩, fun h => ⟨?_, rfl⟩⟩, fun h => absurd h (by decide)⟩
    · show nb_W 275 1 [(16, v), (0, t), (0, 2)] [] M _
      refine w_sv_freeHand_1 hv hvf hvl hv1 (by omega) ⟨fun h => absurd h (by decide), fun _ => ⟨?_, rfl⟩⟩
      rw [if_neg (by omega), if_neg (by omega)]
      rfl
    · rw [if_neg (by omega), if_pos (by omega)]
      rfl
    · rw [if_neg (by omega), if_neg (by omega)]
      rfl
  · rw [if_pos (by omega)]
    rfl
  · rw [if_neg (by omega), if_neg (by omega)]
    rfl
theorem pu_Ho_congr {M M' : nb_M} {Ho : Int} {r : Int → Int} (hh : pu_Ho M Ho r) (hr : pu_Rr r) (h : ∀ a i, Ho ≤ a → a < Ho + 36 → M'.1 a i = M.1 a i) : pu_Ho M' Ho r := by
  obtain ⟨⟨h1, h2, h3, h4, h5, h6, h7⟩, k1, k2, k3, k4, k5, k6⟩ := hh
  have g4 := hr.2.2.2.2.2.1
  have g5 := hr.2.2.2.2.2.2.1
  have e : ∀ a, Ho ≤ a → a < Ho + 36 → M'.1 a = M.1 a := fun a p q => funext fun i => h a i p q
  refine ⟨⟨by rw [e _ (by omega) (by omega)]; exact h1, by rw [e _ (by omega) (by omega)]; exact h2, by rw [e _ (by omega) (by omega)]; exact h3, by rw [e _ (by omega) (by omega)]; exact h4, by rw [e _ (by omega) (by omega)]; exact h5, by rw [e _ (by omega) (by omega)]; exact h6, by rw [e _ (by omega) (by omega)]; exact h7⟩, fun d p q => ?_, fun p d a b c d' => ?_, k3, fun p a b => ?_, fun s a b => ?_, fun k a b => ?_⟩
  · rw [e _ (by omega) (by omega), e _ (by omega) (by omega), e _ (by omega) (by omega)]
    exact k1 d p q
  · rw [e _ (by omega) (by omega)]
    exact k2 p d a b c d'
  · rw [e _ (by omega) (by omega)]
    exact k4 p a b
  · rw [e _ (by omega) (by omega), e _ (by omega) (by omega)]
    exact k5 s a b
  · rw [e _ (by omega) (by omega), e _ (by omega) (by omega), e _ (by omega) (by omega)]
    exact k6 k a b
theorem pu_Ho_wr {M : nb_M} {Ho a i v : Int} {r : Int → Int} (hh : pu_Ho M Ho r) (hr : pu_Rr r) (h : a < Ho ∨ Ho + 36 ≤ a) : pu_Ho (nb_wr M a i v) Ho r := pu_Ho_congr hh hr (fun b j p q => nb_rd_other (M := M) (Or.inl (by omega)))
