/-! HOW IT IS AT FIRST -/
def pu_sfp (pe : Int → Int) (q : Int) : Int := pe (7 * q + 2) + (if pe (7 * q) = 1 then -pe (7 * q + 1) else if pe (7 * q) = 2 then pe (7 * q + 1) else 0)
def pu_lf (np ns : Int) (cr pe : Int → Int) : Int → Int := fun j =>
  if 12 ≤ j ∧ j < 12 + 8 * np then (if (j - 12) % 8 = 0 then 0 else if (j - 12) % 8 = 1 then pe (7 * ((j - 12) / 8) + 3) else if (j - 12) % 8 = 2 then pe (7 * ((j - 12) / 8) + 5) else if (j - 12) % 8 = 3 then pu_sfp pe ((j - 12) / 8) else -2)
  else if 92 ≤ j ∧ j < 92 + 4 * ns ∧ (j - 92) % 4 = 0 then cr (6 * ((j - 92) / 4) + 1) else 0
theorem pu_lf_at {np ns q : Int} {cr pe : Int → Int} (hq : 0 ≤ q ∧ q < np) : pu_lf np ns cr pe (12 + 8 * q) = 0 ∧ pu_lf np ns cr pe (12 + 8 * q + 1) = pe (7 * q + 3) ∧ pu_lf np ns cr pe (12 + 8 * q + 2) = pe (7 * q + 5) ∧ pu_lf np ns cr pe (12 + 8 * q + 3) = pu_sfp pe q ∧ pu_lf np ns cr pe (12 + 8 * q + 4) = -2 ∧ pu_lf np ns cr pe (12 + 8 * q + 5) = -2 ∧ pu_lf np ns cr pe (12 + 8 * q + 6) = -2 ∧ pu_lf np ns cr pe (12 + 8 * q + 7) = -2 := by
  unfold pu_lf
  refine ⟨?_, ?_, ?_, ?_, ?_, ?_, ?_, ?_⟩
  · rw [if_pos (by omega), if_pos (by omega)]
  · rw [if_pos (by omega), if_neg (by omega), if_pos (by omega), show (12 + 8 * q + 1 - 12) / 8 = q by omega]
  · rw [if_pos (by omega), if_neg (by omega), if_neg (by omega), if_pos (by omega), show (12 + 8 * q + 2 - 12) / 8 = q by omega]
  · rw [if_pos (by omega), if_neg (by omega), if_neg (by omega), if_neg (by omega), if_pos (by omega), show (12 + 8 * q + 3 - 12) / 8 = q by omega]
  · rw [if_pos (by omega), if_neg (by omega), if_neg (by omega), if_neg (by omega), if_neg (by omega)]
  · rw [if_pos (by omega), if_neg (by omega), if_neg (by omega), if_neg (by omega), if_neg (by omega)]
  · rw [if_pos (by omega), if_neg (by omega), if_neg (by omega), if_neg (by omega), if_neg (by omega)]
  · rw [if_pos (by omega), if_neg (by omega), if_neg (by omega), if_neg (by omega), if_neg (by omega)]
theorem pu_lf_crew {np ns s : Int} {cr pe : Int → Int} (hnp : np ≤ 10) (hs : 0 ≤ s ∧ s < ns) : pu_lf np ns cr pe (92 + 4 * s) = cr (6 * s + 1) := by
  unfold pu_lf
  rw [if_neg (by omega), if_pos (by omega), show (92 + 4 * s - 92) / 4 = s by omega]
theorem pu_lf_0 {np ns j : Int} {cr pe : Int → Int} (h1 : j < 12 ∨ 12 + 8 * np ≤ j) (h2 : j < 92 ∨ 92 + 4 * ns ≤ j ∨ (j - 92) % 4 ≠ 0) : pu_lf np ns cr pe j = 0 := by
  unfold pu_lf
  rw [if_neg (by omega), if_neg (by omega)]
theorem pu_lf_p {k s j : Int} {cr pe : Int → Int} (h : j < 12 + 8 * k ∨ 12 + 8 * k + 8 ≤ j) : pu_lf (k + 1) s cr pe j = pu_lf k s cr pe j := by
  unfold pu_lf
  by_cases c : 12 ≤ j ∧ j < 12 + 8 * k
  · rw [if_pos (show 12 ≤ j ∧ j < 12 + 8 * (k + 1) by omega), if_pos c]
  · rw [if_neg (show ¬ (12 ≤ j ∧ j < 12 + 8 * (k + 1)) by omega), if_neg c]
theorem pu_lf_s {k s j : Int} {cr pe : Int → Int} (h : j ≠ 92 + 4 * s) : pu_lf k (s + 1) cr pe j = pu_lf k s cr pe j := by
  unfold pu_lf
  by_cases c : 92 ≤ j ∧ j < 92 + 4 * s ∧ (j - 92) % 4 = 0
  · rw [if_pos (show 92 ≤ j ∧ j < 92 + 4 * (s + 1) ∧ (j - 92) % 4 = 0 by omega), if_pos c]
  · rw [if_neg (show ¬ (92 ≤ j ∧ j < 92 + 4 * (s + 1) ∧ (j - 92) % 4 = 0) by omega), if_neg c]
theorem pu_sfp_rg {pe : Int → Int} {q : Int} (hp : pu_Rp pe) (hq : 0 ≤ q ∧ q ≤ 9) : -100 ≤ pu_sfp pe q ∧ pu_sfp pe q ≤ 700 := by
  have g := hp q hq.1 hq.2
  unfold pu_sfp
  (repeat' split) <;> omega
theorem nb_wr_upa {M : nb_M} {a i v : Int} {f : Int → Int} : nb_wr (nb_up M a f) a i v = nb_up M a (nb_ud f i v) := by rw [nb_wr_up, nb_up_same, nb_up_up]
/-- the reference lays it -/
theorem sp_m_layFirst {M : nb_M} {v2 v3 : nb_V} {np ns : Int} {cr pe : Int → Int} (W : nb_Lay M) (enp : M.1 606 5 = np) (hnp : 0 ≤ np ∧ np ≤ 10) (ens : M.1 603 25 = ns) (hns : 0 ≤ ns ∧ ns ≤ 3) (ecr : M.1 612 = cr) (epe : M.1 613 = pe) (hp : pu_Rp pe) : nb_R nb_P 124 0 [(20, 603), (3, 608), v2, v3] [] M = some ([], nb_up M 608 (pu_cpy (pu_lf np ns cr pe) (M.1 608) 0 0 108)) := by
  apply nb_Wq
  have hlen : ∀ f, nb_ln (nb_up M 608 f) 608 = 108 := fun f => (nb_up_ln _ _ _ _).trans (W.lk (by decide) (by decide +kernel))
  have hW : ∀ f, nb_Lay (nb_up M 608 f) := fun f => W.up (fun i w => nb_nrow (Or.inl rfl))
  have h6 : ∀ f, (nb_up M 608 f).1 606 = M.1 606 := fun f => nb_up_other (by decide)
  have h3 : ∀ f, (nb_up M 608 f).1 603 = M.1 603 := fun f => nb_up_other (by decide)
  have h12 : ∀ f, (nb_up M 608 f).1 612 = M.1 612 := fun f => nb_up_other (by decide)
  have h13 : ∀ f, (nb_up M 608 f).1 613 = M.1 613 := fun f => nb_up_other (by decide)
  refine w_m_layFirst_0 W (by decide) (by decide) (W.lk (by decide) (by decide +kernel)) (Or.inl rfl) ?_
  -- behind the third loop
  have l3 : ∀ (n s : Nat), (s : Int) + n = ns → ∀ T, (∀ j, 0 ≤ j → j < 108 → T j = pu_lf np s cr pe j) → (∀ j, (j < 0 ∨ 108 ≤ j) → T j = M.1 608 j) → ∀ v3, nb_W 124 18 [(20, 603), (3, 608), (0, (s : Int)), v3] [] (nb_up M 608 T) (fun r' M' => r' = [] ∧ M' = nb_up M 608 (pu_cpy (pu_lf np ns cr pe) (M.1 608) 0 0 108)) := by
    intro n
    induction n with
    | zero =>
      intro s hs T t1 t2 v3
      refine w_m_layFirst_18 (hW T) (by decide) (by decide) (hlen T) (Or.inl rfl) (by omega) ?_
      rw [h3, ens]
      refine ⟨fun c => absurd c (by omega), fun _ _ => ⟨rfl, ?_⟩⟩
      congr 1
      funext j
      unfold pu_cpy
      by_cases c : 0 ≤ j ∧ j < 0 + 108
      · rw [if_pos c, t1 j c.1 (by omega), show (s : Int) = ns by omega, show j - 0 + 0 = j by omega]
      · rw [if_neg c, t2 j (by omega)]
    | succ n ih =>
      intro s hs T t1 t2 v3
      refine w_m_layFirst_18 (hW T) (by decide) (by decide) (hlen T) (Or.inl rfl) (by omega) ?_
      rw [h3, ens, h12, ecr, nb_wr_upa]
      refine ⟨fun _ => ?_, fun c => absurd c (by omega)⟩
      refine ih (s + 1) (by omega) _ (fun j a b => ?_) (fun j a => ?_) v3
      · by_cases c : j = 92 + 4 * s
        · subst c
          rw [nb_ud_same]
          exact (pu_lf_crew (by omega) (by omega)).symm
        · rw [nb_ud_other c, t1 j a b]
          exact (pu_lf_s c).symm
      · rw [nb_ud_other (by omega), t2 j a]
  -- behind the second
  have l2 : ∀ (n k : Nat), (k : Int) + n = np → ∀ T, (∀ j, 0 ≤ j → j < 108 → T j = pu_lf k 0 cr pe j) → (∀ j, (j < 0 ∨ 108 ≤ j) → T j = M.1 608 j) → ∀ v3, nb_W 124 5 [(20, 603), (3, 608), (0, (k : Int)), v3] [] (nb_up M 608 T) (fun r' M' => r' = [] ∧ M' = nb_up M 608 (pu_cpy (pu_lf np ns cr pe) (M.1 608) 0 0 108)) := by
    intro n
    induction n with
    | zero =>
      intro k hk T t1 t2 v3
      refine w_m_layFirst_5 (hW T) (by decide) (by decide) (hlen T) (Or.inl rfl) (by omega) ?_
      rw [h6, enp]
      refine ⟨by omega, by omega, fun c => absurd c (by omega), fun _ => ?_⟩
      refine l3 ns.toNat 0 (by omega) T (fun j a b => ?_) t2 v3
      rw [t1 j a b, show (k : Int) = np by omega]
      rfl
    | succ n ih =>
      intro k hk T t1 t2 v3
      refine w_m_layFirst_5 (hW T) (by decide) (by decide) (hlen T) (Or.inl rfl) (by omega) ?_
      rw [h6, enp, h13, epe]
      have g := hp k (by omega) (by omega)
      have key : ∀ v : Int, v = pu_sfp pe k → nb_W 124 5 [(20, 603), (3, 608), (0, (k : Int) + 1), (0, 12 + 8 * (k : Int))] [] (nb_wr (nb_wr (nb_wr (nb_wr (nb_wr (nb_wr (nb_wr (nb_up M 608 T) 608 (12 + 8 * (k : Int) + 1) (pe (7 * (k : Int) + 3))) 608 (12 + 8 * (k : Int) + 2) (pe (7 * (k : Int) + 5))) 608 (12 + 8 * (k : Int) + 3) v) 608 (12 + 8 * (k : Int) + 4) (-2)) 608 (12 + 8 * (k : Int) + 5) (-2)) 608 (12 + 8 * (k : Int) + 6) (-2)) 608 (12 + 8 * (k : Int) + 7) (-2)) (fun r' M' => r' = [] ∧ M' = nb_up M 608 (pu_cpy (pu_lf np ns cr pe) (M.1 608) 0 0 108)) := by
        intro v hv
        subst hv
        simp only [nb_wr_upa]
        refine ih (k + 1) (by omega) _ (fun j a b => ?_) (fun j a => ?_) _
        · obtain ⟨a0, a1, a2, a3, a4, a5, a6, a7⟩ := pu_lf_at (np := (k : Int) + 1) (ns := 0) (cr := cr) (pe := pe) (q := k) (by omega)
          rw [show (((k + 1 : Nat) : Nat) : Int) = (k : Int) + 1 by omega]
          by_cases c : j < 12 + 8 * (k : Int) ∨ 12 + 8 * (k : Int) + 8 ≤ j
          · rw [nb_ud_other (by omega), nb_ud_other (by omega), nb_ud_other (by omega), nb_ud_other (by omega), nb_ud_other (by omega), nb_ud_other (by omega), nb_ud_other (by omega), t1 j a b]
            exact (pu_lf_p c).symm
          · by_cases e0 : j = 12 + 8 * (k : Int)
            · subst e0
              rw [nb_ud_other (by omega), nb_ud_other (by omega), nb_ud_other (by omega), nb_ud_other (by omega), nb_ud_other (by omega), nb_ud_other (by omega), nb_ud_other (by omega), t1 _ a b, a0]
              exact pu_lf_0 (by omega) (by omega)
            by_cases e1 : j = 12 + 8 * (k : Int) + 1
            · subst e1
              rw [nb_ud_other (by omega), nb_ud_other (by omega), nb_ud_other (by omega), nb_ud_other (by omega), nb_ud_other (by omega), nb_ud_other (by omega), nb_ud_same, a1]
            by_cases e2 : j = 12 + 8 * (k : Int) + 2
            · subst e2
              rw [nb_ud_other (by omega), nb_ud_other (by omega), nb_ud_other (by omega), nb_ud_other (by omega), nb_ud_other (by omega), nb_ud_same, a2]
            by_cases e3 : j = 12 + 8 * (k : Int) + 3
            · subst e3
              rw [nb_ud_other (by omega), nb_ud_other (by omega), nb_ud_other (by omega), nb_ud_other (by omega), nb_ud_same, a3]
            by_cases e4 : j = 12 + 8 * (k : Int) + 4
            · subst e4
              rw [nb_ud_other (by omega), nb_ud_other (by omega), nb_ud_other (by omega), nb_ud_same, a4]
            by_cases e5 : j = 12 + 8 * (k : Int) + 5
            · subst e5
              rw [nb_ud_other (by omega), nb_ud_other (by omega), nb_ud_same, a5]
            by_cases e6 : j = 12 + 8 * (k : Int) + 6
            · subst e6
              rw [nb_ud_other (by omega), nb_ud_same, a6]
            have e7 : j = 12 + 8 * (k : Int) + 7 := by omega
            subst e7
            rw [nb_ud_same, a7]
        · rw [nb_ud_other (by omega), nb_ud_other (by omega), nb_ud_other (by omega), nb_ud_other (by omega), nb_ud_other (by omega), nb_ud_other (by omega), nb_ud_other (by omega), t2 j a]
      refine ⟨by omega, by omega, fun _ => ⟨fun c => ⟨by omega, by omega, by omega, by omega, key _ ?_⟩, fun c => ⟨fun d => ⟨by omega, by omega, key _ ?_⟩, fun d => ⟨by omega, by omega, key _ ?_⟩⟩⟩, fun c => absurd c (by omega)⟩
      · unfold pu_sfp
        rw [if_pos c]
      · unfold pu_sfp
        rw [if_neg c, if_pos d]
      · unfold pu_sfp
        rw [if_neg c, if_neg d, Int.add_zero]
  have l1 : ∀ (n k : Nat), (k : Int) + n = 108 → nb_W 124 1 [(20, 603), (3, 608), (0, (k : Int)), v3] [] (nb_up M 608 (fun j => if 0 ≤ j ∧ j < (k : Int) then 0 else M.1 608 j)) (fun r' M' => r' = [] ∧ M' = nb_up M 608 (pu_cpy (pu_lf np ns cr pe) (M.1 608) 0 0 108)) := by
    intro n
    induction n with
    | zero =>
      intro k hk
      refine w_m_layFirst_1 (hW _) (by decide) (by decide) (hlen _) (Or.inl rfl) (by omega) ⟨fun c => absurd c (by omega), fun _ => ?_⟩
      refine l2 np.toNat 0 (by omega) _ (fun j a b => ?_) (fun j a => ?_) v3
      · rw [if_pos (by omega)]
        exact (pu_lf_0 (by omega) (by omega)).symm
      · rw [if_neg (by omega)]
    | succ n ih =>
      intro k hk
      refine w_m_layFirst_1 (hW _) (by decide) (by decide) (hlen _) (Or.inl rfl) (by omega) ⟨fun _ => ?_, fun c => absurd c (by omega)⟩
      have g := ih (k + 1) (by omega)
      have e : nb_wr (nb_up M 608 (fun j => if 0 ≤ j ∧ j < (k : Int) then 0 else M.1 608 j)) 608 k 0 = nb_up M 608 (fun j => if 0 ≤ j ∧ j < ((k + 1 : Nat) : Int) then 0 else M.1 608 j) := by
        rw [nb_wr_upa]
        congr 1
        funext j
        simp only [nb_ud]
        (repeat' split) <;> first | rfl | omega
      rw [e]
      exact g
  have g := l1 108 0 rfl
  have e : (fun j : Int => if 0 ≤ j ∧ j < ((0 : Nat) : Int) then 0 else M.1 608 j) = M.1 608 := funext fun j => if_neg (by omega)
  rw [e, nb_up_id] at g
  exact g
/-- what a first row is like -/
theorem pu_lf_ok {np ns : Int} {cr pe R : Int → Int} (hnp : 0 ≤ np ∧ np ≤ 10) (hns : 0 ≤ ns ∧ ns ≤ 3) (hc : pu_Rc cr) (hp : pu_Rp pe) (hR : ∀ j, 0 ≤ j → j < 108 → R j = pu_lf np ns cr pe j) : pu_Rw R ∧ pu_Rk R ∧ R 0 = 0 ∧ R 1 = 0 ∧ pu_Ib pe R np ns := by
  have z : ∀ j, 0 ≤ j → j < 108 → (j < 12 ∨ 12 + 8 * np ≤ j) → (j < 92 ∨ 92 + 4 * ns ≤ j ∨ (j - 92) % 4 ≠ 0) → R j = 0 := fun j a b c d => (hR j a b).trans (pu_lf_0 c d)
  have e0 := z 0 (by decide) (by decide) (Or.inl (by decide)) (Or.inl (by decide))
  have e1 := z 1 (by decide) (by decide) (Or.inl (by decide)) (Or.inl (by decide))
  have at_ : ∀ q, 0 ≤ q → q < np → R (12 + 8 * q) = 0 ∧ R (12 + 8 * q + 1) = pe (7 * q + 3) ∧ R (12 + 8 * q + 2) = pe (7 * q + 5) ∧ R (12 + 8 * q + 3) = pu_sfp pe q ∧ R (12 + 8 * q + 4) = -2 ∧ R (12 + 8 * q + 5) = -2 ∧ R (12 + 8 * q + 6) = -2 ∧ R (12 + 8 * q + 7) = -2 := fun q a b => by
    have g := pu_lf_at (np := np) (ns := ns) (cr := cr) (pe := pe) (q := q) ⟨a, b⟩
    rw [hR _ (by omega) (by omega), hR _ (by omega) (by omega), hR _ (by omega) (by omega), hR _ (by omega) (by omega), hR _ (by omega) (by omega), hR _ (by omega) (by omega), hR _ (by omega) (by omega), hR _ (by omega) (by omega)]
    exact g
  have hw : pu_Rw R := by
    refine ⟨fun q h0 h9 => ?_, fun s h0 h3 => ?_, ?_, ?_, fun k h0 hk => ?_⟩
    · by_cases c : q < np
      · obtain ⟨a0, a1, a2, a3, a4, a5, a6, a7⟩ := at_ q h0 c
        have g := hp q h0 h9
        have s := pu_sfp_rg hp ⟨h0, h9⟩
        rw [a0, a1, a2, a3, a4, a5, a6, a7]
        omega
      · rw [z (12 + 8 * q) (by omega) (by omega) (by omega) (by omega), z (12 + 8 * q + 1) (by omega) (by omega) (by omega) (by omega), z (12 + 8 * q + 2) (by omega) (by omega) (by omega) (by omega), z (12 + 8 * q + 3) (by omega) (by omega) (by omega) (by omega), z (12 + 8 * q + 4) (by omega) (by omega) (by omega) (by omega), z (12 + 8 * q + 5) (by omega) (by omega) (by omega) (by omega), z (12 + 8 * q + 6) (by omega) (by omega) (by omega) (by omega), z (12 + 8 * q + 7) (by omega) (by omega) (by omega) (by omega)]
        omega
    · rw [z (92 + 4 * s + 1) (by omega) (by omega) (by omega) (by omega), z (92 + 4 * s + 2) (by omega) (by omega) (by omega) (by omega), z (92 + 4 * s + 3) (by omega) (by omega) (by omega) (by omega)]
      by_cases c : s < ns
      · have g := (hc s h0 h3).1
        rw [hR _ (by omega) (by omega), pu_lf_crew (by omega) ⟨h0, c⟩]
        omega
      · rw [z (92 + 4 * s) (by omega) (by omega) (by omega) (by omega)]
        omega
    · omega
    · omega
    · omega
  have hk : pu_Rk R := by
    have := pu_nb_le (R := R) 10
    unfold pu_Rk
    omega
  refine ⟨hw, hk, e0, e1, hw, hk, ⟨fun p a b => ?_, fun k a b => absurd b (by omega)⟩, fun s a b => ?_⟩
  · obtain ⟨a0, a1, a2, a3, a4, a5, a6, a7⟩ := at_ p a b
    have g := (hp p a (by omega)).2.2.1
    unfold pu_hb
    rw [a0, a4, a7, e0]
    exact ⟨fun _ => ⟨g.1, rfl, rfl⟩, fun h => absurd h (by decide), fun h => absurd h (by decide), fun h => by omega, fun h => absurd h (by decide)⟩
  · rw [z (92 + 4 * s + 3) (by omega) (by omega) (by omega) (by omega)]
    exact hnp.1
/-- the class's scene, opened -/
theorem pu_open_S {M N : nb_M} {A Ho : Int} {r cr pe R : Int → Int} (hr : pu_Rr r) (hh : pu_Ho M Ho r) (ec : ∀ i, 0 ≤ i → i < 18 → cr i = r (23 + i)) (ep : ∀ i, 0 ≤ i → i < 70 → pe i = r (41 + i)) (hR : ∀ j, 0 ≤ j → j < 108 → R j = pu_lf (r 5) (r 4) cr pe j) (e4 : N.1 A 4 = r 5) (e5 : N.1 A 5 = r 4) (e6 : N.1 A 6 = 0) (eg : ∀ p j, 0 ≤ p → p < r 5 → 0 ≤ j → j ≤ 14 → N.1 (A + 4 + p) j = M.1 (Ho + 20 + p) j) (ev : ∀ s j, 0 ≤ s → s < r 4 → 1 ≤ j → j ≤ 7 → N.1 (A + 14 + 2 * s) j = M.1 (Ho + 30 + 2 * s) j) (ef : ∀ s h, 0 ≤ s → s < r 4 → 0 ≤ h → h < 2 → N.1 (A + 14 + 2 * s + 1) h = M.1 (Ho + 30 + 2 * s + 1) h) : pu_S N A (r 5) (r 4) cr pe R ∧ pu_X N A (r 5) pe R := by
  have n5 := hr.2.2.2.2.2.2.1
  have n4 := hr.2.2.2.2.2.1
  have z : ∀ j, 0 ≤ j → j < 108 → (j < 12 ∨ 12 + 8 * r 5 ≤ j) → (j < 92 ∨ 92 + 4 * r 4 ≤ j ∨ (j - 92) % 4 ≠ 0) → R j = 0 := fun j a b c d => (hR j a b).trans (pu_lf_0 c d)
  have e1 := z 1 (by decide) (by decide) (Or.inl (by decide)) (Or.inl (by decide))
  have at_ : ∀ q, 0 ≤ q → q < r 5 → R (12 + 8 * q) = 0 ∧ R (12 + 8 * q + 1) = pe (7 * q + 3) ∧ R (12 + 8 * q + 2) = pe (7 * q + 5) ∧ R (12 + 8 * q + 3) = pu_sfp pe q ∧ R (12 + 8 * q + 4) = -2 ∧ R (12 + 8 * q + 5) = -2 ∧ R (12 + 8 * q + 6) = -2 ∧ R (12 + 8 * q + 7) = -2 := fun q a b => by
    have g := pu_lf_at (np := r 5) (ns := r 4) (cr := cr) (pe := pe) (q := q) ⟨a, b⟩
    rw [hR _ (by omega) (by omega), hR _ (by omega) (by omega), hR _ (by omega) (by omega), hR _ (by omega) (by omega), hR _ (by omega) (by omega), hR _ (by omega) (by omega), hR _ (by omega) (by omega), hR _ (by omega) (by omega)]
    exact g
  refine ⟨⟨e4, e5, by rw [e6, e1], fun k a b => absurd b (by omega), fun p a b => ?_, fun s a b => ?_⟩, fun p a b => ?_⟩
  · obtain ⟨a0, a1, a2, a3, a4, a5, a6, a7⟩ := at_ p a b
    obtain ⟨⟨g0, g1, g2, g3, g4, g5, g6, g7⟩, g8, g9, g10, g12, g13, g14⟩ := hh.2.2.2.2.1 p a b
    have q : ∀ i, 0 ≤ i → i < 7 → pe (7 * p + i) = r (41 + 7 * p + i) := fun i _ _ => by
      rw [ep _ (by omega) (by omega)]
      exact congrArg r (by omega)
    have q0 := q 0 (by decide) (by decide)
    rw [Int.add_zero, Int.add_zero] at q0
    unfold pu_G
    rw [a0, a1, a2, a3, a4, a5, a6, eg p 0 a b (by decide) (by decide), eg p 2 a b (by decide) (by decide), eg p 3 a b (by decide) (by decide), eg p 4 a b (by decide) (by decide), eg p 5 a b (by decide) (by decide), eg p 6 a b (by decide) (by decide), eg p 7 a b (by decide) (by decide), eg p 8 a b (by decide) (by decide), eg p 9 a b (by decide) (by decide), eg p 10 a b (by decide) (by decide), eg p 12 a b (by decide) (by decide)]
    rw [q 2 (by decide) (by decide), q 3 (by decide) (by decide), q 4 (by decide) (by decide), q 5 (by decide) (by decide), q 6 (by decide) (by decide), q0]
    refine ⟨g0, g2, g3, g4, g5, g6, ?_, g8, g9, g10, g12⟩
    rw [g7]
    unfold pu_sf pu_sfp
    rw [q0, q 1 (by decide) (by decide), q 2 (by decide) (by decide)]
    (repeat' split) <;> omega
  · obtain ⟨v1, v2, v3, v4, v5, v6, v7, f0, f1⟩ := hh.2.2.2.2.2.1 s a b
    have q : ∀ i, 0 ≤ i → i < 6 → cr (6 * s + i) = r (23 + 6 * s + i) := fun i _ _ => by
      rw [ec _ (by omega) (by omega)]
      exact congrArg r (by omega)
    have q0 := q 0 (by decide) (by decide)
    rw [Int.add_zero, Int.add_zero] at q0
    unfold pu_V
    rw [ev s 1 a b (by decide) (by decide), ev s 2 a b (by decide) (by decide), ev s 3 a b (by decide) (by decide), ev s 4 a b (by decide) (by decide), ev s 5 a b (by decide) (by decide), ev s 6 a b (by decide) (by decide), ev s 7 a b (by decide) (by decide), ef s 0 a b (by decide) (by decide), ef s 1 a b (by decide) (by decide)]
    rw [z (92 + 4 * s + 1) (by omega) (by omega) (by omega) (by omega), z (92 + 4 * s + 2) (by omega) (by omega) (by omega) (by omega), z (92 + 4 * s + 3) (by omega) (by omega) (by omega) (by omega), hR (92 + 4 * s) (by omega) (by omega), pu_lf_crew (by omega) ⟨a, b⟩]
    rw [q 1 (by decide) (by decide), q 2 (by decide) (by decide), q 3 (by decide) (by decide), q 4 (by decide) (by decide), q 5 (by decide) (by decide), q0]
    exact ⟨v1, v2, v3, v4, v5, v6, v7, f0, f1⟩
  · obtain ⟨a0, a1, a2, a3, a4, a5, a6, a7⟩ := at_ p a b
    obtain ⟨⟨g0, g1, g2, g3, g4, g5, g6, g7⟩, g8, g9, g10, g12, g13, g14⟩ := hh.2.2.2.2.1 p a b
    unfold pu_Gx pu_pa pu_pu
    rw [a0, a4, e1, eg p 13 a b (by decide) (by decide), eg p 14 a b (by decide) (by decide), if_pos rfl]
    exact ⟨fun h => absurd h (by decide), fun h => by omega, g13, g14⟩
