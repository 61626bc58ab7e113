/-! CONTRACTS: an evening -/
theorem pu_Rw_congr {R R' : Int → Int} (h : ∀ j, 0 ≤ j → j < 108 → R' j = R j) (hR : pu_Rw R) : pu_Rw R' := by
  refine ⟨fun q h0 h9 => ?_, fun q h0 h3 => ?_, ?_, ?_, fun k h0 hk => ?_⟩
  · rw [h _ (by omega) (by omega), h _ (by omega) (by omega), h _ (by omega) (by omega), h _ (by omega) (by omega), h _ (by omega) (by omega), h _ (by omega) (by omega), h _ (by omega) (by omega), h _ (by omega) (by omega)]
    exact hR.1 q h0 h9
  · rw [h _ (by omega) (by omega), h _ (by omega) (by omega), h _ (by omega) (by omega), h _ (by omega) (by omega)]
    exact hR.2.1 q h0 h3
  · rw [h _ (by omega) (by omega)]
    exact hR.2.2.1
  · rw [h _ (by omega) (by omega)]
    exact hR.2.2.2.1
  · have := hR.2.2.2.1
    rw [h 1 (by omega) (by omega)] at hk
    rw [h _ (by omega) (by omega)]
    exact hR.2.2.2.2 k h0 hk
theorem pu_nb_congr {R R' : Int → Int} : ∀ n : Nat, (∀ q : Nat, q < n → R' (12 + 8 * q) = R (12 + 8 * q)) → pu_nb R' n = pu_nb R n
  | 0, _ => rfl
  | n + 1, h => by
    unfold pu_nb
    rw [pu_nb_congr n (fun q hq => h q (by omega)), h n (by omega)]
theorem pu_Rk_congr {R R' : Int → Int} (h : ∀ j, 0 ≤ j → j < 108 → R' j = R j) (hk : pu_Rk R) : pu_Rk R' := by
  unfold pu_Rk at *
  rw [h 1 (by omega) (by omega), pu_nb_congr 10 (fun q hq => h _ (by omega) (by omega))]
  exact hk
theorem pu_cpy_in {f g : Int → Int} {n : Int} : ∀ j, 0 ≤ j → j < n → pu_cpy f g 0 0 n j = f j := by
  intro j h0 h1
  unfold pu_cpy
  rw [if_pos (by omega)]
  congr 1
  omega
theorem pu_secs_ok {r cr pe : Int → Int} {ns : Int} (hr : pu_Rr r) (hc : pu_Rc cr) (hns : 0 ≤ ns ∧ ns ≤ 4) {R : Int → Int} (hR : pu_Rw R) (hk : pu_Rk R) : ∀ n : Nat, R 0 + n ≤ 9999 → pu_Rw (pu_secs r cr pe ns n R) ∧ pu_Rk (pu_secs r cr pe ns n R) ∧ pu_secs r cr pe ns n R 0 = R 0 + n
  | 0, _ => ⟨hR, hk, by unfold pu_secs; omega⟩
  | n + 1, h => by
    obtain ⟨h1, h2, h3⟩ := pu_secs_ok (pe := pe) hr hc hns hR hk n (by omega)
    obtain ⟨j1, j2, j3⟩ := pu_sec_ok (pe := pe) hr hc hns h1 h2 (by omega)
    refine ⟨j1, j2, ?_⟩
    unfold pu_secs
    rw [j3, h3]
    omega
theorem sp_m_evening {M : nb_M} (W : nb_Lay M) (hr : pu_Rr (M.1 606)) (hc : pu_Rc (M.1 612)) (hp : pu_Rp (M.1 613)) (hR : pu_Rw (M.1 608)) (hk : pu_Rk (M.1 608)) (hns : 0 ≤ M.1 603 25 ∧ M.1 603 25 ≤ 4) (hb : 0 ≤ M.1 603 26 ∧ M.1 603 26 ≤ 9000) : nb_R nb_P 134 0 [(20, 603)] [] M = some ([], nb_up M 609 (pu_eve (M.1 606) (M.1 612) (M.1 613) (M.1 603 25) (M.1 603 26) (pu_cpy (M.1 608) (M.1 609) 0 0 108))) := by
  have hR2 := pu_Rw_congr (R' := pu_cpy (M.1 608) (M.1 609) 0 0 108) pu_cpy_in hR
  have hk2 := pu_Rk_congr (R' := pu_cpy (M.1 608) (M.1 609) 0 0 108) pu_cpy_in hk
  apply nb_Wq
  refine w_m_evening_0 W ?_
  generalize pu_cpy (M.1 608) (M.1 609) 0 0 108 = R at *
  have hW : ∀ T, nb_Lay (nb_up M 609 T) := fun T => W.up (fun i w => nb_nrow (by omega))
  have h0 := hR2.2.2.1
  suffices h : ∀ (n k : Nat), k + n = (M.1 603 26 + 1 - R 0).toNat → nb_W 134 1 [(20, 603)] [] (nb_up M 609 (pu_secs (M.1 606) (M.1 612) (M.1 613) (M.1 603 25) k R)) (fun r' M' => r' = [] ∧ M' = nb_up M 609 (pu_eve (M.1 606) (M.1 612) (M.1 613) (M.1 603 25) (M.1 603 26) R)) from h _ 0 (Nat.zero_add _)
  intro n
  induction n with
  | zero =>
    intro k hk
    have e : k = (M.1 603 26 + 1 - R 0).toNat := by omega
    by_cases hle : M.1 603 26 + 1 - R 0 ≤ 0
    · have e0 : k = 0 := by omega
      subst e0
      refine w_m_evening_1 (hW _) ⟨fun _ => ⟨rfl, ?_⟩, fun h => ?_⟩
      · unfold pu_eve
        rw [← e]
      · rw [nb_up_same, nb_up_other (by decide)] at h
        unfold pu_secs at h
        omega
    · obtain ⟨g1, g2, g3⟩ := pu_secs_ok (pe := M.1 613) hr hc hns hR2 hk2 k (by omega)
      refine w_m_evening_1 (hW _) ⟨fun _ => ⟨rfl, ?_⟩, fun h => ?_⟩
      · unfold pu_eve
        rw [← e]
      · rw [nb_up_same, nb_up_other (by decide), g3] at h
        omega
  | succ n ih =>
    intro k hk
    have ih := ih (k + 1) (by omega)
    obtain ⟨g1, g2, g3⟩ := pu_secs_ok (pe := M.1 613) hr hc hns hR2 hk2 k (by omega)
    refine w_m_evening_1 (hW _) ⟨fun h => ?_, fun _ => ?_⟩
    · rw [nb_up_same, nb_up_other (by decide), g3] at h
      omega
    · simp only [nb_up_same, nb_up_other (show (606 : Int) ≠ 609 by decide), nb_up_other (show (612 : Int) ≠ 609 by decide), nb_up_other (show (613 : Int) ≠ 609 by decide), nb_up_other (show (603 : Int) ≠ 609 by decide), nb_up_up]
      exact ⟨hr, hc, hp, g1, g2, hns.1, hns.2, by omega, ih⟩
theorem sp_m_asTold {M : nb_M} (W : nb_Lay M) : nb_R nb_P 121 0 [(20, 603)] [] M = some ([], nb_up (nb_up (nb_wr M 603 25 (M.1 606 4)) 612 (pu_cpy (M.1 606) (M.1 612) 23 0 18)) 613 (pu_cpy (M.1 606) (M.1 613) 41 0 70)) := nb_Wq (w_m_asTold_0 W ⟨rfl, rfl⟩)
