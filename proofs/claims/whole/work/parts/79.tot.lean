/-! rules, printed by wip/gen -/
theorem w_sc_total_0 {A l1 Ho : Int} {M : nb_M} {Q : List nb_V → nb_M → Prop} (W : nb_Lay M) (hA : nb_sc A) (hHo : nb_hs Ho) (hAh : M.1 A 3 = Ho) {cr pe R r : Int → Int} {np ns bell : Int} (hr : pu_Rr r) (hh : pu_Ho M Ho r) (hnp : np = r 5) (hnp2 : 0 ≤ np ∧ np ≤ 10) (hR : pu_Rw R) (hP : pu_Rp pe) (hS : pu_S M A np ns cr pe R) (hX : pu_X M A np pe R) (h8 : M.1 A 8 = bell) (hb : 0 ≤ bell ∧ bell ≤ 9000) (hc2 : 0 ≤ pu_cnt R 2 np.toNat ∧ pu_cnt R 2 np.toNat ≤ 10) (hc3 : 0 ≤ pu_cnt R 3 np.toNat ∧ pu_cnt R 3 np.toNat ≤ 10) (H : (l1 = 0 → -2147483648 ≤ pu_cnt R 2 np.toNat + pu_cnt R 3 np.toNat ∧ pu_cnt R 2 np.toNat + pu_cnt R 3 np.toNat ≤ 2147483647 ∧ Q [(0, pu_cnt R 2 np.toNat + pu_cnt R 3 np.toNat)] M) ∧ (l1 = 1 → Q [(0, pu_cnt R 4 np.toNat)] M) ∧ (l1 = 2 → Q [(0, pu_cnt R 1 np.toNat)] M) ∧ (l1 ≠ 0 → l1 ≠ 1 → l1 ≠ 2 → Q [(0, pu_ad r pe R bell l1 np.toNat)] M)) :
    nb_W 268 0 [(15, A), (0, l1)] [] M Q := by
  replace H := nb_Hw H
  have uhA := hA
  unfold nb_sc at uhA
  have uhHo := hHo
  unfold nb_hs at uhHo
  refine nb_Wg (q_sc_total_0 _ _ _) ?_
  refine nb_Gi (fun c2 => ?_) (fun c2 => ?_)
  · have H := nb_Hw ((nb_Hu H).1 c2)
    refine nb_Gr ?_
    refine nb_Wg (q_sc_total_1 _ _ _ (by omega)) ?_
    rw [show nb_R nb_P 265 0 [(15, A), (0, 2), (98, 0), (98, 0)] [] M = some ([(0, pu_cnt R 2 np.toNat)], M) from sp_sc_countOf W hA (by omega) hS]
    refine nb_Gp ?_
    show nb_W 268 2 [(15, A), (0, l1)] [(0, pu_cnt R 2 np.toNat)] M _
    refine nb_Wg (q_sc_total_2 _ _ _ _ (by omega)) ?_
    rw [show nb_R nb_P 265 0 [(15, A), (0, 3), (98, 0), (98, 0)] [] M = some ([(0, pu_cnt R 3 np.toNat)], M) from sp_sc_countOf W hA (by omega) hS]
    refine nb_Gp ?_
    show nb_W 268 3 [(15, A), (0, l1)] [(0, pu_cnt R 3 np.toNat), (0, pu_cnt R 2 np.toNat)] M _
    obtain ⟨p0_, p1_, H⟩ := H
    replace H := nb_Hw H
    have E1 : nb_add (pu_cnt R 2 np.toNat) (pu_cnt R 3 np.toNat) = pu_cnt R 2 np.toNat + pu_cnt R 3 np.toNat := (nb_add_eq (x := pu_cnt R 2 np.toNat) (y := pu_cnt R 3 np.toNat) (by omega) (by omega)).trans (by omega)
    refine nb_Wg (q_sc_total_3 _ _ _ _ _) ?_
    simp only [E1]
    clear E1
    refine nb_Gs ?_
    exact nb_Hu H
  refine nb_Gi (fun c3 => ?_) (fun c3 => ?_)
  · have H := nb_Hw ((nb_Hu H).2.1 c3)
    refine nb_Gr ?_
    refine nb_Wg (q_sc_total_4 _ _ _ (by omega)) ?_
    rw [show nb_R nb_P 265 0 [(15, A), (0, 4), (98, 0), (98, 0)] [] M = some ([(0, pu_cnt R 4 np.toNat)], M) from sp_sc_countOf W hA (by omega) hS]
    refine nb_Gp ?_
    show nb_W 268 5 [(15, A), (0, l1)] [(0, pu_cnt R 4 np.toNat)] M _
    refine nb_Wg (q_sc_total_5 _ _ _ _) ?_
    refine nb_Gs ?_
    exact nb_Hu H
  refine nb_Gi (fun c4 => ?_) (fun c4 => ?_)
  · have H := nb_Hw ((nb_Hu H).2.2.1 c4)
    refine nb_Gr ?_
    refine nb_Wg (q_sc_total_6 _ _ _ (by omega)) ?_
    rw [show nb_R nb_P 265 0 [(15, A), (0, 1), (98, 0), (98, 0)] [] M = some ([(0, pu_cnt R 1 np.toNat)], M) from sp_sc_countOf W hA (by omega) hS]
    refine nb_Gp ?_
    show nb_W 268 7 [(15, A), (0, l1)] [(0, pu_cnt R 1 np.toNat)] M _
    refine nb_Wg (q_sc_total_7 _ _ _ _) ?_
    refine nb_Gs ?_
    exact nb_Hu H
  have H := nb_Hw ((nb_Hu H).2.2.2 (by omega) (by omega) (by omega))
  refine nb_Gr ?_
  refine nb_Wg (q_sc_total_8 _ _ _ (by omega)) ?_
  rw [show nb_R nb_P 269 0 [(15, A), (0, l1), (98, 0), (98, 0)] [] M = some ([(0, pu_ad r pe R bell l1 np.toNat)], M) from sp_sc_added W hA hHo hAh hr hh hnp hR hP hS hX h8 hb]
  refine nb_Gp ?_
  show nb_W 268 9 [(15, A), (0, l1)] [(0, pu_ad r pe R bell l1 np.toNat)] M _
  refine nb_Wg (q_sc_total_9 _ _ _ _) ?_
  refine nb_Gs ?_
  exact nb_Hu H

theorem sp_sc_total {M : nb_M} {A Ho np ns w bell : Int} {cr pe R r : Int → Int} (W : nb_Lay M) (hA : nb_sc A) (hHo : nb_hs Ho) (hAh : M.1 A 3 = Ho) (hr : pu_Rr r) (hh : pu_Ho M Ho r) (hnp : np = r 5) (hR : pu_Rw R) (hP : pu_Rp pe) (hS : pu_S M A np ns cr pe R) (hX : pu_X M A np pe R) (h8 : M.1 A 8 = bell) (hb : 0 ≤ bell ∧ bell ≤ 9000) {v2 : nb_V} : nb_R nb_P 268 0 [(15, A), (0, w)] [] M = some ([(0, pu_tot r pe R np bell w)], M) := by
  have hn := hr.2.2.2.2.2.2.1
  have c2 := pu_cnt_le (R := R) (x := 2) np.toNat
  have c3 := pu_cnt_le (R := R) (x := 3) np.toNat
  apply nb_Wq
  refine w_sc_total_0 W hA hHo hAh hr hh hnp (by omega) hR hP hS hX h8 hb (by omega) (by omega) ?_
  unfold pu_tot
  refine ⟨fun h => ?_, fun h => ⟨?_, rfl⟩, fun h => ⟨?_, rfl⟩, fun a b c => ⟨?_, rfl⟩⟩
  · rw [if_pos h]
    exact ⟨by omega, by omega, rfl, rfl⟩
  · rw [if_neg (by omega), if_pos h]
  · rw [if_neg (by omega), if_neg (by omega), if_pos h]
  · rw [if_neg a, if_neg b, if_neg c]
