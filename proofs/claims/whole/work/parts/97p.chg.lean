/-! WHAT A QUESTION CHANGES ON THE STAGE -/
theorem nb_n110 {p j w : Int} (h : 0 ≤ p ∧ p < 10) : ¬ nb_rf (110 + p) j w := by
  have := nb_nsg (j := j) (w := w) nb_sc106 h.1 h.2
  rwa [show (106 : Int) + 4 + p = 110 + p by omega] at this
theorem nb_n120 {s j w : Int} (h : 0 ≤ s ∧ s < 4) (hj : j ≠ 0) : ¬ nb_rf (120 + 2 * s) j w := by
  have := nb_nsv (j := j) (w := w) nb_sc106 h.1 h.2 hj
  rwa [show (106 : Int) + 14 + 2 * s = 120 + 2 * s by omega] at this
theorem nb_n121 {s j w : Int} (h : 0 ≤ s ∧ s < 4) : ¬ nb_rf (120 + 2 * s + 1) j w := by
  have := nb_nsf (j := j) (w := w) nb_sc106 h.1 h.2
  rwa [show (106 : Int) + 14 + 2 * s + 1 = 120 + 2 * s + 1 by omega] at this
theorem pu_Rw_man {R : Int → Int} {p i v : Int} (hp : 0 ≤ p ∧ p ≤ 9) (hv : (i = 1 ∧ 0 ≤ v ∧ v ≤ 19) ∨ (i = 2 ∧ 0 ≤ v ∧ v ≤ 99) ∨ (i = 3 ∧ -100000 ≤ v ∧ v ≤ 100000)) (h : pu_Rw R) : pu_Rw (nb_ud R (12 + 8 * p + i) v) := by
  obtain ⟨a1, a2, a3, a4, a5⟩ := h
  have eo : ∀ j, j ≠ 12 + 8 * p + i → nb_ud R (12 + 8 * p + i) v j = R j := fun j hj => nb_ud_other hj
  refine ⟨fun q h0 h9 => ?_, fun q h0 h3 => ?_, ?_, ?_, fun k h0 hk => ?_⟩
  · have := a1 q h0 h9
    by_cases e : q = p
    · subst e
      have es := nb_ud_same R (12 + 8 * q + i) v
      rw [eo (12 + 8 * q) (by omega), eo (12 + 8 * q + 4) (by omega), eo (12 + 8 * q + 5) (by omega), eo (12 + 8 * q + 6) (by omega), eo (12 + 8 * q + 7) (by omega)]
      rcases hv with ⟨rfl, hv⟩ | ⟨rfl, hv⟩ | ⟨rfl, hv⟩
      · rw [es, eo (12 + 8 * q + 2) (by omega), eo (12 + 8 * q + 3) (by omega)]
        omega
      · rw [es, eo (12 + 8 * q + 1) (by omega), eo (12 + 8 * q + 3) (by omega)]
        omega
      · rw [es, eo (12 + 8 * q + 1) (by omega), eo (12 + 8 * q + 2) (by omega)]
        omega
    · rw [eo (12 + 8 * q) (by omega), eo (12 + 8 * q + 1) (by omega), eo (12 + 8 * q + 2) (by omega), eo (12 + 8 * q + 3) (by omega), eo (12 + 8 * q + 4) (by omega), eo (12 + 8 * q + 5) (by omega), eo (12 + 8 * q + 6) (by omega), eo (12 + 8 * q + 7) (by omega)]
      exact this
  · rw [eo (92 + 4 * q) (by omega), eo (92 + 4 * q + 1) (by omega), eo (92 + 4 * q + 2) (by omega), eo (92 + 4 * q + 3) (by omega)]
    exact a2 q h0 h3
  · rw [eo 0 (by omega)]
    exact a3
  · rw [eo 1 (by omega)]
    exact a4
  · rw [eo 1 (by omega)] at hk
    rw [eo (2 + k) (by omega)]
    exact a5 k h0 hk
theorem pu_Rk_man {R : Int → Int} {p i v : Int} (hp : 0 ≤ p ∧ p ≤ 9) (hi : 1 ≤ i ∧ i ≤ 3) (h : pu_Rk R) : pu_Rk (nb_ud R (12 + 8 * p + i) v) := by
  unfold pu_Rk at h ⊢
  rw [nb_ud_other (by omega), pu_nb_eq (fun q : Nat => by rw [nb_ud_other (by omega)])]
  exact h
theorem pu_St_place {M N : nb_M} {ns p v : Int} {cr pe R : Int → Int} (h : pu_St M N ns cr pe R) (hnp : M.1 606 5 ≤ 10) (hns : ns ≤ 4) (hp : 0 ≤ p ∧ p < M.1 606 5) (hv : 0 ≤ v ∧ v ≤ 19) : pu_St M (nb_wr N (110 + p) 3 v) ns cr pe (nb_ud R (12 + 8 * p + 1) v) := by
  refine h.guests hnp hns (fun a i _ _ c => by rw [nb_wr_1, if_neg (by omega)]) (fun q a b => ?_) (pu_ag.ud (by omega) (by omega)) (fun j _ => nb_ud_other (by omega)) (fun _ _ _ => rfl) (pu_Rw_man (by omega) (by omega) h.2.2.1)
  have g := h.1.2.2.2.2.1 q a b
  rw [show (106 : Int) + 4 + q = 110 + q by omega] at g
  obtain ⟨g0, g2, g3, g4, g5, g6, g7, g8, g9, g10, g12⟩ := g
  by_cases e : q = p
  · subst e
    refine ⟨?_, ?_, ?_, ?_, ?_, ?_, ?_, ?_, ?_, ?_, ?_⟩
    · rw [nb_wr_1, if_neg (by omega)]; exact g0
    · rw [nb_wr_1, if_neg (by omega)]; exact g2
    · rw [nb_wr_1, if_pos ⟨rfl, rfl⟩, nb_ud_same]
    · rw [nb_wr_1, if_neg (by omega)]; exact g4
    · rw [nb_wr_1, if_neg (by omega), nb_ud_other (by omega)]; exact g5
    · rw [nb_wr_1, if_neg (by omega)]; exact g6
    · rw [nb_wr_1, if_neg (by omega), nb_ud_other (by omega)]; exact g7
    · rw [nb_wr_1, if_neg (by omega), nb_ud_other (by omega)]; exact g8
    · rw [nb_wr_1, if_neg (by omega), nb_ud_other (by omega)]; exact g9
    · rw [nb_wr_1, if_neg (by omega), nb_ud_other (by omega)]; exact g10
    · rw [nb_wr_1, if_neg (by omega), nb_ud_other (by omega)]; exact g12
  · refine ⟨?_, ?_, ?_, ?_, ?_, ?_, ?_, ?_, ?_, ?_, ?_⟩
    · rw [nb_wr_1, if_neg (by omega)]; exact g0
    · rw [nb_wr_1, if_neg (by omega)]; exact g2
    · rw [nb_wr_1, if_neg (by omega), nb_ud_other (by omega)]; exact g3
    · rw [nb_wr_1, if_neg (by omega)]; exact g4
    · rw [nb_wr_1, if_neg (by omega), nb_ud_other (by omega)]; exact g5
    · rw [nb_wr_1, if_neg (by omega)]; exact g6
    · rw [nb_wr_1, if_neg (by omega), nb_ud_other (by omega)]; exact g7
    · rw [nb_wr_1, if_neg (by omega), nb_ud_other (by omega)]; exact g8
    · rw [nb_wr_1, if_neg (by omega), nb_ud_other (by omega)]; exact g9
    · rw [nb_wr_1, if_neg (by omega), nb_ud_other (by omega)]; exact g10
    · rw [nb_wr_1, if_neg (by omega), nb_ud_other (by omega)]; exact g12

theorem pu_St_look {M N : nb_M} {ns p v : Int} {cr pe R : Int → Int} (h : pu_St M N ns cr pe R) (hnp : M.1 606 5 ≤ 10) (hns : ns ≤ 4) (hp : 0 ≤ p ∧ p < M.1 606 5) (hv : 0 ≤ v ∧ v ≤ 99) : pu_St M (nb_wr N (110 + p) 5 v) ns cr pe (nb_ud R (12 + 8 * p + 2) v) := by
  refine h.guests hnp hns (fun a i _ _ c => by rw [nb_wr_1, if_neg (by omega)]) (fun q a b => ?_) (pu_ag.ud (by omega) (by omega)) (fun j _ => nb_ud_other (by omega)) (fun _ _ _ => rfl) (pu_Rw_man (by omega) (by omega) h.2.2.1)
  have g := h.1.2.2.2.2.1 q a b
  rw [show (106 : Int) + 4 + q = 110 + q by omega] at g
  obtain ⟨g0, g2, g3, g4, g5, g6, g7, g8, g9, g10, g12⟩ := g
  by_cases e : q = p
  · subst e
    refine ⟨?_, ?_, ?_, ?_, ?_, ?_, ?_, ?_, ?_, ?_, ?_⟩
    · rw [nb_wr_1, if_neg (by omega)]; exact g0
    · rw [nb_wr_1, if_neg (by omega)]; exact g2
    · rw [nb_wr_1, if_neg (by omega), nb_ud_other (by omega)]; exact g3
    · rw [nb_wr_1, if_neg (by omega)]; exact g4
    · rw [nb_wr_1, if_pos ⟨rfl, rfl⟩, nb_ud_same]
    · rw [nb_wr_1, if_neg (by omega)]; exact g6
    · rw [nb_wr_1, if_neg (by omega), nb_ud_other (by omega)]; exact g7
    · rw [nb_wr_1, if_neg (by omega), nb_ud_other (by omega)]; exact g8
    · rw [nb_wr_1, if_neg (by omega), nb_ud_other (by omega)]; exact g9
    · rw [nb_wr_1, if_neg (by omega), nb_ud_other (by omega)]; exact g10
    · rw [nb_wr_1, if_neg (by omega), nb_ud_other (by omega)]; exact g12
  · refine ⟨?_, ?_, ?_, ?_, ?_, ?_, ?_, ?_, ?_, ?_, ?_⟩
    · rw [nb_wr_1, if_neg (by omega)]; exact g0
    · rw [nb_wr_1, if_neg (by omega)]; exact g2
    · rw [nb_wr_1, if_neg (by omega), nb_ud_other (by omega)]; exact g3
    · rw [nb_wr_1, if_neg (by omega)]; exact g4
    · rw [nb_wr_1, if_neg (by omega), nb_ud_other (by omega)]; exact g5
    · rw [nb_wr_1, if_neg (by omega)]; exact g6
    · rw [nb_wr_1, if_neg (by omega), nb_ud_other (by omega)]; exact g7
    · rw [nb_wr_1, if_neg (by omega), nb_ud_other (by omega)]; exact g8
    · rw [nb_wr_1, if_neg (by omega), nb_ud_other (by omega)]; exact g9
    · rw [nb_wr_1, if_neg (by omega), nb_ud_other (by omega)]; exact g10
    · rw [nb_wr_1, if_neg (by omega), nb_ud_other (by omega)]; exact g12

theorem pu_St_says {M N : nb_M} {ns p v : Int} {cr pe R : Int → Int} (h : pu_St M N ns cr pe R) (hnp : M.1 606 5 ≤ 10) (hns : ns ≤ 4) (hp : 0 ≤ p ∧ p < M.1 606 5) (hv : -100000 ≤ v ∧ v ≤ 100000) : pu_St M (nb_wr N (110 + p) 7 v) ns cr pe (nb_ud R (12 + 8 * p + 3) v) := by
  refine h.guests hnp hns (fun a i _ _ c => by rw [nb_wr_1, if_neg (by omega)]) (fun q a b => ?_) (pu_ag.ud (by omega) (by omega)) (fun j _ => nb_ud_other (by omega)) (fun _ _ _ => rfl) (pu_Rw_man (by omega) (by omega) h.2.2.1)
  have g := h.1.2.2.2.2.1 q a b
  rw [show (106 : Int) + 4 + q = 110 + q by omega] at g
  obtain ⟨g0, g2, g3, g4, g5, g6, g7, g8, g9, g10, g12⟩ := g
  by_cases e : q = p
  · subst e
    refine ⟨?_, ?_, ?_, ?_, ?_, ?_, ?_, ?_, ?_, ?_, ?_⟩
    · rw [nb_wr_1, if_neg (by omega)]; exact g0
    · rw [nb_wr_1, if_neg (by omega)]; exact g2
    · rw [nb_wr_1, if_neg (by omega), nb_ud_other (by omega)]; exact g3
    · rw [nb_wr_1, if_neg (by omega)]; exact g4
    · rw [nb_wr_1, if_neg (by omega), nb_ud_other (by omega)]; exact g5
    · rw [nb_wr_1, if_neg (by omega)]; exact g6
    · rw [nb_wr_1, if_pos ⟨rfl, rfl⟩, nb_ud_same]
    · rw [nb_wr_1, if_neg (by omega), nb_ud_other (by omega)]; exact g8
    · rw [nb_wr_1, if_neg (by omega), nb_ud_other (by omega)]; exact g9
    · rw [nb_wr_1, if_neg (by omega), nb_ud_other (by omega)]; exact g10
    · rw [nb_wr_1, if_neg (by omega), nb_ud_other (by omega)]; exact g12
  · refine ⟨?_, ?_, ?_, ?_, ?_, ?_, ?_, ?_, ?_, ?_, ?_⟩
    · rw [nb_wr_1, if_neg (by omega)]; exact g0
    · rw [nb_wr_1, if_neg (by omega)]; exact g2
    · rw [nb_wr_1, if_neg (by omega), nb_ud_other (by omega)]; exact g3
    · rw [nb_wr_1, if_neg (by omega)]; exact g4
    · rw [nb_wr_1, if_neg (by omega), nb_ud_other (by omega)]; exact g5
    · rw [nb_wr_1, if_neg (by omega)]; exact g6
    · rw [nb_wr_1, if_neg (by omega), nb_ud_other (by omega)]; exact g7
    · rw [nb_wr_1, if_neg (by omega), nb_ud_other (by omega)]; exact g8
    · rw [nb_wr_1, if_neg (by omega), nb_ud_other (by omega)]; exact g9
    · rw [nb_wr_1, if_neg (by omega), nb_ud_other (by omega)]; exact g10
    · rw [nb_wr_1, if_neg (by omega), nb_ud_other (by omega)]; exact g12

theorem pu_St_shelf {M N : nb_M} {ns p v : Int} {cr pe R : Int → Int} (h : pu_St M N ns cr pe R) (hnp : M.1 606 5 ≤ 10) (hns : ns ≤ 4) (hp : 0 ≤ p ∧ p < M.1 606 5) (hv : 0 ≤ v) : pu_St M (nb_wr N (110 + p) 6 v) ns cr (nb_ud pe (7 * p + 6) (v + 1)) R := by
  refine h.guests hnp hns (fun a i _ _ c => by rw [nb_wr_1, if_neg (by omega)]) (fun q a b => ?_) (pu_ag.id R) (fun _ _ => rfl) (fun q _ _ => nb_ud_other (by omega)) h.2.2.1
  have g := h.1.2.2.2.2.1 q a b
  rw [show (106 : Int) + 4 + q = 110 + q by omega] at g
  obtain ⟨g0, g2, g3, g4, g5, g6, g7, g8, g9, g10, g12⟩ := g
  by_cases e : q = p
  · subst e
    refine ⟨?_, ?_, ?_, ?_, ?_, ?_, ?_, ?_, ?_, ?_, ?_⟩
    · rw [nb_wr_1, if_neg (by omega), nb_ud_other (by omega)]; exact g0
    · rw [nb_wr_1, if_neg (by omega), nb_ud_other (by omega)]; exact g2
    · rw [nb_wr_1, if_neg (by omega)]; exact g3
    · rw [nb_wr_1, if_neg (by omega), nb_ud_other (by omega)]; exact g4
    · rw [nb_wr_1, if_neg (by omega)]; exact g5
    · rw [nb_wr_1, if_pos ⟨rfl, rfl⟩, nb_ud_same]
      unfold pu_she
      rw [if_neg (by omega)]
      omega
    · rw [nb_wr_1, if_neg (by omega)]; exact g7
    · rw [nb_wr_1, if_neg (by omega)]; exact g8
    · rw [nb_wr_1, if_neg (by omega)]; exact g9
    · rw [nb_wr_1, if_neg (by omega)]; exact g10
    · rw [nb_wr_1, if_neg (by omega)]; exact g12
  · refine ⟨?_, ?_, ?_, ?_, ?_, ?_, ?_, ?_, ?_, ?_, ?_⟩
    · rw [nb_wr_1, if_neg (by omega), nb_ud_other (by omega)]; exact g0
    · rw [nb_wr_1, if_neg (by omega), nb_ud_other (by omega)]; exact g2
    · rw [nb_wr_1, if_neg (by omega)]; exact g3
    · rw [nb_wr_1, if_neg (by omega), nb_ud_other (by omega)]; exact g4
    · rw [nb_wr_1, if_neg (by omega)]; exact g5
    · rw [nb_wr_1, if_neg (by omega), nb_ud_other (by omega)]; exact g6
    · rw [nb_wr_1, if_neg (by omega)]; exact g7
    · rw [nb_wr_1, if_neg (by omega)]; exact g8
    · rw [nb_wr_1, if_neg (by omega)]; exact g9
    · rw [nb_wr_1, if_neg (by omega)]; exact g10
    · rw [nb_wr_1, if_neg (by omega)]; exact g12

/-- someone behaves otherwise -/
def pu_bhv (pe : Int → Int) (p m : Int) : Int → Int := nb_ud (nb_ud pe (7 * p) m) (7 * p + 1) (if m = 1 ∨ m = 2 then 30 else 0)
def pu_bhs (pe : Int → Int) (p m : Int) : Int := pe (7 * p + 2) + (if m = 1 then -30 else if m = 2 then 30 else 0)
theorem pu_bhv_Rp {pe : Int → Int} {p m : Int} (hp : 0 ≤ p ∧ p ≤ 9) (hm : 0 ≤ m ∧ m ≤ 3) (h : pu_Rp pe) : pu_Rp (pu_bhv pe p m) := by
  intro q a b
  have g := h q a b
  unfold pu_bhv
  have e2 : ∀ i, 2 ≤ i → i ≤ 6 → nb_ud (nb_ud pe (7 * p) m) (7 * p + 1) (if m = 1 ∨ m = 2 then 30 else 0) (7 * q + i) = pe (7 * q + i) := fun i _ _ => by rw [nb_ud_other (by omega), nb_ud_other (by omega)]
  rw [e2 2 (by decide) (by decide), e2 3 (by decide) (by decide), e2 4 (by decide) (by decide), e2 5 (by decide) (by decide), e2 6 (by decide) (by decide)]
  by_cases e : q = p
  · subst e
    rw [nb_ud_same, nb_ud_other (by omega), nb_ud_same]
    split <;> omega
  · rw [nb_ud_other (by omega), nb_ud_other (by omega), nb_ud_other (by omega), nb_ud_other (by omega)]
    exact g
theorem pu_St_behave {M N N' : nb_M} {ns p m : Int} {cr pe R : Int → Int} (h : pu_St M N ns cr pe R) (hnp : M.1 606 5 ≤ 10) (hns : ns ≤ 4) (hp : 0 ≤ p ∧ p < M.1 606 5) (hpe : 0 ≤ pe (7 * p + 2) ∧ pe (7 * p + 2) ≤ 600) (e0 : N'.1 (110 + p) 0 = m) (e7 : N'.1 (110 + p) 7 = pu_bhs pe p m) (eo : ∀ a i, (a ≠ 110 + p ∨ (i ≠ 0 ∧ i ≠ 1 ∧ i ≠ 7)) → N'.1 a i = N.1 a i) : pu_St M N' ns cr (pu_bhv pe p m) (nb_ud R (12 + 8 * p + 3) (pu_bhs pe p m)) := by
  have hs : -100000 ≤ pu_bhs pe p m ∧ pu_bhs pe p m ≤ 100000 := by
    unfold pu_bhs
    (repeat' split) <;> omega
  refine h.guests hnp hns (fun a i _ _ c => eo a i (by omega)) (fun q a b => ?_) (pu_ag.ud (by omega) (by omega)) (fun j _ => nb_ud_other (by omega)) (fun q _ _ => ?_) (pu_Rw_man (by omega) (by omega) h.2.2.1)
  · have g := h.1.2.2.2.2.1 q a b
    rw [show (106 : Int) + 4 + q = 110 + q by omega] at g
    obtain ⟨g0, g2, g3, g4, g5, g6, g7, g8, g9, g10, g12⟩ := g
    unfold pu_bhv
    by_cases e : q = p
    · subst e
      refine ⟨?_, ?_, ?_, ?_, ?_, ?_, ?_, ?_, ?_, ?_, ?_⟩
      · rw [e0, nb_ud_other (by omega), nb_ud_same]
      · rw [eo _ _ (by omega), nb_ud_other (by omega), nb_ud_other (by omega)]; exact g2
      · rw [eo _ _ (by omega), nb_ud_other (by omega)]; exact g3
      · rw [eo _ _ (by omega), nb_ud_other (by omega), nb_ud_other (by omega)]; exact g4
      · rw [eo _ _ (by omega), nb_ud_other (by omega)]; exact g5
      · rw [eo _ _ (by omega), nb_ud_other (by omega), nb_ud_other (by omega)]; exact g6
      · rw [e7, nb_ud_same]
      · rw [eo _ _ (by omega), nb_ud_other (by omega)]; exact g8
      · rw [eo _ _ (by omega), nb_ud_other (by omega)]; exact g9
      · rw [eo _ _ (by omega), nb_ud_other (by omega)]; exact g10
      · rw [eo _ _ (by omega), nb_ud_other (by omega)]; exact g12
    · refine ⟨?_, ?_, ?_, ?_, ?_, ?_, ?_, ?_, ?_, ?_, ?_⟩
      · rw [eo _ _ (by omega), nb_ud_other (by omega), nb_ud_other (by omega)]; exact g0
      · rw [eo _ _ (by omega), nb_ud_other (by omega), nb_ud_other (by omega)]; exact g2
      · rw [eo _ _ (by omega), nb_ud_other (by omega)]; exact g3
      · rw [eo _ _ (by omega), nb_ud_other (by omega), nb_ud_other (by omega)]; exact g4
      · rw [eo _ _ (by omega), nb_ud_other (by omega)]; exact g5
      · rw [eo _ _ (by omega), nb_ud_other (by omega), nb_ud_other (by omega)]; exact g6
      · rw [eo _ _ (by omega), nb_ud_other (by omega)]; exact g7
      · rw [eo _ _ (by omega), nb_ud_other (by omega)]; exact g8
      · rw [eo _ _ (by omega), nb_ud_other (by omega)]; exact g9
      · rw [eo _ _ (by omega), nb_ud_other (by omega)]; exact g10
      · rw [eo _ _ (by omega), nb_ud_other (by omega)]; exact g12
  · unfold pu_bhv
    rw [nb_ud_other (by omega), nb_ud_other (by omega)]

theorem sp_g_behave {N : nb_M} {g c m : Int} (hg : g ≠ 0) (hc : N.1 g 2 = c) (hc2 : 0 ≤ c ∧ c ≤ 600) : nb_W 216 0 [(11, g), (0, m), (0, 30)] [] N (fun r' N' => r' = [] ∧ N'.2 = N.2 ∧ N'.1 g 0 = m ∧ N'.1 g 7 = c + (if m = 1 then -30 else if m = 2 then 30 else 0) ∧ ∀ a i, (a ≠ g ∨ (i ≠ 0 ∧ i ≠ 1 ∧ i ≠ 7)) → N'.1 a i = N.1 a i) := by
  refine w_g_behave_0 hg ?_
  rw [hc]
  refine ⟨fun e => ⟨by omega, by omega, rfl, rfl, ?_, ?_, fun a i h => ?_⟩, fun e => ⟨fun f => ⟨by omega, by omega, rfl, rfl, ?_, ?_, fun a i h => ?_⟩, fun f => ⟨rfl, rfl, ?_, ?_, fun a i h => ?_⟩⟩⟩
  all_goals first
    | (rw [nb_wr_1, if_neg (by omega), nb_wr_1, if_neg (by omega), nb_wr_1, if_neg (by omega), nb_wr_1, if_pos ⟨rfl, rfl⟩]; done)
    | (rw [nb_wr_1, if_neg (by omega), nb_wr_1, if_neg (by omega), nb_wr_1, if_pos ⟨rfl, rfl⟩]; done)
    | (rw [nb_wr_1, if_pos ⟨rfl, rfl⟩, if_pos e]; omega)
    | (rw [nb_wr_1, if_pos ⟨rfl, rfl⟩, if_neg e, if_pos f]; done)
    | (rw [nb_wr_1, if_pos ⟨rfl, rfl⟩, if_neg e, if_neg f]; omega)
    | (rw [nb_wr_1, if_neg (by omega), nb_wr_1, if_neg (by omega), nb_wr_1, if_neg (by omega), nb_wr_1, if_neg (by omega)]; done)
    | (rw [nb_wr_1, if_neg (by omega), nb_wr_1, if_neg (by omega), nb_wr_1, if_neg (by omega)]; done)
theorem sp_g_behaveQ {M N : nb_M} {ns p m tr : Int} {cr pe R : Int → Int} (hq : pu_CQ M N tr) (h : pu_St M N ns cr pe R) (hnp : M.1 606 5 ≤ 10) (hns : ns ≤ 4) (hp : 0 ≤ p ∧ p < M.1 606 5) (hP : pu_Rp pe) : nb_W 216 0 [(11, 110 + p), (0, m), (0, 30)] [] N (fun r' N' => r' = [] ∧ pu_CQ M N' tr ∧ pu_St M N' ns cr (pu_bhv pe p m) (nb_ud R (12 + 8 * p + 3) (pu_bhs pe p m)) ∧ ∀ a i, a ≠ 110 + p → N'.1 a i = N.1 a i) := by
  have hpe := (hP p hp.1 (by omega)).2.2.1
  have g := h.1.2.2.2.2.1 p hp.1 hp.2
  rw [show (106 : Int) + 4 + p = 110 + p by omega] at g
  refine nb_W.imp (sp_g_behave (c := pe (7 * p + 2)) (by omega) g.2.1 hpe) ?_
  rintro r' N' ⟨rfl, h2, e0, e7, eo⟩
  obtain ⟨q1, q2, q3, q4⟩ := hq
  refine ⟨rfl, ⟨q1.mono (by rw [h2]) (fun a i w z => ?_), h2.trans q2, ?_, fun a i x y => ?_⟩, pu_St_behave h hnp hns hp hpe e0 e7 eo, fun a i x => eo a i (Or.inl x)⟩
  · refine eo a i (Or.inl (fun e => ?_))
    rw [e] at z
    exact nb_n110 (by omega) z
  · rw [eo 2 15 (Or.inl (by omega))]; exact q3
  · rw [eo a i (Or.inl (by omega))]; exact q4 a i x y
/-! the first least -/
def pu_bs (f : Nat → Int) (a b : Int) : Nat → Int × Int
  | 0 => (a, b)
  | n + 1 => if f n < (pu_bs f a b n).2 then ((n : Int), f n) else pu_bs f a b n
theorem pu_bs_lt {f : Nat → Int} {a b : Int} {n : Nat} (h : f n < (pu_bs f a b n).2) : pu_bs f a b (n + 1) = ((n : Int), f n) := if_pos h
theorem pu_bs_ge {f : Nat → Int} {a b : Int} {n : Nat} (h : (pu_bs f a b n).2 ≤ f n) : pu_bs f a b (n + 1) = pu_bs f a b n := if_neg (by omega)
/-- of two searches that rate alike what is there, and what isn't there as much -/
theorem pu_bs_eq {f g : Nat → Int} {a : Int} : ∀ n : Nat, (∀ j, j < n → (f j = g j ∧ g j < 1000000) ∨ (f j = 1000000 ∧ g j = 1000000)) → (pu_bs f a 1000000 n).1 = (pu_bs g a 1000000 n).1 ∧ (((pu_bs f a 1000000 n).2 = (pu_bs g a 1000000 n).2 ∧ (pu_bs g a 1000000 n).2 < 1000000) ∨ ((pu_bs f a 1000000 n).2 = 1000000 ∧ (pu_bs g a 1000000 n).2 = 1000000))
  | 0, _ => ⟨rfl, Or.inr ⟨rfl, rfl⟩⟩
  | n + 1, h => by
    obtain ⟨h1, h2⟩ := pu_bs_eq (f := f) (g := g) (a := a) n (fun j hj => h j (by omega))
    have h3 := h n (by omega)
    unfold pu_bs
    by_cases c : g n < (pu_bs g a 1000000 n).2
    · rw [if_pos c, if_pos (by omega)]
      exact ⟨rfl, by omega⟩
    · rw [if_neg c, if_neg (by omega)]
      exact ⟨h1, h2⟩
theorem pu_bs_start {f : Nat → Int} {a b a' b' : Int} (h : f 0 < b) (h' : f 0 < b') : ∀ n : Nat, pu_bs f a b (n + 1) = pu_bs f a' b' (n + 1)
  | 0 => by
    rw [pu_bs_lt (n := 0) h, pu_bs_lt (n := 0) h']
  | n + 1 => by
    have ih := pu_bs_start (a := a) (a' := a') h h' n
    show (if f (n + 1) < (pu_bs f a b (n + 1)).2 then _ else _) = if f (n + 1) < (pu_bs f a' b' (n + 1)).2 then _ else _
    rw [ih]
/-! his wait, if he has it -/
def pu_swc (pe E : Int → Int) (p : Int) : Int := if E (12 + 8 * p) = 2 ∨ E (12 + 8 * p) = 3 then pu_wc pe E 0 p else 1000000
def pu_wih (pe E : Int → Int) (bell p : Int) : Int := if pu_fo E p < 2 then pu_wo pe E bell p else 1000000
theorem pu_sw_wih {pe E : Int → Int} {bell t p : Int} (hE : pu_Rw E) (hP : pu_Rp pe) (hb : 0 ≤ bell ∧ bell ≤ 9000) (hp : 0 ≤ p ∧ p ≤ 9) (hh : pu_hb pe E t p) : (pu_swc pe E p = pu_wih pe E bell p ∧ pu_wih pe E bell p < 1000000) ∨ (pu_swc pe E p = 1000000 ∧ pu_wih pe E bell p = 1000000) := by
  have e := (hE.1 p hp.1 hp.2).1
  have w := pu_wo_rg (bell := bell) hE hP hb hp
  unfold pu_swc pu_wih
  by_cases c : E (12 + 8 * p) = 2 ∨ E (12 + 8 * p) = 3
  · left
    have h4 := pu_wo_wc (bell := bell) e hh (by omega) (by omega)
    have h5 : pu_wc pe E 0 p = pu_wc pe E bell p := by
      unfold pu_wc
      (repeat' split) <;> first | rfl | omega
    have h6 : pu_fo E p < 2 := by
      unfold pu_fo
      (repeat' split) <;> omega
    rw [if_pos c, if_pos h6, h5, h4]
    exact ⟨rfl, by omega⟩
  · right
    have h6 : ¬ pu_fo E p < 2 := by
      unfold pu_fo
      (repeat' split) <;> omega
    rw [if_neg c, if_neg h6]
    exact ⟨rfl, rfl⟩
theorem sp_m_waitIfHasQ {M N : nb_M} {S C cr pe : Int → Int} {ns bell p : Int} (h : pu_MM M N S C) (hr : pu_Rr (M.1 606)) (hc : pu_Rc cr) (hp : pu_Rp pe) (hS : pu_Rw S) (hk : pu_Rk S) (e25 : N.1 603 25 = ns) (e26 : N.1 603 26 = bell) (e12 : N.1 612 = cr) (e13 : N.1 613 = pe) (hns : 0 ≤ ns ∧ ns ≤ 4) (hb : 0 ≤ bell ∧ bell ≤ 9000) (h9 : 0 ≤ p ∧ p ≤ 9) : nb_W 167 0 [(20, 603), (0, p)] [] N (fun r' N' => r' = [(0, pu_wih pe (pu_eve (M.1 606) cr pe ns bell (pu_cpy S (M.1 609) 0 0 108)) bell p)] ∧ pu_MM M N' S C ∧ ∀ a, a ≠ 609 → N'.1 a = N.1 a) := by
  refine w_m_waitIfHas_0 h.1 (by omega) ?_
  refine nb_W.imp (sp_m_eveningQ h hr hc hp hS hk e25 e26 e12 e13 hns hb) ?_
  rintro r' N' ⟨rfl, q, e9, eo⟩
  have hE := (pu_eve_ok (g := M.1 609) (pe := pe) hr hc hns hb hS hk).1
  have f := sp_m_fateOf (p := p) q.1 h9
  have w := sp_m_waitOf (p := p) (v2 := (98, 0)) q.1 h9 (by rw [e9]; exact hE) (by rw [eo 613 (by decide), e13]; exact hp) (by rw [eo 603 (by decide), e26]; exact hb)
  rw [e9] at f
  rw [e9, eo 613 (by decide), eo 603 (by decide), e13, e26] at w
  refine ⟨rfl, q.1, nb_Wp f ⟨_, rfl, q.1, fun c => nb_Wp w ⟨_, rfl, q.1, fun _ => ⟨?_, q, eo⟩⟩, fun c _ => ⟨?_, q, eo⟩⟩⟩
  · unfold pu_wih
    rw [if_pos c]
  · unfold pu_wih
    rw [if_neg (by omega)]
theorem pu_eve_facts {r cr pe R : Int → Int} {ns bell : Int} (hr : pu_Rr r) (hc : pu_Rc cr) (hns : 0 ≤ ns ∧ ns ≤ 4) (hb : 0 ≤ bell ∧ bell ≤ 9000) (hR : pu_Rw R) (hk : pu_Rk R) : pu_Rw (pu_eve r cr pe ns bell R) ∧ pu_f5 R (pu_eve r cr pe ns bell R) ∧ bell + 1 ≤ pu_eve r cr pe ns bell R 0 := by
  have h0 := hR.2.2.1
  have hx : R 0 + ((bell + 1 - R 0).toNat : Int) ≤ 9999 ∨ (bell + 1 - R 0).toNat = 0 := by omega
  unfold pu_eve
  rcases hx with hx | hx
  · obtain ⟨a, b, c⟩ := pu_secs_ok (pe := pe) hr hc hns hR hk _ hx
    exact ⟨a, pu_secs_f5 hr hc hns hR hk _ hx, by omega⟩
  · rw [hx]
    exact ⟨hR, fun _ _ _ => Iff.rfl, by unfold pu_secs; omega⟩
theorem pu_sta_ok {M : nb_M} {k : Int} (h : pu_I M k) : pu_Rw (pu_sta M) ∧ pu_Rk (pu_sta M) ∧ pu_Rw (M.1 608) ∧ pu_Rk (M.1 608) ∧ pu_Rc (pu_cra M) ∧ pu_Rp (pu_pea M) ∧ (∀ p, 0 ≤ p → p < M.1 606 5 → pu_pea M (7 * p + 2) = M.1 606 (41 + 7 * p + 2)) ∧ ∀ p, 0 ≤ p → p < M.1 606 5 → pu_pea M (7 * p + 2) ≤ M.1 606 2 := by
  obtain ⟨Ho, h1, h2, h3, h4, ⟨a1, a2, a3, a4, a5, a6, a7, a8⟩, h6, h7, h8, h9⟩ := pu_I_at h
  have n5 := h6.1.2.2.2.2.2.2.1
  refine ⟨pu_Rw_congr pu_cpy_in a3.1, pu_Rk_congr pu_cpy_in a3.2.1, a3.1, a3.2.1, pu_cra_rg h8 h6, pu_pea_rg h6, fun p p0 p1 => ?_, fun p p0 p1 => ?_⟩
  · rw [pu_pea_eq M (by omega) (by omega)]
    exact congrArg (M.1 606) (by omega)
  · rw [pu_pea_eq M (by omega) (by omega)]
    exact h6.2.2.2.2.2.2.2.1 p p0 p1
