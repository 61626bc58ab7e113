/-! CONTRACT: runTo -/
theorem pu_Rw_ud0 {R : Int → Int} {v : Int} (hv : 0 ≤ v ∧ v ≤ 10000) (h : pu_Rw R) : pu_Rw (nb_ud R 0 v) := by
  have e : ∀ j, j ≠ 0 → nb_ud R 0 v j = R j := fun j hj => nb_ud_other hj
  refine ⟨fun q a b => ?_, fun s a b => ?_, ?_, ?_, fun k a b => ?_⟩
  · rw [e _ (by omega), e _ (by omega), e _ (by omega), e _ (by omega), e _ (by omega), e _ (by omega), e _ (by omega), e _ (by omega)]
    exact h.1 q a b
  · rw [e _ (by omega), e _ (by omega), e _ (by omega), e _ (by omega)]
    exact h.2.1 s a b
  · rw [nb_ud_same]
    exact hv
  · rw [e _ (by omega)]
    exact h.2.2.2.1
  · rw [e _ (by omega)] at b ⊢
    exact h.2.2.2.2 k a b
theorem pu_Rk_ud0 {R : Int → Int} {v : Int} (h : pu_Rk R) : pu_Rk (nb_ud R 0 v) := by
  unfold pu_Rk
  rw [nb_ud_other (by omega), pu_nb_eq (R := R) (fun q => by rw [nb_ud_other (by omega)])]
  exact h
theorem pu_S_ud0 {M : nb_M} {A np ns v : Int} {cr pe R : Int → Int} (h1 : 0 ≤ R 1) (h : pu_S M A np ns cr pe R) : pu_S M A np ns cr pe (nb_ud R 0 v) := by
  have e : ∀ j, j ≠ 0 → nb_ud R 0 v j = R j := fun j hj => nb_ud_other hj
  obtain ⟨h4, h5, h6, h7, hG, hV⟩ := h
  refine ⟨h4, h5, by rw [e _ (by omega)]; exact h6, fun k a b => ?_, fun p a b => ?_, fun s a b => ?_⟩
  · rw [e _ (by omega)] at b ⊢
    exact h7 k a b
  · have := hG p a b
    unfold pu_G at *
    rw [e _ (by omega), e _ (by omega), e _ (by omega), e _ (by omega), e _ (by omega), e _ (by omega), e _ (by omega)]
    exact this
  · have := hV s a b
    unfold pu_V at *
    rw [e _ (by omega), e _ (by omega), e _ (by omega), e _ (by omega)]
    exact this
theorem pu_pa_ud0 {pe R : Int → Int} {v q : Int} (hq : 0 ≤ q) (hw : ∀ k, 0 ≤ k → k < R 1 → 0 ≤ R (2 + k)) : pu_pa pe (nb_ud R 0 v) q = pu_pa pe R q := by
  have e : ∀ j, j ≠ 0 → nb_ud R 0 v j = R j := fun j hj => nb_ud_other hj
  have : ∀ n : Nat, (n : Int) ≤ R 1 → pu_pas pe (nb_ud R 0 v) q n = pu_pas pe R q n := by
    intro n
    induction n with
    | zero => intro _; rfl
    | succ n ih =>
      intro hn
      have := hw n (by omega) (by omega)
      unfold pu_pas
      rw [ih (by omega), e (2 + n) (by omega), e _ (by omega), e _ (by omega)]
  unfold pu_pa
  rw [e 1 (by omega)]
  by_cases h : 0 ≤ R 1
  · rw [this _ (by omega)]
  · rw [show (R 1).toNat = 0 by omega]
    rfl
theorem pu_X_ud0 {M : nb_M} {A np v : Int} {pe R : Int → Int} (hw : ∀ k, 0 ≤ k → k < R 1 → 0 ≤ R (2 + k)) (h : pu_X M A np pe R) : pu_X M A np pe (nb_ud R 0 v) := by
  have e : ∀ j, j ≠ 0 → nb_ud R 0 v j = R j := fun j hj => nb_ud_other hj
  intro p a b
  obtain ⟨x1, x2, x3, x4⟩ := h p a b
  refine ⟨?_, ?_, ?_, ?_⟩
  · rw [e _ (by omega), e _ (by omega)]
    exact x1
  · rw [e _ (by omega), e _ (by omega)]
    exact x2
  · rw [x3, pu_pa_ud0 a hw]
  · rw [x4, pu_pu_congr (e _ (by omega)) (fun q qa qb => pu_pa_ud0 qa hw)]
theorem pu_hb_ud0 {pe R : Int → Int} {t p v : Int} (hp : 0 ≤ p) (h : pu_hb pe R t p) : pu_hb pe (nb_ud R 0 v) t p := by
  have e : ∀ j, j ≠ 0 → nb_ud R 0 v j = R j := fun j hj => nb_ud_other hj
  exact pu_hb_congr (e _ (by omega)) (e _ (by omega)) (e _ (by omega)) (fun k k0 k1 k2 => ⟨k, k0, by rw [e _ (by omega)]; exact k1, by rw [e _ (by omega)]; exact k2⟩) h
theorem pu_who_ud0 {R : Int → Int} {np v : Int} (h : pu_who R np) : pu_who (nb_ud R 0 v) np := by
  have e : ∀ j, j ≠ 0 → nb_ud R 0 v j = R j := fun j hj => nb_ud_other hj
  intro k a b
  rw [e _ (by omega)] at b
  have := h k a b
  rw [e _ (by omega), e _ (by omega)]
  exact this
/-- all that stands between seconds -/
def pu_Ib (pe R : Int → Int) (np ns : Int) : Prop := pu_Rw R ∧ pu_Rk R ∧ pu_Hb pe R np (R 0) ∧ ∀ s, 0 ≤ s → s < ns → R (92 + 4 * s + 3) ≤ np
/-- what those who come leave -/
theorem pu_cms_all {pe R : Int → Int} {np ns t : Int} (hp : pu_Rp pe) (hnp : 0 ≤ np ∧ np ≤ 10) (ht : 0 ≤ t ∧ t ≤ 9999) (hR : pu_Rw R) (hk : pu_Rk R) (hb : pu_Hb pe R np t) (hl : ∀ s, 0 ≤ s → s < ns → R (92 + 4 * s + 3) ≤ np) : ∀ n : Nat, (n : Int) ≤ np → pu_Rw (pu_cms pe t R n) ∧ pu_Rk (pu_cms pe t R n) ∧ pu_Mi pe (pu_cms pe t R n) np t n ∧ (∀ s, 0 ≤ s → s < ns → pu_cms pe t R n (92 + 4 * s + 3) ≤ np) ∧ (∀ p, 0 ≤ p → p < (n : Int) → pu_cms pe t R n (12 + 8 * p) = 1 → ¬ (0 ≤ pe (7 * p + 6) - 1 ∧ pe (7 * p + 6) - 1 ≤ t) ∧ t - pe (7 * p + 2) < pe (7 * p + 4))
  | 0, _ => ⟨hR, hk, ⟨fun p a b c => absurd c (by omega), fun p a b _ => hb.1 p a b, hb.2, fun p a b z => ((hb.1 p a b).2.2.1 z).2.1⟩, hl, fun p a b => absurd b (by omega)⟩
  | n + 1, h => by
    obtain ⟨a1, a2, a3, a4, a5⟩ := pu_cms_all (ns := ns) hp hnp ht hR hk hb hl n (by omega)
    have h1 := a1.2.2.2.1
    refine ⟨pu_cm_rw (by omega) ht a1, pu_cm_rk (by omega) a2, pu_Mi_step ht.1 (by omega) h1.2 a3, fun s s0 s1 => ?_, fun p p0 p1 z => ?_⟩
    · show pu_cm pe t n (pu_cms pe t R n) _ ≤ np
      rw [pu_cm_0 (by omega) (by omega)]
      exact a4 s s0 s1
    · by_cases e : p = n
      · subst e
        have c0 := (pu_cm_at (pe := pe) (R := pu_cms pe t R n) (t := t) (p := n)).1
        have z' : pu_cm pe t n (pu_cms pe t R n) (12 + 8 * (n : Int)) = 1 := z
        rw [c0] at z'
        clear c0 z
        split at z'
        · split at z'
          · omega
          · rename_i q
            split at z'
            · rename_i q2
              exact ⟨q, q2⟩
            · omega
        · omega
      · have z' : pu_cm pe t n (pu_cms pe t R n) (12 + 8 * p) = 1 := z
        rw [pu_cm_otherd (by omega) p0 e] at z'
        exact a5 p p0 (by omega) z'
