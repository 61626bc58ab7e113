/-! CALLS: waits; who has left stays so -/
def pu_f5 (R T : Int → Int) : Prop := ∀ p, 0 ≤ p → p ≤ 9 → (T (12 + 8 * p) = 5 ↔ R (12 + 8 * p) = 5)
theorem pu_f5.trans {R S T : Int → Int} (h : pu_f5 R S) (g : pu_f5 S T) : pu_f5 R T := fun p a b => (g p a b).trans (h p a b)
theorem pu_cm_f5 {pe R : Int → Int} {t q : Int} (hq : 0 ≤ q) : pu_f5 R (pu_cm pe t q R) := by
  intro p a b
  by_cases e : p = q
  · subst e
    unfold pu_cm
    (repeat' split) <;> (try unfold nb_ud) <;> (repeat' split) <;> first | exact Iff.rfl | omega
  · unfold pu_cm
    (repeat' split) <;> (try unfold nb_ud) <;> (repeat' split) <;> first | exact Iff.rfl | omega
theorem pu_cms_f5 {pe R : Int → Int} {t : Int} : ∀ n : Nat, pu_f5 R (pu_cms pe t R n)
  | 0 => fun _ _ _ => Iff.rfl
  | n + 1 => (pu_cms_f5 n).trans (pu_cm_f5 (by omega))
theorem pu_bg_f5 {r cr R : Int → Int} {t s h q : Int} (hs : 0 ≤ s ∧ s ≤ 3) (hh : 1 ≤ h ∧ h ≤ 2) (hq : 0 ≤ q ∧ q ≤ 9) (hw : R (12 + 8 * q) = 1) (h1 : 0 ≤ R 1 ∧ R 1 ≤ 9) : pu_f5 R (pu_bg r cr t s h q R) := by
  intro p a b
  unfold pu_bg
  by_cases e : p = q
  · subst e
    rw [nb_ud_other (by omega), nb_ud_other (by omega), nb_ud_other (by omega), nb_ud_other (by omega), nb_ud_other (by omega), nb_ud_other (by omega), nb_ud_other (by omega), nb_ud_other (by omega), nb_ud_same]
    omega
  · rw [nb_ud_other (by omega), nb_ud_other (by omega), nb_ud_other (by omega), nb_ud_other (by omega), nb_ud_other (by omega), nb_ud_other (by omega), nb_ud_other (by omega), nb_ud_other (by omega), nb_ud_other (by omega)]
theorem pu_bgs_f5 {r cr pe : Int → Int} {np t s h : Int} (hr : pu_Rr r) (hc : pu_Rc cr) (hnp : 0 ≤ np ∧ np ≤ 10) (hs : 0 ≤ s ∧ s ≤ 3) (hh : 1 ≤ h ∧ h ≤ 2) (ht : 0 ≤ t ∧ t ≤ 9999) : ∀ (n : Nat) (R : Int → Int), pu_Rw R → pu_Rk R → pu_f5 R (pu_bgs r cr pe np t s h n R)
  | 0, R, _, _ => fun _ _ _ => Iff.rfl
  | n + 1, R, hR, hk => by
    unfold pu_bgs
    split
    · exact fun _ _ _ => Iff.rfl
    · rename_i hx
      rcases pu_nf_rg (cr := cr) (pe := pe) (R := R) (s := s) hnp with h | ⟨h0, h9, hn, hw⟩
      · exact absurd h hx
      · obtain ⟨k1, k2, k3⟩ := pu_bg_rk (r := r) (cr := cr) (t := t) hs hh ⟨h0, h9⟩ hw hR hk
        have k4 := pu_bg_rw (h := h) hr hc hR hs hh ⟨h0, h9⟩ ht k3
        have k5 := pu_bg_f5 (r := r) (cr := cr) (t := t) hs hh ⟨h0, h9⟩ hw ⟨hR.2.2.2.1.1, k3⟩
        split
        · exact k5.trans (pu_bgs_f5 hr hc hnp hs hh ht n _ k4 k1)
        · exact k5
theorem pu_sh_f5 {r cr pe : Int → Int} {np t s : Int} (hr : pu_Rr r) (hc : pu_Rc cr) (hnp : 0 ≤ np ∧ np ≤ 10) (hs : 0 ≤ s ∧ s ≤ 3) (ht : 0 ≤ t ∧ t ≤ 9999) {R : Int → Int} (hR : pu_Rw R) (hk : pu_Rk R) : ∀ (n : Nat), n ≤ 2 → pu_f5 R (pu_sh r cr pe np t s n R)
  | 0, _ => fun _ _ _ => Iff.rfl
  | n + 1, h => by
    obtain ⟨h1, h2, h3⟩ := pu_sh_ok (pe := pe) hr hc hnp hs ht hR hk n (by omega)
    have ih := pu_sh_f5 (pe := pe) hr hc hnp hs ht hR hk n (by omega)
    unfold pu_sh
    split
    · exact ih.trans (pu_bgs_f5 hr hc hnp hs (by omega) ht 10 _ h1 h2)
    · exact ih
theorem pu_ss_f5 {r cr pe : Int → Int} {np t : Int} (hr : pu_Rr r) (hc : pu_Rc cr) (hnp : 0 ≤ np ∧ np ≤ 10) (ht : 0 ≤ t ∧ t ≤ 9999) {R : Int → Int} (hR : pu_Rw R) (hk : pu_Rk R) : ∀ (n : Nat), n ≤ 4 → pu_f5 R (pu_ss r cr pe np t n R)
  | 0, _ => fun _ _ _ => Iff.rfl
  | n + 1, h => by
    obtain ⟨h1, h2, h3⟩ := pu_ss_ok (pe := pe) hr hc hnp ht hR hk n (by omega)
    have ih := pu_ss_f5 (pe := pe) hr hc hnp ht hR hk n (by omega)
    have h4 := (hc n (by omega) (by omega)).2.2
    exact ih.trans (pu_sh_f5 (pe := pe) hr hc hnp (s := n) (by omega) ht h1 h2 (cr (6 * n + 5)).toNat (by omega))
theorem pu_sec_f5 {r cr pe : Int → Int} {ns : Int} (hr : pu_Rr r) (hc : pu_Rc cr) (hns : 0 ≤ ns ∧ ns ≤ 4) {R : Int → Int} (hR : pu_Rw R) (hk : pu_Rk R) (h9 : R 0 ≤ 9998) : pu_f5 R (pu_sec r cr pe ns R) := by
  have ht := hR.2.2.1
  have hnp := hr.2.2.2.2.2.2.1
  obtain ⟨h1, h2, h3⟩ := pu_cms_ok (pe := pe) (t := R 0) (by omega) hR hk (r 5).toNat (by omega)
  have j := pu_ss_f5 (pe := pe) hr hc hnp (t := R 0) (by omega) h1 h2 ns.toNat (by omega)
  refine (pu_cms_f5 (r 5).toNat).trans (j.trans fun p a b => ?_)
  unfold pu_sec
  rw [nb_ud_other (by omega)]
theorem pu_secs_f5 {r cr pe : Int → Int} {ns : Int} (hr : pu_Rr r) (hc : pu_Rc cr) (hns : 0 ≤ ns ∧ ns ≤ 4) {R : Int → Int} (hR : pu_Rw R) (hk : pu_Rk R) : ∀ n : Nat, R 0 + n ≤ 9999 → pu_f5 R (pu_secs r cr pe ns n R)
  | 0, _ => fun _ _ _ => Iff.rfl
  | n + 1, h => by
    obtain ⟨h1, h2, h3⟩ := pu_secs_ok (pe := pe) hr hc hns hR hk n (by omega)
    exact (pu_secs_f5 hr hc hns hR hk n (by omega)).trans (pu_sec_f5 hr hc hns h1 h2 (by omega))
/-- who has left is so at the end, and it is past the bell -/
theorem pu_ev_f5 {M : nb_M} {k : Int} (h : pu_I M k) : pu_f5 (M.1 608) (pu_ev M) ∧ M.1 606 2 + 1 ≤ pu_ev M 0 := by
  obtain ⟨Ho, h1, h2, h3, h4, ⟨a1, a2, a3, a4, a5, a6, a7, a8⟩, h6, h7, h8, h9⟩ := pu_I_at h
  have hr := h6.1
  have n5 := hr.2.2.2.2.2.2.1
  have n4 := hr.2.2.2.2.2.1
  have n2 := hr.2.2.2.1
  have hR := pu_Rw_congr (R' := pu_sta M) pu_cpy_in a3.1
  have hk := pu_Rk_congr (R' := pu_sta M) pu_cpy_in a3.2.1
  have hst0 : pu_sta M 0 = M.1 608 0 := pu_cpy_in 0 (by decide) (by decide)
  have h0 := a3.1.2.2.1
  obtain ⟨g1, g2, g3⟩ := pu_secs_ok (pe := pu_pea M) (ns := M.1 606 4) hr (pu_cra_rg h8 h6) (by omega) hR hk (M.1 606 2 + 1 - pu_sta M 0).toNat (by omega)
  have g4 := pu_secs_f5 (pe := pu_pea M) (ns := M.1 606 4) hr (pu_cra_rg h8 h6) (by omega) hR hk (M.1 606 2 + 1 - pu_sta M 0).toNat (by omega)
  constructor
  · intro p a b
    have e : pu_sta M (12 + 8 * p) = M.1 608 (12 + 8 * p) := pu_cpy_in _ (by omega) (by omega)
    rw [← e]
    exact g4 p a b
  · have : pu_ev M 0 = pu_sta M 0 + (M.1 606 2 + 1 - pu_sta M 0).toNat := g3
    omega
theorem pu_wo_wc {pe R : Int → Int} {bell t p : Int} (hd : 0 ≤ R (12 + 8 * p) ∧ R (12 + 8 * p) ≤ 5) (hb : pu_hb pe R t p) (h0 : R (12 + 8 * p) ≠ 0) (h5 : R (12 + 8 * p) ≠ 5) : pu_wo pe R bell p = pu_wc pe R bell p := by
  obtain ⟨b0, b1, b2, b3, b5⟩ := hb
  replace b2 := fun z => (b2 z).1
  have hd' : R (12 + 8 * p) = 1 ∨ R (12 + 8 * p) = 2 ∨ R (12 + 8 * p) = 3 ∨ R (12 + 8 * p) = 4 := by omega
  unfold pu_wc pu_wo pu_fo
  rcases hd' with h | h | h | h
  · have q := b1 h
    simp [h, q.2.1, q.2.2]
  · have q : R (12 + 8 * p + 4) ≠ -2 := by have := b2 h; omega
    simp [h, q]
  · have q := b3 (Or.inl h)
    have q2 : R (12 + 8 * p + 7) ≠ -2 := by omega
    simp [h, q.1, q2]
  · have q := b3 (Or.inr h)
    have q2 : R (12 + 8 * p + 7) ≠ -2 := by omega
    simp [h, q.1, q2]
