/-! CONTRACT: serve -/
/-- all that goes on within a second -/
def pu_In (pe R : Int → Int) (np ns t : Int) : Prop := pu_Rw R ∧ pu_Rk R ∧ pu_Hm pe R np t ∧ ∀ s, 0 ≤ s → s < ns → R (92 + 4 * s + 3) ≤ np
theorem pu_In_bg {r cr pe R : Int → Int} {np ns t s h u : Int} (hr : pu_Rr r) (hc : pu_Rc cr) (hnp : 0 ≤ np ∧ np ≤ 10) (hns : ns ≤ 4) (ht : 0 ≤ t ∧ t ≤ 9999) (hI : pu_In pe R np ns t) (hs : 0 ≤ s ∧ s < ns) (hh : 1 ≤ h ∧ h ≤ 2) (hu : 0 ≤ u ∧ u < np) (hw : R (12 + 8 * u) = 1) : pu_bgc r cr pe R np t s h u ∧ pu_In pe (pu_bg r cr t s h u R) np ns t := by
  obtain ⟨h1, h2, h3, h4⟩ := hI
  obtain ⟨k1, k2, k3⟩ := pu_bg_rk (r := r) (cr := cr) (t := t) (s := s) (h := h) (by omega) hh (by omega) hw h1 h2
  have k4 := pu_bg_rw (h := h) (s := s) hr hc h1 (by omega) hh (p := u) (by omega) ht k3
  have hc2 : pu_bgc r cr pe R np t s h u := ⟨by omega, hh, hu, hnp.2, ⟨h1.2.2.2.1.1, k3⟩, hw, ht.1, h3, fun p a b => (h1.1 p a (by omega)).1⟩
  obtain ⟨c1, c2⟩ := pu_bg_crew (r := r) (cr := cr) (R := R) (t := t) (s := s) (h := h) (u := u) (by omega) hh (by omega) ⟨h1.2.2.2.1.1, k3⟩
  refine ⟨hc2, k4, k1, pu_bg_hm hc2, fun q a b => ?_⟩
  by_cases e : q = s
  · rw [e, c1.2.2.2]
    omega
  · rw [c2 q 3 a (by omega) e (by omega) (by omega)]
    exact h4 q a b
/-- one of the staff, as the class has it -/
def pu_sv (r cr pe : Int → Int) (np t s : Int) : Nat → (Int → Int) → Int → Int
  | 0, R => R
  | n + 1, R => if pu_fh cr R t s = 0 ∨ pu_nf np cr pe R s = -2 then R else pu_sv r cr pe np t s n (pu_bg r cr t s (pu_fh cr R t s) (pu_nf np cr pe R s) R)
theorem pu_fh_rg {cr R : Int → Int} {t s : Int} : pu_fh cr R t s = 0 ∨ pu_fh cr R t s = 1 ∨ pu_fh cr R t s = 2 := by
  unfold pu_fh
  (repeat' split) <;> simp
theorem pu_nf_rg2 {np : Int} {cr pe R : Int → Int} {s : Int} (hnp : 0 ≤ np) : pu_nf np cr pe R s = -2 ∨ (0 ≤ pu_nf np cr pe R s ∧ pu_nf np cr pe R s < np ∧ R (12 + 8 * pu_nf np cr pe R s) = 1) := by
  rcases pu_nfs_rg (cr := cr) (pe := pe) (R := R) (s := s) np.toNat with h | ⟨h1, h2, h3, h4⟩
  · exact Or.inl h
  · unfold pu_nf
    exact Or.inr ⟨h1, by omega, h3⟩
theorem sp_sc_serve {M : nb_M} {A Ho np ns s t : Int} {r cr pe R : Int → Int} {v3 v4 v5 : nb_V} (W : nb_Lay M) (hA : nb_sc A) (hHo : nb_hs Ho) (hAh : M.1 A 3 = Ho) (hr : pu_Rr r) (hh : pu_Ho M Ho r) (hc : pu_Rc cr) (hnp : np = r 5) (hns : ns ≤ 4) (hs : 0 ≤ s ∧ s < ns) (ht : 0 ≤ t ∧ t ≤ 9999) (hS : pu_S M A np ns cr pe R) (hX : pu_X M A np pe R) (hI : pu_In pe R np ns t) (hpc : ∀ p, 0 ≤ p → p < np → pe (7 * p + 2) = r (41 + 7 * p + 2)) : nb_W 261 0 [(15, A), (0, s), (0, t), v3, v4, v5] [] M (fun r' M' => r' = [] ∧ nb_Lay M' ∧ M'.2 = M.2 ∧ (∀ a i, a < A ∨ A + 22 ≤ a ∨ (a = A ∧ i ≠ 6) → M'.1 a i = M.1 a i) ∧ pu_S M' A np ns cr pe (pu_sv r cr pe np t s np.toNat R) ∧ pu_X M' A np pe (pu_sv r cr pe np t s np.toNat R) ∧ pu_In pe (pu_sv r cr pe np t s np.toNat R) np ns t) := by
  have hn := hr.2.2.2.2.2.2.1
  refine w_sc_serve_0 W hA hHo hAh (by omega) ?_
  suffices h : ∀ (n k : Nat) (N : nb_M) (T : Int → Int), k + n = np.toNat → ∀ v4 v5, nb_Lay N → N.2 = M.2 → (∀ a i, a < A ∨ A + 22 ≤ a ∨ (a = A ∧ i ≠ 6) → N.1 a i = M.1 a i) → pu_S N A np ns cr pe T → pu_X N A np pe T → pu_In pe T np ns t → pu_sv r cr pe np t s n T = pu_sv r cr pe np t s np.toNat R → nb_W 261 1 [(15, A), (0, s), (0, t), (0, (k : Int)), v4, v5] [] N (fun r' M' => r' = [] ∧ nb_Lay M' ∧ M'.2 = M.2 ∧ (∀ a i, a < A ∨ A + 22 ≤ a ∨ (a = A ∧ i ≠ 6) → M'.1 a i = M.1 a i) ∧ pu_S M' A np ns cr pe (pu_sv r cr pe np t s np.toNat R) ∧ pu_X M' A np pe (pu_sv r cr pe np t s np.toNat R) ∧ pu_In pe (pu_sv r cr pe np t s np.toNat R) np ns t) from
    h _ 0 M R (Nat.zero_add _) v4 v5 W rfl (fun _ _ _ => rfl) hS hX hI rfl
  intro n
  induction n with
  | zero =>
    intro k N T hk v4 v5 WN e2 e3 gS gX gI e
    refine w_sc_serve_1 WN hA hHo ((e3 _ _ (by omega)).trans hAh) (cr := cr) (pe := pe) (R := T) (np := np) (ns := ns) (by omega) (by omega) ?_
    rw [gS.1]
    refine ⟨by omega, by omega, fun h => absurd h (by omega), fun _ => ?_⟩
    rw [← e]
    exact ⟨rfl, WN, e2, e3, gS, gX, gI⟩
  | succ n ih =>
    intro k N T hk v4 v5 WN e2 e3 gS gX gI e
    have hst : pu_fh cr T t s = 0 ∨ pu_nf np cr pe T s = -2 → T = pu_sv r cr pe np t s np.toNat R := fun z => by
      rw [pu_sv, if_pos z] at e
      exact e
    refine w_sc_serve_1 WN hA hHo ((e3 _ _ (by omega)).trans hAh) (cr := cr) (pe := pe) (R := T) (np := np) (ns := ns) (by omega) (by omega) ?_
    rw [gS.1]
    refine ⟨by omega, by omega, fun _ => ⟨gS.2.2.2.2.2 s hs.1 hs.2, fun h => ?_, fun h => ⟨gI.1, by omega, by omega, hns, hs.2, gS, fun h2 => ?_, fun h2 => ?_⟩⟩, fun h => absurd h (by omega)⟩
    · rw [← hst (Or.inl (by omega))]
      exact ⟨rfl, WN, e2, e3, gS, gX, gI⟩
    · have h3 := pu_nf_rg2 (cr := cr) (pe := pe) (R := T) (s := s) (np := np) (by omega)
      rw [← hst (Or.inr (by omega))]
      exact ⟨rfl, WN, e2, e3, gS, gX, gI⟩
    · have h3 := pu_nf_rg2 (cr := cr) (pe := pe) (R := T) (s := s) (np := np) (by omega)
      have h4 := pu_fh_rg (cr := cr) (R := T) (t := t) (s := s)
      rw [pu_sv, if_neg (by omega)] at e
      obtain ⟨b1, b2⟩ := pu_In_bg (h := pu_fh cr T t s) (u := pu_nf np cr pe T s) hr hc (by omega) hns ht gI hs (by omega) (by omega) (by omega)
      have hHN : pu_Ho N Ho r := pu_Ho_congr hh hr (fun a i p q => e3 a i (by unfold nb_sc at hA; unfold nb_hs at hHo; omega))
      have e4 : pu_fh cr T t s - 1 + 1 = pu_fh cr T t s := by omega
      refine nb_W.imp (sp_sc_begin (np := np) (ns := ns) (hd := pu_fh cr T t s - 1) (R := T) (cr := cr) (pe := pe) WN hA hHo ((e3 _ _ (by omega)).trans hAh) hr hHN hc gI.1 hnp hns hs (by omega) ht.2 gS gX (by rw [e4]; exact b1) (gI.2.2.2 s hs.1 hs.2) hpc) ?_
      rintro r' M' ⟨rfl, q1, q2, q3, q4, q5⟩
      rw [e4] at q4 q5
      refine ⟨rfl, q1, ?_, ?_⟩
      · rw [q3 A 3 (by omega)]
        exact (e3 _ _ (by omega)).trans hAh
      · exact ih (k + 1) M' _ (by omega) _ _ q1 (q2.trans e2) (fun a i z => (q3 a i z).trans (e3 a i z)) q4 q5 b2 e
/-! what the class does by turns is what the reference does by hands -/
def pu_nw (R : Int → Int) : Nat → Int
  | 0 => 0
  | n + 1 => pu_nw R n + (if R (12 + 8 * n) = 1 then 1 else 0)
theorem pu_nw_le {R : Int → Int} : ∀ n : Nat, 0 ≤ pu_nw R n ∧ pu_nw R n ≤ n
  | 0 => by
    unfold pu_nw
    omega
  | n + 1 => by
    have h := pu_nw_le (R := R) n
    unfold pu_nw
    split <;> omega
theorem pu_nw_pos {R : Int → Int} {p : Nat} (hp : R (12 + 8 * p) = 1) : ∀ n : Nat, p < n → 1 ≤ pu_nw R n
  | 0, h => absurd h (Nat.not_lt_zero _)
  | n + 1, h => by
    have h2 := pu_nw_le (R := R) n
    unfold pu_nw
    by_cases e : p = n
    · subst e
      rw [if_pos hp]
      omega
    · have := pu_nw_pos hp n (by omega)
      split <;> omega
theorem pu_nw_bg {R R' : Int → Int} {p : Nat} (hp : R (12 + 8 * p) = 1) (h1 : R' (12 + 8 * p) ≠ 1) : ∀ n : Nat, (∀ q : Nat, q < n → q ≠ p → R' (12 + 8 * q) = R (12 + 8 * q)) → pu_nw R' n = pu_nw R n - (if p < n then 1 else 0)
  | 0, _ => by
    unfold pu_nw
    rfl
  | n + 1, h2 => by
    have ih := pu_nw_bg hp h1 n (fun q a b => h2 q (by omega) b)
    unfold pu_nw
    rw [ih]
    by_cases e : p = n
    · subst e
      rw [if_pos hp, if_neg h1, if_neg (Nat.lt_irrefl p), if_pos (Nat.lt_succ_self p)]
      omega
    · rw [h2 n (by omega) (fun h => e h.symm)]
      by_cases e2 : p < n
      · rw [if_pos e2, if_pos (show p < n + 1 by omega)]
        omega
      · rw [if_neg e2, if_neg (show ¬ p < n + 1 by omega)]
        omega
theorem pu_nw_bg2 {r cr pe R : Int → Int} {np t s h u : Int} (c : pu_bgc r cr pe R np t s h u) : pu_nw (pu_bg r cr t s h u R) np.toNat = pu_nw R np.toNat - 1 := by
  obtain ⟨hs, hh, hu, hnp, h1, hw, ht, hm, hd⟩ := c
  obtain ⟨m1, m2⟩ := pu_bg_man (r := r) (cr := cr) (R := R) (t := t) hs hh (u := u) (by omega) h1
  obtain ⟨k, rfl⟩ : ∃ k : Nat, u = k := ⟨u.toNat, by omega⟩
  have := pu_nw_bg (R := R) (R' := pu_bg r cr t s h k R) hw (by rw [m1.1]; decide) np.toNat (fun q a b => by
    have := m2 q 0 (by omega) (by omega) (by omega) (by omega) (by omega)
    rwa [Int.add_zero] at this)
  rw [if_pos (by omega)] at this
  exact this
theorem pu_nf_none {np : Int} {cr pe R : Int → Int} {s : Int} (hnp : 0 ≤ np) (h : pu_nw R np.toNat ≤ 0) : pu_nf np cr pe R s = -2 := by
  rcases pu_nf_rg2 (cr := cr) (pe := pe) (R := R) (s := s) hnp with h2 | ⟨h2, h3, h4⟩
  · exact h2
  · obtain ⟨k, hk⟩ : ∃ k : Nat, pu_nf np cr pe R s = k := ⟨_, (Int.toNat_of_nonneg h2).symm⟩
    rw [hk] at h4
    have := pu_nw_pos h4 np.toNat (by omega)
    omega
