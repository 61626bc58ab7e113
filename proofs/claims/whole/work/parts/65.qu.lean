/-! WHEN NOTHING STIRS -/
theorem pu_nfs_none {cr pe R : Int → Int} {s : Int} : ∀ n : Nat, pu_nfs cr pe R s n = -2 ↔ ∀ q : Nat, q < n → ¬ (R (12 + 8 * q) = 1 ∧ cr (6 * s + 2) ≤ R (12 + 8 * q + 1) ∧ R (12 + 8 * q + 1) ≤ cr (6 * s + 3))
  | 0 => ⟨fun _ q h => absurd h (Nat.not_lt_zero q), fun _ => rfl⟩
  | n + 1 => by
    have ih := pu_nfs_none (cr := cr) (pe := pe) (R := R) (s := s) n
    unfold pu_nfs
    by_cases h : R (12 + 8 * n) = 1 ∧ cr (6 * s + 2) ≤ R (12 + 8 * n + 1) ∧ R (12 + 8 * n + 1) ≤ cr (6 * s + 3)
    · rw [if_pos h]
      constructor
      · intro q
        exfalso
        by_cases h2 : pu_nfs cr pe R s n = -2
        · rw [if_pos h2] at q
          omega
        · rw [if_neg h2] at q
          split at q <;> omega
      · intro q
        exact absurd h (q n (by omega))
    · rw [if_neg h, ih]
      refine ⟨fun q j hj => ?_, fun q j hj => q j (by omega)⟩
      by_cases e : j = n
      · rw [e]
        exact h
      · exact q j (by omega)
/-- nobody waits on one's stretch -/
def pu_no (cr R : Int → Int) (np s : Int) : Prop := ∀ q, 0 ≤ q → q < np → ¬ (R (12 + 8 * q) = 1 ∧ cr (6 * s + 2) ≤ R (12 + 8 * q + 1) ∧ R (12 + 8 * q + 1) ≤ cr (6 * s + 3))
theorem pu_nf_no {cr pe R : Int → Int} {np s : Int} (hnp : 0 ≤ np) : pu_nf np cr pe R s = -2 ↔ pu_no cr R np s := by
  unfold pu_nf pu_no
  rw [pu_nfs_none]
  refine ⟨fun h q a b => ?_, fun h q a => h q (by omega) (by omega)⟩
  have := h q.toNat (by omega)
  rwa [show ((q.toNat : Nat) : Int) = q by omega] at this
/-- one of the staff begins with nobody -/
def pu_stop (cr R : Int → Int) (np t s : Int) : Prop := pu_fh cr R t s = 0 ∨ pu_no cr R np s
theorem pu_stop_bg {r cr pe R : Int → Int} {np ns t s q h u : Int} (c : pu_bgc r cr pe R np t s h u) (hq : 0 ≤ q ∧ q ≤ 3) (hne : q ≠ s) (hs : pu_stop cr R np t q) : pu_stop cr (pu_bg r cr t s h u R) np t q := by
  obtain ⟨hs', hh, hu, hnp, h1, hw, ht, hm, hd⟩ := c
  obtain ⟨c1, c2⟩ := pu_bg_crew (r := r) (cr := cr) (R := R) (t := t) hs' hh (u := u) (by omega) h1
  obtain ⟨m1, m2⟩ := pu_bg_man (r := r) (cr := cr) (R := R) (t := t) hs' hh (u := u) (by omega) h1
  rcases hs with g | g
  · refine Or.inl ?_
    unfold pu_fh at *
    rw [c2 q 1 hq.1 hq.2 hne (by omega) (by omega), c2 q 2 hq.1 hq.2 hne (by omega) (by omega)]
    exact g
  · refine Or.inr fun p a b z => ?_
    by_cases e : p = u
    · rw [e, m1.1] at z
      omega
    · have e0 := m2 p 0 a (by omega) e (by omega) (by omega)
      rw [Int.add_zero] at e0
      rw [e0, m2 p 1 a (by omega) e (by omega) (by omega)] at z
      exact g p a b z
theorem pu_sv_in {r cr pe : Int → Int} {np ns t s : Int} (hr : pu_Rr r) (hc : pu_Rc cr) (hnp : 0 ≤ np ∧ np ≤ 10) (hns : ns ≤ 4) (ht : 0 ≤ t ∧ t ≤ 9999) (hs : 0 ≤ s ∧ s < ns) (P : (Int → Int) → Prop) (hP : ∀ R h u, pu_bgc r cr pe R np t s h u → P R → P (pu_bg r cr t s h u R)) : ∀ (n : Nat) (R : Int → Int), pu_In pe R np ns t → P R → pu_In pe (pu_sv r cr pe np t s n R) np ns t ∧ P (pu_sv r cr pe np t s n R) ∧ (pu_nw R np.toNat ≤ n → pu_stop cr (pu_sv r cr pe np t s n R) np t s)
  | 0, R, hI, h => ⟨hI, h, fun z => Or.inr ((pu_nf_no hnp.1).mp (pu_nf_none (cr := cr) (pe := pe) (s := s) hnp.1 z))⟩
  | n + 1, R, hI, h => by
    by_cases hx : pu_fh cr R t s = 0 ∨ pu_nf np cr pe R s = -2
    · rw [pu_sv, if_pos hx]
      exact ⟨hI, h, fun _ => hx.elim Or.inl (fun z => Or.inr ((pu_nf_no hnp.1).mp z))⟩
    · have hn : pu_nf np cr pe R s ≠ -2 := fun q => hx (Or.inr q)
      have hf : pu_fh cr R t s ≠ 0 := fun q => hx (Or.inl q)
      have hfr := pu_fh_rg (cr := cr) (R := R) (t := t) (s := s)
      rcases pu_nf_rg2 (cr := cr) (pe := pe) (R := R) (s := s) hnp.1 with h3 | ⟨h3, h4, h5⟩
      · exact absurd h3 hn
      obtain ⟨b1, b2⟩ := pu_In_bg (r := r) (h := pu_fh cr R t s) hr hc hnp hns ht hI hs (by omega) ⟨h3, h4⟩ h5
      have b3 := pu_nw_bg2 b1
      rw [pu_sv, if_neg hx]
      obtain ⟨i1, i2, i3⟩ := pu_sv_in hr hc hnp hns ht hs P hP n _ b2 (hP R _ _ b1 h)
      exact ⟨i1, i2, fun z => i3 (by omega)⟩
/-- who waits isn't due to have it by a shelf, nor to give up -/
def pu_wt (pe R : Int → Int) (np t : Int) : Prop := ∀ p, 0 ≤ p → p < np → R (12 + 8 * p) = 1 → ¬ (0 ≤ pe (7 * p + 6) - 1 ∧ pe (7 * p + 6) - 1 ≤ t) ∧ t - pe (7 * p + 2) < pe (7 * p + 4)
theorem pu_wt_bg {r cr pe R : Int → Int} {np t s h u : Int} (c : pu_bgc r cr pe R np t s h u) (hw : pu_wt pe R np t) : pu_wt pe (pu_bg r cr t s h u R) np t := by
  obtain ⟨hs', hh, hu, hnp, h1, hw', ht, hm, hd⟩ := c
  obtain ⟨m1, m2⟩ := pu_bg_man (r := r) (cr := cr) (R := R) (t := t) hs' hh (u := u) (by omega) h1
  intro p a b z
  by_cases e : p = u
  · rw [e, m1.1] at z
    omega
  · have e0 := m2 p 0 a (by omega) e (by omega) (by omega)
    rw [Int.add_zero] at e0
    rw [e0] at z
    exact hw p a b z
theorem pu_ss_sv {r cr pe : Int → Int} {np ns t : Int} (hr : pu_Rr r) (hc : pu_Rc cr) (hnp : 0 ≤ np ∧ np ≤ 10) (hns : ns ≤ 4) (ht : 0 ≤ t ∧ t ≤ 9999) {R : Int → Int} (hI : pu_In pe R np ns t) (hw : pu_wt pe R np t) : ∀ n : Nat, (n : Int) ≤ ns → pu_In pe (pu_ss r cr pe np t n R) np ns t ∧ pu_wt pe (pu_ss r cr pe np t n R) np t ∧ (∀ q : Int, 0 ≤ q → q < n → pu_stop cr (pu_ss r cr pe np t n R) np t q) ∧ ((n : Int) < ns → pu_ss r cr pe np t (n + 1) R = pu_sv r cr pe np t n np.toNat (pu_ss r cr pe np t n R))
  | 0, _ => ⟨hI, hw, fun q a b => absurd b (by omega), fun z => (pu_sv_sh (s := ((0 : Nat) : Int)) hr hc hnp hns ht ⟨Int.le_refl 0, z⟩ _ _ hI (pu_nw_le _).2).symm⟩
  | n + 1, h => by
    obtain ⟨i1, i2, i3, i4⟩ := pu_ss_sv hr hc hnp hns ht hI hw n (by omega)
    have hs : 0 ≤ (n : Int) ∧ (n : Int) < ns := by omega
    obtain ⟨j1, j2, j3⟩ := pu_sv_in (pe := pe) hr hc hnp hns ht hs (fun T => pu_wt pe T np t ∧ ∀ q, 0 ≤ q → q < (n : Int) → pu_stop cr T np t q) (fun T h u c z => ⟨pu_wt_bg c z.1, fun q a b => pu_stop_bg (ns := ns) c (by omega) (by omega) (z.2 q a b)⟩) np.toNat _ i1 ⟨i2, i3⟩
    rw [i4 (by omega)]
    refine ⟨j1, j2.1, fun q a b => ?_, fun z => ?_⟩
    · by_cases e : q = n
      · rw [e]
        exact j3 (pu_nw_le _).2
      · exact j2.2 q a (by omega)
    · rw [← i4 (by omega)]
      exact (pu_sv_sh hr hc hnp hns ht (by omega) _ _ (by rw [i4 (by omega)]; exact j1) (pu_nw_le _).2).symm
/-- a second in which nothing stirs -/
def pu_qu (cr pe R : Int → Int) (np ns u : Int) : Prop := (∀ p, 0 ≤ p → p < np → (R (12 + 8 * p) = 0 → pe (7 * p + 2) ≠ u) ∧ (R (12 + 8 * p) = 1 → ¬ (0 ≤ pe (7 * p + 6) - 1 ∧ pe (7 * p + 6) - 1 ≤ u) ∧ u - pe (7 * p + 2) < pe (7 * p + 4))) ∧ ∀ s, 0 ≤ s → s < ns → pu_stop cr R np u s
theorem pu_qu_sec {r cr pe R : Int → Int} {ns u : Int} (hr : pu_Rr r) (hc : pu_Rc cr) (hns : 0 ≤ ns ∧ ns ≤ 4) (h : pu_qu cr pe R (r 5) ns u) : pu_sec r cr pe ns (nb_ud R 0 u) = nb_ud R 0 (u + 1) := by
  have hnp := hr.2.2.2.2.2.2.1
  have e : ∀ j, j ≠ 0 → nb_ud R 0 u j = R j := fun j hj => nb_ud_other hj
  have c : ∀ n : Nat, (n : Int) ≤ r 5 → pu_cms pe u (nb_ud R 0 u) n = nb_ud R 0 u := by
    intro n
    induction n with
    | zero => intro _; rfl
    | succ n ih =>
      intro hn
      have hq := h.1 n (by omega) (by omega)
      unfold pu_cms
      rw [ih (by omega)]
      unfold pu_cm
      rw [e _ (by omega)]
      by_cases h1 : R (12 + 8 * n) = 1
      · have := hq.2 h1
        rw [if_pos (Or.inl h1), if_neg this.1, if_pos this.2, nb_ud_id]
        rw [e _ (by omega)]
        exact h1
      · rw [if_neg]
        rintro (z | ⟨z, z2⟩)
        · exact h1 z
        · exact hq.1 z z2
  have g : ∀ n : Nat, (n : Int) ≤ ns → pu_ss r cr pe (r 5) u n (nb_ud R 0 u) = nb_ud R 0 u := by
    intro n
    induction n with
    | zero => intro _; rfl
    | succ n ih =>
      intro hn
      unfold pu_ss
      rw [ih (by omega)]
      refine pu_sh_stop (hc n (by omega) (by omega)).2.2 ?_
      rcases h.2 n (by omega) (by omega) with z | z
      · refine Or.inl ?_
        unfold pu_fh at *
        rw [e _ (by omega), e _ (by omega)]
        exact z
      · refine Or.inr ((pu_nf_no hnp.1).mpr fun q a b => ?_)
        rw [e _ (by omega), e _ (by omega)]
        exact z q a b
  unfold pu_sec
  rw [nb_ud_same, c (r 5).toNat (by omega), g ns.toNat (by omega), nb_ud_ud]
theorem pu_qu_secs {r cr pe R : Int → Int} {ns u : Int} (hr : pu_Rr r) (hc : pu_Rc cr) (hns : 0 ≤ ns ∧ ns ≤ 4) : ∀ n : Nat, (∀ v, u ≤ v → v < u + n → pu_qu cr pe R (r 5) ns v) → pu_secs r cr pe ns n (nb_ud R 0 u) = nb_ud R 0 (u + n)
  | 0, _ => by
    show nb_ud R 0 u = _
    rw [show u + ((0 : Nat) : Int) = u by omega]
  | n + 1, h => by
    unfold pu_secs
    rw [pu_qu_secs hr hc hns n (fun v a b => h v a (by omega)), pu_qu_sec hr hc hns (h _ (by omega) (by omega))]
    congr 1
    omega
theorem pu_secs_add {r cr pe R : Int → Int} {ns : Int} (n : Nat) : ∀ m : Nat, pu_secs r cr pe ns (m + n) R = pu_secs r cr pe ns m (pu_secs r cr pe ns n R)
  | 0 => by rw [Nat.zero_add]; rfl
  | m + 1 => by
    rw [show m + 1 + n = (m + n) + 1 by omega]
    show pu_sec r cr pe ns (pu_secs r cr pe ns (m + n) R) = _
    rw [pu_secs_add n m]
    rfl
/-- from a second's stirs to what doesn't stir -/
theorem pu_qu_of {cr pe R : Int → Int} {np ns t x u : Int} (hc : pu_Rc cr) (hns : ns ≤ 4) (hm : pu_Hm pe R np t) (hw : pu_wt pe R np t) (hs : ∀ s, 0 ≤ s → s < ns → pu_stop cr R np t s) (h1 : ∀ p, 0 ≤ p → p < np → pu_st1 cr pe R t x p) (h2 : ∀ s h, 0 ≤ s → s < ns → 0 ≤ h → h < 2 → pu_st2 R t x s h) (hu : t < u ∧ u < x) : pu_qu cr pe R np ns u := by
  refine ⟨fun p a b => ⟨fun z => ?_, fun z => ?_⟩, fun s a b => ?_⟩
  · have := (h1 p a b).1 z ((hm.1 p a b).1 z).1
    omega
  · have g := (h1 p a b).2 z
    have w := hw p a b z
    have g1 := g.1 (by omega)
    refine ⟨fun q => ?_, by omega⟩
    have hsh : pu_she (pe (7 * p + 6)) = pe (7 * p + 6) - 1 := by
      unfold pu_she
      rw [if_neg (by omega)]
    rw [hsh] at g
    have := g.2 (by omega)
    omega
  · rcases hs s a b with z | z
    · refine Or.inl ?_
      have f1 := h2 s 0 a b (by decide) (by decide)
      have f2 := h2 s 1 a b (by decide) (by decide)
      unfold pu_st2 at f1 f2
      rw [Int.add_zero] at f1
      rw [show 92 + 4 * s + 1 + 1 = 92 + 4 * s + 2 by omega] at f2
      unfold pu_fh at *
      split at z
      · omega
      · rename_i n1
        split at z
        · omega
        · rename_i n2
          rw [if_neg, if_neg]
          · rintro ⟨q1, q2⟩
            exact n2 ⟨q1, by omega⟩
          · rintro ⟨q1, q2⟩
            exact n1 ⟨q1, by omega⟩
    · exact Or.inr z
