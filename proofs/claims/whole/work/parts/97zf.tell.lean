/-! TELLINGS -/
def pu_w0 (r : Int → Int) (set : Int) (n : Nat) : Int → Int → Prop := fun p q => ∃ i : Nat, i < n ∧ ¬ pu_bit set (r (161 + 3 * i)) ∧ r (161 + 3 * i + 1) = p ∧ r (161 + 3 * i + 2) = q
def pu_w1 (W : Int → Int → Prop) (b : Int) : Int → Int → Prop := fun p q => W p q ∨ (W p b ∧ W b q)
def pu_wf (W : Int → Int → Prop) : Nat → Int → Int → Prop
  | 0 => W
  | n + 1 => pu_w1 (pu_wf W n) n
/-- who came ahead of whom by all tellings but some tellers' -/
def pu_wz (r : Int → Int) (set : Int) : Int → Int → Prop := pu_wf (pu_w0 r set (r 7).toNat) 10
def pu_wok (r : Int → Int) (set : Int) : Prop := ∀ p, 0 ≤ p → p < 10 → ¬ pu_wz r set p p
theorem pu_w1_col {W : Int → Int → Prop} {b p : Int} : pu_w1 W b p b ↔ W p b := ⟨fun h => h.elim id (fun z => z.1), Or.inl⟩
theorem pu_w1_row {W : Int → Int → Prop} {b q : Int} : pu_w1 W b b q ↔ W b q := ⟨fun h => h.elim id (fun z => z.2), Or.inl⟩
theorem pu_bit_or2 {x y q : Int} (hq : 0 ≤ q ∧ q < 31) : pu_bit (nb_or x y) q ↔ pu_bit x q ∨ pu_bit y q := by
  obtain ⟨k, rfl⟩ : ∃ k : Nat, q = k := ⟨q.toNat, by omega⟩
  rw [pu_bit_iff (by omega), pu_bit_iff (by omega), pu_bit_iff (by omega)]
  unfold nb_or
  rw [nb_o32, b_or]
  simp
theorem pu_bit_and2 {x y q : Int} (hq : 0 ≤ q ∧ q < 31) : pu_bit (nb_and x y) q ↔ pu_bit x q ∧ pu_bit y q := by
  obtain ⟨k, rfl⟩ : ∃ k : Nat, q = k := ⟨q.toNat, by omega⟩
  rw [pu_bit_iff (by omega), pu_bit_iff (by omega), pu_bit_iff (by omega)]
  unfold nb_and
  rw [nb_o32, b_and]
  simp
theorem pu_bit_shl {q p : Int} (hq : 0 ≤ q ∧ q < 31) (hp : 0 ≤ p ∧ p < 31) : pu_bit (nb_shl 1 q) p ↔ p = q := by
  obtain ⟨k, rfl⟩ : ∃ k : Nat, p = k := ⟨p.toNat, by omega⟩
  obtain ⟨j, rfl⟩ : ∃ k : Nat, q = k := ⟨q.toNat, by omega⟩
  rw [pu_bit_iff (by omega), pu_shl1 (by omega) (by omega)]
  simp only [decide_eq_true_eq]
  exact ⟨fun h => by omega, fun h => by omega⟩
theorem pu_CQ.cell143 {M N : nb_M} {tr i v : Int} (h : pu_CQ M N tr) : pu_CQ M (nb_wr N 143 i v) tr := by
  obtain ⟨h1, h2, h3, h4⟩ := h
  refine ⟨h1.wr (fun w => nb_nnum (by decide) (by decide)), h2, ?_, fun b j p q => ?_⟩
  · rw [nb_wr_1, if_neg (by omega)]; exact h3
  · rw [nb_wr_1, if_neg (by omega)]; exact h4 b j p q
theorem pu_CQ.row143 {M N : nb_M} {tr : Int} {f : Int → Int} (h : pu_CQ M N tr) : pu_CQ M (nb_up N 143 f) tr := by
  obtain ⟨h1, h2, h3, h4⟩ := h
  refine ⟨h1.up (fun i w => nb_nnum (by decide) (by decide)), h2, ?_, fun b j p q => ?_⟩
  · rw [nb_up_other (by omega)]; exact h3
  · rw [nb_up_other (by omega)]; exact h4 b j p q
/-- the class's rows say W -/
def pu_bw (f : Int → Int) (W : Int → Int → Prop) : Prop := ∀ p q, 0 ≤ p → p < 10 → 0 ≤ q → q < 10 → (pu_bit (f p) q ↔ W p q)
theorem sp_tl_agree {M N : nb_M} {k tr set Ho : Int} {v3 v4 : nb_V} (h : pu_I M k) (hx2 : M.1 2 2 = Ho) (hq : pu_CQ M N tr) : nb_W 282 0 [(17, 142), (12, Ho), (0, set), v3, v4] [] N (fun r' N' => ∃ x : Int, r' = [(0, x)] ∧ (x = 0 ∨ x = 1) ∧ (x = 1 ↔ pu_wok (M.1 606) set) ∧ pu_CQ M N' tr ∧ pu_bw (N'.1 143) (pu_wz (M.1 606) set)) := by
  obtain ⟨Ho', hHo, hx2', hx3, hh, hSn, hT, h14, h7, hL⟩ := pu_I_at h
  have eH : Ho' = Ho := hx2'.symm.trans hx2
  subst eH
  have hr := hT.1
  have n7 := hr.2.2.2.2.2.2.2.2
  have n5 := hr.2.2.2.2.2.2.1
  refine w_tl_agreeWithout_0 hq.1 hHo ?_
  refine nb_Wp (sp_ja_fill (n := 10) (by decide) (by decide) (hq.1.lk (n := 10) (by decide) (by decide +kernel)) (by decide)) ?_
  refine ⟨rfl, hq.row143.1, ?_⟩
  -- the last loop
  have l15 : ∀ (n j : Nat), (j : Int) + n = 10 → ∀ N v1 v2 v4, pu_CQ M N tr → pu_bw (N.1 143) (pu_wz (M.1 606) set) → (∀ p : Nat, p < j → ¬ pu_wz (M.1 606) set p p) → nb_W 282 15 [(17, 142), v1, v2, (0, (j : Int)), v4] [] N (fun r' N' => ∃ x : Int, r' = [(0, x)] ∧ (x = 0 ∨ x = 1) ∧ (x = 1 ↔ pu_wok (M.1 606) set) ∧ pu_CQ M N' tr ∧ pu_bw (N'.1 143) (pu_wz (M.1 606) set)) := by
    intro n
    induction n with
    | zero =>
      intro j hj N v1 v2 v4 q hb hd
      refine w_tl_agreeWithout_15 q.1 (by omega) ⟨fun z => absurd z (by omega), fun _ _ => ⟨1, rfl, Or.inr rfl, ⟨fun _ p p0 p1 => ?_, fun _ => rfl⟩, q, hb⟩⟩
      obtain ⟨i, rfl⟩ : ∃ i : Nat, p = i := ⟨p.toNat, by omega⟩
      exact hd i (by omega)
    | succ n ih =>
      intro j hj N v1 v2 v4 q hb hd
      have hbj := hb j j (by omega) (by omega) (by omega) (by omega)
      refine w_tl_agreeWithout_15 q.1 (by omega) ⟨fun _ => ⟨fun c _ => ⟨0, rfl, Or.inl rfl, ⟨fun z => absurd z (by decide), fun z => absurd (hbj.1 c) (z j (by omega) (by omega))⟩, q, hb⟩, fun c => ?_⟩, fun z => absurd z (by omega)⟩
      refine ih (j + 1) (by omega) N _ _ _ q hb (fun p hp => ?_)
      by_cases e : p = j
      · subst e
        exact fun z => c (hbj.2 z)
      · exact hd p (by omega)
  -- Warshall's
  have l7 : ∀ (n j : Nat), (j : Int) + n = 10 → ∀ N v1 v2 v4, pu_CQ M N tr → pu_bw (N.1 143) (pu_wf (pu_w0 (M.1 606) set (M.1 606 7).toNat) j) → nb_W 282 7 [(17, 142), v1, v2, (0, (j : Int)), v4] [] N (fun r' N' => ∃ x : Int, r' = [(0, x)] ∧ (x = 0 ∨ x = 1) ∧ (x = 1 ↔ pu_wok (M.1 606) set) ∧ pu_CQ M N' tr ∧ pu_bw (N'.1 143) (pu_wz (M.1 606) set)) := by
    intro n
    induction n with
    | zero =>
      intro j hj N v1 v2 v4 q hb
      have ej : j = 10 := by omega
      subst ej
      refine w_tl_agreeWithout_7 q.1 (by omega) ⟨fun z => absurd z (by omega), fun _ => ?_⟩
      exact l15 10 0 rfl N _ _ _ q hb (fun p hp => absurd hp (by omega))
    | succ n ih =>
      intro j hj N v1 v2 v4 q hb
      refine w_tl_agreeWithout_7 q.1 (by omega) ⟨fun _ => ?_, fun z => absurd z (by omega)⟩
      generalize hW : pu_wf (pu_w0 (M.1 606) set (M.1 606 7).toNat) j = W at *
      have hW1 : pu_wf (pu_w0 (M.1 606) set (M.1 606 7).toNat) (j + 1) = pu_w1 W j := by
        show pu_w1 (pu_wf (pu_w0 (M.1 606) set (M.1 606 7).toNat) j) j = _
        rw [hW]
      suffices hl : ∀ (n i : Nat), (i : Int) + n = 10 → ∀ N v1 v2, pu_CQ M N tr → (∀ p q, 0 ≤ p → p < 10 → 0 ≤ q → q < 10 → (pu_bit (N.1 143 p) q ↔ if p < (i : Int) then pu_w1 W j p q else W p q)) → nb_W 282 9 [(17, 142), v1, v2, (0, (j : Int)), (0, (i : Int))] [] N (fun r' N' => ∃ x : Int, r' = [(0, x)] ∧ (x = 0 ∨ x = 1) ∧ (x = 1 ↔ pu_wok (M.1 606) set) ∧ pu_CQ M N' tr ∧ pu_bw (N'.1 143) (pu_wz (M.1 606) set)) from hl 10 0 rfl N _ _ q (fun p q a b c d => by rw [if_neg (by omega)]; exact hb p q a b c d)
      intro n
      induction n with
      | zero =>
        intro i hi N v1 v2 q hb
        refine w_tl_agreeWithout_9 q.1 (by omega) (by omega) ⟨fun z => absurd z (by omega), fun _ => ?_⟩
        refine ih (j + 1) (by omega) N _ _ _ q (fun p q a b c d => ?_)
        rw [hW1]
        have g := hb p q a b c d
        rw [if_pos (by omega)] at g
        exact g
      | succ n ih2 =>
        intro i hi N v1 v2 q hb
        have hib := hb i j (by omega) (by omega) (by omega) (by omega)
        rw [if_neg (by omega)] at hib
        have hrow : ∀ q, 0 ≤ q → q < 10 → (pu_bit (N.1 143 j) q ↔ W j q) := fun q a b => by
          have g := hb j q (by omega) (by omega) a b
          by_cases e : (j : Int) < i
          · rw [if_pos e] at g
            exact g.trans pu_w1_row
          · rw [if_neg e] at g
            exact g
        refine w_tl_agreeWithout_9 q.1 (by omega) (by omega) ⟨fun _ => ⟨fun c => ?_, fun c => ?_⟩, fun z => absurd z (by omega)⟩
        · refine ih2 (i + 1) (by omega) _ _ _ q.cell143 (fun p x a b c' d => ?_)
          by_cases e : p = i
          · subst e
            rw [nb_wr_1, if_pos ⟨rfl, rfl⟩, if_pos (by omega), pu_bit_or2 (by omega), hrow x c' d]
            have g := hb i x a b c' d
            rw [if_neg (by omega)] at g
            rw [g]
            have hc := hib.1 c
            unfold pu_w1
            exact ⟨fun z => z.elim Or.inl (fun z => Or.inr ⟨hc, z⟩), fun z => z.elim Or.inl (fun z => Or.inr z.2)⟩
          · rw [nb_wr_1, if_neg (by omega)]
            have g := hb p x a b c' d
            by_cases e2 : p < (i : Int)
            · rw [if_pos e2] at g
              rw [if_pos (by omega)]
              exact g
            · rw [if_neg e2] at g
              rw [if_neg (by omega)]
              exact g
        · refine ih2 (i + 1) (by omega) N _ _ q (fun p x a b c' d => ?_)
          have g := hb p x a b c' d
          by_cases e : p = i
          · subst e
            rw [if_neg (by omega)] at g
            rw [if_pos (by omega), g]
            unfold pu_w1
            exact ⟨Or.inl, fun z => z.elim id (fun z => absurd (hib.2 z.1) c)⟩
          · by_cases e2 : p < (i : Int)
            · rw [if_pos e2] at g
              rw [if_pos (by omega)]
              exact g
            · rw [if_neg e2] at g
              rw [if_neg (by omega)]
              exact g
  suffices hl : ∀ (n j : Nat), (j : Int) + n = M.1 606 7 → ∀ N v4, pu_CQ M N tr → pu_bw (N.1 143) (pu_w0 (M.1 606) set j) → nb_W 282 2 [(17, 142), (12, Ho'), (0, set), (0, (j : Int)), v4] [] N (fun r' N' => ∃ x : Int, r' = [(0, x)] ∧ (x = 0 ∨ x = 1) ∧ (x = 1 ↔ pu_wok (M.1 606) set) ∧ pu_CQ M N' tr ∧ pu_bw (N'.1 143) (pu_wz (M.1 606) set)) by
    refine hl (M.1 606 7).toNat 0 (by omega) _ v4 hq.row143 (fun p q a b c d => ?_)
    rw [nb_up_same]
    refine ⟨fun z => ?_, fun ⟨i, hi, _⟩ => absurd hi (by omega)⟩
    rw [if_pos (by omega)] at z
    exact absurd z (pu_bit_0 (by omega))
  intro n
  induction n with
  | zero =>
    intro j hj N v4 q hb
    have o := (q.ho hHo hr hh).1
    refine w_tl_agreeWithout_2 q.1 hHo (by omega) ?_
    rw [o.2.2.2.2.2.2]
    refine ⟨by omega, by omega, fun z => absurd z (by omega), fun _ => ?_⟩
    refine l7 10 0 rfl N _ _ _ q ?_
    rw [show j = (M.1 606 7).toNat by omega] at hb
    exact hb
  | succ n ih =>
    intro j hj N v4 q hb
    have hN := q.ho hHo hr hh
    have o := hN.1
    obtain ⟨t1, t2, t3⟩ := hN.2.2.2.2.2.2 j (by omega) (by omega)
    obtain ⟨s1, s2, s3⟩ := hT.2.2.2.2.1 j (by omega) (by omega)
    refine w_tl_agreeWithout_2 q.1 hHo (by omega) ?_
    rw [o.2.2.2.2.2.2, t1, t2, t3]
    refine ⟨by omega, by omega, fun _ => ⟨fun c => ⟨by omega, by omega, ?_⟩, fun c => ?_⟩, fun z => absurd z (by omega)⟩
    · refine ih (j + 1) (by omega) _ v4 q.cell143 (fun p x a b c' d => ?_)
      have hnb : ¬ pu_bit set (M.1 606 (161 + 3 * (j : Int))) := fun z => by
        unfold pu_bit at z
        omega
      have g := hb p x a b c' d
      by_cases e : p = M.1 606 (161 + 3 * (j : Int) + 1)
      · rw [nb_wr_1, if_pos ⟨rfl, e⟩, pu_bit_or2 (by omega), pu_bit_shl (by omega) (by omega)]
        rw [e] at g
        rw [g]
        constructor
        · rintro (⟨i, i1, i2, i3, i4⟩ | z)
          · exact ⟨i, by omega, i2, i3.trans e.symm, i4⟩
          · exact ⟨j, by omega, hnb, e.symm, z.symm⟩
        · rintro ⟨i, i1, i2, i3, i4⟩
          by_cases ei : i = j
          · subst ei
            exact Or.inr i4.symm
          · exact Or.inl ⟨i, by omega, i2, i3.trans e, i4⟩
      · rw [nb_wr_1, if_neg (fun z => e z.2), g]
        constructor
        · rintro ⟨i, i1, i2, i3, i4⟩
          exact ⟨i, by omega, i2, i3, i4⟩
        · rintro ⟨i, i1, i2, i3, i4⟩
          by_cases ei : i = j
          · subst ei
            exact absurd i3.symm e
          · exact ⟨i, by omega, i2, i3, i4⟩
    · have hyb : pu_bit set (M.1 606 (161 + 3 * (j : Int))) := by
        obtain ⟨m, hm⟩ : ∃ m : Nat, M.1 606 (161 + 3 * (j : Int)) = m := ⟨(M.1 606 (161 + 3 * (j : Int))).toNat, by omega⟩
        rw [hm] at c ⊢
        rcases pu_bit_01 (s := set) (k := m) (by omega) with z | z
        · exact absurd z c
        · exact z
      refine ih (j + 1) (by omega) N v4 q (fun p x a b c' d => ?_)
      rw [hb p x a b c' d]
      constructor
      · rintro ⟨i, i1, i2, i3, i4⟩
        exact ⟨i, by omega, i2, i3, i4⟩
      · rintro ⟨i, i1, i2, i3, i4⟩
        by_cases ei : i = j
        · subst ei
          exact absurd hyb i2
        · exact ⟨i, by omega, i2, i3, i4⟩
/-- the reference's table says W -/
def pu_mw (f : Int → Int) (W : Int → Int → Prop) : Prop := ∀ p q, 0 ≤ p → p < 10 → 0 ≤ q → q < 10 → (f (10 * p + q) ≠ 0 ↔ W p q)
theorem sp_m_layTellings {M N : nb_M} {S C : Int → Int} {set : Int} {v2 v3 v4 : nb_V} (hT : pu_T (M.1 606)) (hq : pu_MM M N S C) : nb_W 195 0 [(20, 603), (0, set), v2, v3, v4] [] N (fun r' N' => ∃ x : Int, r' = [(0, x)] ∧ (x = 0 ∨ x = 1) ∧ (x = 1 ↔ pu_wok (M.1 606) set) ∧ pu_MM M N' S C ∧ pu_mw (N'.1 618) (pu_wz (M.1 606) set)) := by
  have hr := hT.1
  have n7 := hr.2.2.2.2.2.2.2.2
  refine w_m_layTellings_0 hq.1 ?_
  have l26 : ∀ (n j : Nat), (j : Int) + n = 10 → ∀ N v1 v4, ∀ x : Int, (x = 0 ∨ x = 1) → (x = 1 ↔ ∀ p : Nat, p < j → ¬ pu_wz (M.1 606) set p p) → pu_MM M N S C → pu_mw (N.1 618) (pu_wz (M.1 606) set) → nb_W 195 26 [(20, 603), v1, (0, x), (0, (j : Int)), v4] [] N (fun r' N' => ∃ x : Int, r' = [(0, x)] ∧ (x = 0 ∨ x = 1) ∧ (x = 1 ↔ pu_wok (M.1 606) set) ∧ pu_MM M N' S C ∧ pu_mw (N'.1 618) (pu_wz (M.1 606) set)) := by
    intro n
    induction n with
    | zero =>
      intro j hj N v1 v4 x hx hd q hb
      refine w_m_layTellings_26 q.1 (by omega) (by omega) ⟨fun z => absurd z (by omega), fun _ _ => ⟨x, rfl, hx, hd.trans ⟨fun z p p0 p1 => ?_, fun z p hp => z p (by omega) (by omega)⟩, q, hb⟩⟩
      obtain ⟨i, rfl⟩ : ∃ i : Nat, p = i := ⟨p.toNat, by omega⟩
      exact z i (by omega)
    | succ n ih =>
      intro j hj N v1 v4 x hx hd q hb
      have hbj := hb j j (by omega) (by omega) (by omega) (by omega)
      rw [show 10 * (j : Int) + (j : Int) = 11 * (j : Int) by omega] at hbj
      have step : ∀ y : Int, (y = 0 ∨ y = 1) → (y = 1 ↔ (x = 1 ∧ ¬ pu_wz (M.1 606) set j j)) → (y = 1 ↔ ∀ p : Nat, p < j + 1 → ¬ pu_wz (M.1 606) set p p) := fun y _ hy => hy.trans ⟨fun ⟨a, b⟩ p hp => by
        by_cases e : p = j
        · subst e
          exact b
        · exact hd.1 a p (by omega), fun z => ⟨hd.2 (fun p hp => z p (by omega)), z j (by omega)⟩⟩
      refine w_m_layTellings_26 q.1 (by omega) (by omega) ⟨fun _ => ⟨fun c => ?_, fun c => ⟨fun d => ?_, fun d => ?_⟩⟩, fun z => absurd z (by omega)⟩
      · exact ih (j + 1) (by omega) N _ _ 0 (Or.inl rfl) (step 0 (Or.inl rfl) ⟨fun z => absurd z (by decide), fun z => by omega⟩) q hb
      · exact ih (j + 1) (by omega) N _ _ 1 (Or.inr rfl) (step 1 (Or.inr rfl) ⟨fun _ => ⟨by omega, fun z => hbj.2 z d⟩, fun _ => rfl⟩) q hb
      · exact ih (j + 1) (by omega) N _ _ 0 (Or.inl rfl) (step 0 (Or.inl rfl) ⟨fun z => absurd z (by decide), fun z => absurd (hbj.1 d) z.2⟩) q hb
  have l11 : ∀ (n j : Nat), (j : Int) + n = 10 → ∀ N v1 v3 v4, pu_MM M N S C → pu_mw (N.1 618) (pu_wf (pu_w0 (M.1 606) set (M.1 606 7).toNat) j) → nb_W 195 11 [(20, 603), v1, (0, (j : Int)), v3, v4] [] N (fun r' N' => ∃ x : Int, r' = [(0, x)] ∧ (x = 0 ∨ x = 1) ∧ (x = 1 ↔ pu_wok (M.1 606) set) ∧ pu_MM M N' S C ∧ pu_mw (N'.1 618) (pu_wz (M.1 606) set)) := by
    intro n
    induction n with
    | zero =>
      intro j hj N v1 v3 v4 q hb
      have ej : j = 10 := by omega
      subst ej
      refine w_m_layTellings_11 q.1 (by omega) ⟨fun z => absurd z (by omega), fun _ => ?_⟩
      exact l26 10 0 rfl N _ _ 1 (Or.inr rfl) ⟨fun _ p hp => absurd hp (by omega), fun _ => rfl⟩ q hb
    | succ n ih =>
      intro j hj N v1 v3 v4 q hb
      refine w_m_layTellings_11 q.1 (by omega) ⟨fun _ => ?_, fun z => absurd z (by omega)⟩
      generalize hW : pu_wf (pu_w0 (M.1 606) set (M.1 606 7).toNat) j = W at *
      have hW1 : pu_wf (pu_w0 (M.1 606) set (M.1 606 7).toNat) (j + 1) = pu_w1 W j := by
        show pu_w1 (pu_wf (pu_w0 (M.1 606) set (M.1 606 7).toNat) j) j = _
        rw [hW]
      have l13 : ∀ (n i : Nat), (i : Int) + n = 10 → ∀ N v1 v4, pu_MM M N S C → (∀ p q, 0 ≤ p → p < 10 → 0 ≤ q → q < 10 → (N.1 618 (10 * p + q) ≠ 0 ↔ if p < (i : Int) then pu_w1 W j p q else W p q)) → nb_W 195 13 [(20, 603), v1, (0, (j : Int)), (0, (i : Int)), v4] [] N (fun r' N' => ∃ x : Int, r' = [(0, x)] ∧ (x = 0 ∨ x = 1) ∧ (x = 1 ↔ pu_wok (M.1 606) set) ∧ pu_MM M N' S C ∧ pu_mw (N'.1 618) (pu_wz (M.1 606) set)) := by
        intro n
        induction n with
        | zero =>
          intro i hi N v1 v4 q hb
          refine w_m_layTellings_13 q.1 (by omega) (by omega) ⟨fun z => absurd z (by omega), fun _ => ?_⟩
          refine ih (j + 1) (by omega) N _ _ _ q (fun p q a b c d => ?_)
          rw [hW1]
          have g := hb p q a b c d
          rw [if_pos (by omega)] at g
          exact g
        | succ n ih2 =>
          intro i hi N v1 v4 q hb
          refine w_m_layTellings_13 q.1 (by omega) (by omega) ⟨fun _ => ?_, fun z => absurd z (by omega)⟩
          suffices l15 : ∀ (n l : Nat), (l : Int) + n = 10 → ∀ N v1, pu_MM M N S C → (∀ p q, 0 ≤ p → p < 10 → 0 ≤ q → q < 10 → (N.1 618 (10 * p + q) ≠ 0 ↔ if p < (i : Int) ∨ (p = i ∧ q < (l : Int)) then pu_w1 W j p q else W p q)) → nb_W 195 15 [(20, 603), v1, (0, (j : Int)), (0, (i : Int)), (0, (l : Int))] [] N (fun r' N' => ∃ x : Int, r' = [(0, x)] ∧ (x = 0 ∨ x = 1) ∧ (x = 1 ↔ pu_wok (M.1 606) set) ∧ pu_MM M N' S C ∧ pu_mw (N'.1 618) (pu_wz (M.1 606) set)) from l15 10 0 rfl N _ q (fun p q a b c d => by
            have g := hb p q a b c d
            by_cases e : p < (i : Int)
            · rw [if_pos e] at g
              rw [if_pos (Or.inl e)]
              exact g
            · rw [if_neg e] at g
              rw [if_neg (by omega)]
              exact g)
          intro n
          induction n with
          | zero =>
            intro l hl N v1 q hb
            refine w_m_layTellings_15 q.1 (by omega) (by omega) (by omega) ⟨fun z => absurd z (by omega), fun _ => ?_⟩
            refine ih2 (i + 1) (by omega) N _ _ q (fun p x a b c d => ?_)
            have g := hb p x a b c d
            by_cases e : p < (i : Int) ∨ (p = i ∧ x < (l : Int))
            · rw [if_pos e] at g
              rw [if_pos (by omega)]
              exact g
            · rw [if_neg e] at g
              rw [if_neg (by omega)]
              exact g
          | succ n ih3 =>
            intro l hl N v1 q hb
            have g0 := hb i l (by omega) (by omega) (by omega) (by omega)
            rw [if_neg (by omega)] at g0
            have g1 : N.1 618 (10 * (i : Int) + (j : Int)) ≠ 0 ↔ W i j := by
              have g := hb i j (by omega) (by omega) (by omega) (by omega)
              by_cases e : (i : Int) < (i : Int) ∨ ((i : Int) = i ∧ (j : Int) < (l : Int))
              · rw [if_pos e] at g
                exact g.trans pu_w1_col
              · rw [if_neg e] at g
                exact g
            have g2 : N.1 618 (10 * (j : Int) + (l : Int)) ≠ 0 ↔ W j l := by
              have g := hb j l (by omega) (by omega) (by omega) (by omega)
              by_cases e : (j : Int) < (i : Int) ∨ ((j : Int) = i ∧ (l : Int) < (l : Int))
              · rw [if_pos e] at g
                exact g.trans pu_w1_row
              · rw [if_neg e] at g
                exact g
            have fin : ∀ v : Int, (v ≠ 0 ↔ pu_w1 W j i l) → nb_W 195 15 [(20, 603), v1, (0, (j : Int)), (0, (i : Int)), (0, (l : Int) + 1)] [] (nb_wr N 618 (10 * (i : Int) + (l : Int)) v) (fun r' N' => ∃ x : Int, r' = [(0, x)] ∧ (x = 0 ∨ x = 1) ∧ (x = 1 ↔ pu_wok (M.1 606) set) ∧ pu_MM M N' S C ∧ pu_mw (N'.1 618) (pu_wz (M.1 606) set)) := by
              intro v hv
              refine ih3 (l + 1) (by omega) _ _ (q.far (by decide)) (fun p x a b c d => ?_)
              by_cases e : p = i ∧ x = l
              · obtain ⟨rfl, rfl⟩ := e
                rw [nb_wr_1, if_pos ⟨rfl, rfl⟩, if_pos (by omega)]
                exact hv
              · have g := hb p x a b c d
                rw [nb_wr_1, if_neg (by omega)]
                by_cases e2 : p < (i : Int) ∨ (p = i ∧ x < (l : Int))
                · rw [if_pos e2] at g
                  rw [if_pos (by omega)]
                  exact g
                · rw [if_neg e2] at g
                  rw [if_neg (by omega)]
                  exact g
            refine w_m_layTellings_15 q.1 (by omega) (by omega) (by omega) ⟨fun _ => ⟨fun c => ⟨fun d => fin 0 ?_, fun d => ⟨fun e => fin 0 ?_, fun e => fin 1 ?_⟩⟩, fun c => fin 1 ?_⟩, fun z => absurd z (by omega)⟩
            · exact ⟨fun z => absurd rfl z, fun z => z.elim (fun z => absurd c (g0.2 z)) (fun z => absurd d (g1.2 z.1))⟩
            · exact ⟨fun z => absurd rfl z, fun z => z.elim (fun z => absurd c (g0.2 z)) (fun z => absurd e (g2.2 z.2))⟩
            · exact ⟨fun _ => Or.inr ⟨g1.1 d, g2.1 e⟩, fun _ => by decide⟩
            · exact ⟨fun _ => Or.inl (g0.1 c), fun _ => by decide⟩
      exact l13 10 0 rfl N _ _ q (fun p q a b c d => by rw [if_neg (by omega)]; exact hb p q a b c d)
  have l5 : ∀ (n j : Nat), (j : Int) + n = M.1 606 7 → ∀ N v3 v4, pu_MM M N S C → pu_mw (N.1 618) (pu_w0 (M.1 606) set j) → nb_W 195 5 [(20, 603), (0, set), (0, (j : Int)), v3, v4] [] N (fun r' N' => ∃ x : Int, r' = [(0, x)] ∧ (x = 0 ∨ x = 1) ∧ (x = 1 ↔ pu_wok (M.1 606) set) ∧ pu_MM M N' S C ∧ pu_mw (N'.1 618) (pu_wz (M.1 606) set)) := by
    intro n
    induction n with
    | zero =>
      intro j hj N v3 v4 q hb
      refine w_m_layTellings_5 q.1 (by omega) ?_
      rw [q.r]
      refine ⟨by omega, by omega, fun z => absurd z (by omega), fun _ => ?_⟩
      refine l11 10 0 rfl N _ _ _ q ?_
      rw [show j = (M.1 606 7).toNat by omega] at hb
      exact hb
    | succ n ih =>
      intro j hj N v3 v4 q hb
      obtain ⟨s1, s2, s3⟩ := hT.2.2.2.2.1 j (by omega) (by omega)
      refine w_m_layTellings_5 q.1 (by omega) ?_
      rw [q.r]
      refine ⟨by omega, by omega, fun _ => ⟨fun c => ?_, fun c => ⟨by omega, by omega, by omega, by omega, by omega, by omega, ?_⟩⟩, fun z => absurd z (by omega)⟩
      · refine ih (j + 1) (by omega) N _ _ q (fun p x a b c' d => ?_)
        rw [hb p x a b c' d]
        constructor
        · rintro ⟨i, i1, i2, i3, i4⟩
          exact ⟨i, by omega, i2, i3, i4⟩
        · rintro ⟨i, i1, i2, i3, i4⟩
          by_cases ei : i = j
          · subst ei
            exact absurd c i2
          · exact ⟨i, by omega, i2, i3, i4⟩
      · refine ih (j + 1) (by omega) _ _ _ (q.far (by decide)) (fun p x a b c' d => ?_)
        have g := hb p x a b c' d
        by_cases e : p = M.1 606 (161 + 3 * (j : Int) + 1) ∧ x = M.1 606 (161 + 3 * (j : Int) + 2)
        · rw [nb_wr_1, if_pos ⟨rfl, by omega⟩]
          exact ⟨fun _ => ⟨j, by omega, c, e.1.symm, e.2.symm⟩, fun _ => by decide⟩
        · rw [nb_wr_1, if_neg (by omega), g]
          constructor
          · rintro ⟨i, i1, i2, i3, i4⟩
            exact ⟨i, by omega, i2, i3, i4⟩
          · rintro ⟨i, i1, i2, i3, i4⟩
            by_cases ei : i = j
            · subst ei
              exact absurd ⟨i3.symm, i4.symm⟩ e
            · exact ⟨i, by omega, i2, i3, i4⟩
  suffices l1 : ∀ (n j : Nat), (j : Int) + n = 100 → ∀ N v3 v4, pu_MM M N S C → (∀ i : Nat, i < j → N.1 618 i = 0) → nb_W 195 1 [(20, 603), (0, set), (0, (j : Int)), v3, v4] [] N (fun r' N' => ∃ x : Int, r' = [(0, x)] ∧ (x = 0 ∨ x = 1) ∧ (x = 1 ↔ pu_wok (M.1 606) set) ∧ pu_MM M N' S C ∧ pu_mw (N'.1 618) (pu_wz (M.1 606) set)) from l1 100 0 rfl N _ _ hq (fun i hi => absurd hi (by omega))
  intro n
  induction n with
  | zero =>
    intro j hj N v3 v4 q hz
    refine w_m_layTellings_1 q.1 (by omega) ⟨fun z => absurd z (by omega), fun _ => ?_⟩
    refine l5 (M.1 606 7).toNat 0 (by omega) N _ _ q (fun p x a b c d => ?_)
    refine ⟨fun z => absurd ?_ z, fun ⟨i, hi, _⟩ => absurd hi (by omega)⟩
    obtain ⟨i, hi⟩ : ∃ i : Nat, 10 * p + x = i := ⟨(10 * p + x).toNat, by omega⟩
    rw [hi]
    exact hz i (by omega)
  | succ n ih =>
    intro j hj N v3 v4 q hz
    refine w_m_layTellings_1 q.1 (by omega) ⟨fun _ => ?_, fun z => absurd z (by omega)⟩
    refine ih (j + 1) (by omega) _ _ _ (q.far (by decide)) (fun i hi => ?_)
    by_cases e : i = j
    · subst e
      rw [nb_wr_1, if_pos ⟨rfl, rfl⟩]
    · rw [nb_wr_1, if_neg (by omega)]
      exact hz i (by omega)
