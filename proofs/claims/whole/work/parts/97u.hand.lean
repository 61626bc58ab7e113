/-! CALL: hand -/
theorem sp_ja_fill {M : nb_M} {a v n : Int} {v2 v3 : nb_V} (h0 : a ≠ 0) (h1 : a ≠ 1) (hn : nb_ln M a = n) (hb : 0 ≤ n ∧ n ≤ 2000) : nb_R nb_P 295 0 [(3, a), (0, v), v2, v3] [] M = some ([], nb_up M a (fun j => if 0 ≤ j ∧ j < n then v else M.1 a j)) := by
  apply nb_Wq
  refine w_ja_fill_0 h0 h1 hn hb ?_
  suffices hl : ∀ (m k : Nat), k + m = n.toNat → nb_W 295 1 [(3, a), (0, v), (0, (k : Int)), (0, n)] [] (nb_up M a (fun j => if 0 ≤ j ∧ j < (k : Int) then v else M.1 a j)) (fun r' M' => r' = [] ∧ M' = nb_up M a (fun j => if 0 ≤ j ∧ j < n then v else M.1 a j)) by
    have g := hl _ 0 (Nat.zero_add _)
    have e : (fun j : Int => if 0 ≤ j ∧ j < ((0 : Nat) : Int) then v else M.1 a j) = M.1 a := funext fun j => if_neg (by omega)
    rw [e, nb_up_id] at g
    exact g
  intro m
  induction m with
  | zero =>
    intro k hk
    refine w_ja_fill_1 h0 h1 ((nb_up_ln _ _ _ _).trans hn) hb (by omega) (by omega) ⟨fun c => absurd c (by omega), fun _ => ⟨rfl, ?_⟩⟩
    rw [show (k : Int) = n by omega]
  | succ m ih =>
    intro k hk
    refine w_ja_fill_1 h0 h1 ((nb_up_ln _ _ _ _).trans hn) hb (by omega) (by omega) ⟨fun _ => ⟨by omega, by omega, ?_⟩, fun c => absurd c (by omega)⟩
    have g := ih (k + 1) (by omega)
    have e : nb_wr (nb_up M a (fun j => if 0 ≤ j ∧ j < (k : Int) then v else M.1 a j)) a k v = nb_up M a (fun j => if 0 ≤ j ∧ j < ((k + 1 : Nat) : Int) then v else M.1 a j) := by
      rw [nb_wr_up, nb_up_same, nb_up_up]
      congr 1
      funext j
      simp only [nb_ud]
      (repeat' split) <;> first | rfl | omega
    rw [e]
    exact g
theorem pu_CQ.cellup {M N : nb_M} {tr a : Int} {f : Int → Int} (h : pu_CQ M N tr) (ha : 106 ≤ a ∧ a < 128) (hr : ∀ i w, ¬ nb_rf a i w) : pu_CQ M (nb_up N a f) tr := by
  obtain ⟨h1, h2, h3, h4⟩ := h
  refine ⟨h1.up hr, h2, ?_, fun b j p q => ?_⟩
  · rw [nb_up_other (by omega)]; exact h3
  · rw [nb_up_other (by omega)]; exact h4 b j p q
def pu_crh (cr : Int → Int) (ns pl : Int) : Int → Int := nb_ud (nb_ud (nb_ud (nb_ud (nb_ud (nb_ud cr (6 * ns) 3) (6 * ns + 1) (nb_div pl 2)) (6 * ns + 2) 0) (6 * ns + 3) (pl - 1)) (6 * ns + 4) 1) (6 * ns + 5) 1
def pu_sth (R : Int → Int) (ns v : Int) : Int → Int := nb_ud (nb_ud (nb_ud (nb_ud R (92 + 4 * ns) v) (92 + 4 * ns + 1) 0) (92 + 4 * ns + 2) 0) (92 + 4 * ns + 3) 0
theorem pu_half : ∀ n : Nat, n ≤ 20 → 0 ≤ nb_div n 2 ∧ nb_div n 2 ≤ 19 := by decide +kernel
theorem pu_halfi {x : Int} (h : 0 ≤ x ∧ x ≤ 20) : 0 ≤ nb_div x 2 ∧ nb_div x 2 ≤ 19 := by
  obtain ⟨n, rfl⟩ : ∃ n : Nat, x = n := ⟨x.toNat, by omega⟩
  exact pu_half n (by omega)
theorem pu_crh_at {cr : Int → Int} {ns pl : Int} : (pu_crh cr ns pl (6 * ns) = 3 ∧ pu_crh cr ns pl (6 * ns + 1) = nb_div pl 2 ∧ pu_crh cr ns pl (6 * ns + 2) = 0 ∧ pu_crh cr ns pl (6 * ns + 3) = pl - 1 ∧ pu_crh cr ns pl (6 * ns + 4) = 1 ∧ pu_crh cr ns pl (6 * ns + 5) = 1) ∧ ∀ j, (j < 6 * ns ∨ 6 * ns + 6 ≤ j) → pu_crh cr ns pl j = cr j := by
  unfold pu_crh
  refine ⟨⟨?_, ?_, ?_, ?_, ?_, ?_⟩, fun j hj => ?_⟩
  · rw [nb_ud_other (by omega), nb_ud_other (by omega), nb_ud_other (by omega), nb_ud_other (by omega), nb_ud_other (by omega), nb_ud_same]
  · rw [nb_ud_other (by omega), nb_ud_other (by omega), nb_ud_other (by omega), nb_ud_other (by omega), nb_ud_same]
  · rw [nb_ud_other (by omega), nb_ud_other (by omega), nb_ud_other (by omega), nb_ud_same]
  · rw [nb_ud_other (by omega), nb_ud_other (by omega), nb_ud_same]
  · rw [nb_ud_other (by omega), nb_ud_same]
  · rw [nb_ud_same]
  · rw [nb_ud_other (by omega), nb_ud_other (by omega), nb_ud_other (by omega), nb_ud_other (by omega), nb_ud_other (by omega), nb_ud_other (by omega)]
theorem pu_sth_at {R : Int → Int} {ns v : Int} : (pu_sth R ns v (92 + 4 * ns) = v ∧ pu_sth R ns v (92 + 4 * ns + 1) = 0 ∧ pu_sth R ns v (92 + 4 * ns + 2) = 0 ∧ pu_sth R ns v (92 + 4 * ns + 3) = 0) ∧ ∀ j, (j < 92 + 4 * ns ∨ 92 + 4 * ns + 4 ≤ j) → pu_sth R ns v j = R j := by
  unfold pu_sth
  refine ⟨⟨?_, ?_, ?_, ?_⟩, fun j hj => ?_⟩
  · rw [nb_ud_other (by omega), nb_ud_other (by omega), nb_ud_other (by omega), nb_ud_same]
  · rw [nb_ud_other (by omega), nb_ud_other (by omega), nb_ud_same]
  · rw [nb_ud_other (by omega), nb_ud_same]
  · rw [nb_ud_same]
  · rw [nb_ud_other (by omega), nb_ud_other (by omega), nb_ud_other (by omega), nb_ud_other (by omega)]
theorem pu_crh_Rc {cr : Int → Int} {ns pl : Int} (hns : 0 ≤ ns ∧ ns ≤ 3) (hp : 0 ≤ pl ∧ pl ≤ 20) (h : pu_Rc cr) : pu_Rc (pu_crh cr ns pl) := by
  intro s a b
  obtain ⟨⟨c0, c1, c2, c3, c4, c5⟩, co⟩ := pu_crh_at (cr := cr) (ns := ns) (pl := pl)
  by_cases e : s = ns
  · subst e
    rw [c1, c4, c5]
    exact ⟨pu_halfi hp, by decide, by decide⟩
  · rw [co _ (by omega), co _ (by omega), co _ (by omega)]
    exact h s a b
/-- rows alike but for numbers behind the staff's, that are small -/
theorem pu_Rw_tail {R R' : Int → Int} {ns : Int} (hns : 0 ≤ ns ∧ ns ≤ 4) (h : pu_Rw R) (lo : ∀ j, 0 ≤ j → j < 92 + 4 * ns → R' j = R j) (hi : ∀ s, ns ≤ s → s ≤ 3 → (0 ≤ R' (92 + 4 * s) ∧ R' (92 + 4 * s) ≤ 19) ∧ (0 ≤ R' (92 + 4 * s + 1) ∧ R' (92 + 4 * s + 1) ≤ 100000) ∧ (0 ≤ R' (92 + 4 * s + 2) ∧ R' (92 + 4 * s + 2) ≤ 100000) ∧ (0 ≤ R' (92 + 4 * s + 3) ∧ R' (92 + 4 * s + 3) ≤ 10)) : pu_Rw R' := by
  obtain ⟨a1, a2, a3, a4, a5⟩ := h
  refine ⟨fun q h0 h9 => ?_, fun q h0 h3 => ?_, ?_, ?_, fun k h0 hk => ?_⟩
  · rw [lo (12 + 8 * q) (by omega) (by omega), lo (12 + 8 * q + 1) (by omega) (by omega), lo (12 + 8 * q + 2) (by omega) (by omega), lo (12 + 8 * q + 3) (by omega) (by omega), lo (12 + 8 * q + 4) (by omega) (by omega), lo (12 + 8 * q + 5) (by omega) (by omega), lo (12 + 8 * q + 6) (by omega) (by omega), lo (12 + 8 * q + 7) (by omega) (by omega)]
    exact a1 q h0 h9
  · by_cases e : q < ns
    · rw [lo (92 + 4 * q) (by omega) (by omega), lo (92 + 4 * q + 1) (by omega) (by omega), lo (92 + 4 * q + 2) (by omega) (by omega), lo (92 + 4 * q + 3) (by omega) (by omega)]
      exact a2 q h0 h3
    · exact hi q (by omega) h3
  · rw [lo 0 (by decide) (by omega)]; exact a3
  · rw [lo 1 (by decide) (by omega)]; exact a4
  · rw [lo 1 (by decide) (by omega)] at hk
    rw [lo (2 + k) (by omega) (by omega)]
    exact a5 k h0 hk
theorem pu_sth_ok {R : Int → Int} {ns v : Int} (hns : 0 ≤ ns ∧ ns ≤ 3) (hv : 0 ≤ v ∧ v ≤ 19) (h : pu_Rw R) (hk : pu_Rk R) : pu_Rw (pu_sth R ns v) ∧ pu_Rk (pu_sth R ns v) ∧ pu_ag R (pu_sth R ns v) := by
  obtain ⟨⟨c0, c1, c2, c3⟩, co⟩ := pu_sth_at (R := R) (ns := ns) (v := v)
  have ag : pu_ag R (pu_sth R ns v) := pu_ag.lo (fun j _ _ => co j (by omega)) (fun j _ => co j (by omega))
  refine ⟨pu_Rw_tail (ns := ns) (by omega) h (fun j _ _ => co j (by omega)) (fun s a b => ?_), ?_, ag⟩
  · by_cases e : s = ns
    · subst e
      rw [c0, c1, c2, c3]
      omega
    · rw [co _ (by omega), co _ (by omega), co _ (by omega), co _ (by omega)]
      exact h.2.1 s (by omega) b
  · unfold pu_Rk at hk ⊢
    rw [ag.1 1 (by omega), pu_nb_congr 10 (fun q hq => (ag.2 q (by omega) (by omega)).1)]
    exact hk
def pu_evH (M : nb_M) : Int → Int := pu_eve (M.1 606) (pu_crh (pu_cra M) (M.1 606 4) (M.1 606 1)) (pu_pea M) (M.1 606 4 + 1) (M.1 606 2) (pu_sth (pu_sta M) (M.1 606 4) (nb_div (M.1 606 1) 2))
theorem sp_sc_addHandQ {M N : nb_M} {k tr : Int} {v1 : nb_V} {cr pe R : Int → Int} (hI : pu_I M k) (hq : pu_CQ M N tr) (h : pu_St M N (M.1 606 4) cr pe R) (e3 : N.1 106 3 = M.1 2 2) : nb_W 256 0 [(15, 106), v1] [] N (fun r' N' => r' = [] ∧ pu_CQ M N' tr ∧ (N'.1 106 3 = M.1 2 2 ∧ N'.1 106 7 = N.1 106 7 ∧ N'.1 106 8 = N.1 106 8) ∧ pu_St M N' (M.1 606 4 + 1) (pu_crh cr (M.1 606 4) (M.1 606 1)) pe (pu_sth R (M.1 606 4) (nb_div (M.1 606 1) 2))) := by
  obtain ⟨Ho, hHo, hx2, hx3, hh, hSn, hT, h14, h7, hL⟩ := pu_I_at hI
  have hr := hT.1
  have n5 := hr.2.2.2.2.2.2.1
  have n4 := hr.2.2.2.2.2.1
  have n1 := hr.2.2.1
  have e5 : N.1 106 5 = M.1 606 4 := h.1.2.1
  obtain ⟨⟨c0, c1, c2, c3, c4, c5⟩, co⟩ := pu_crh_at (cr := cr) (ns := M.1 606 4) (pl := M.1 606 1)
  obtain ⟨⟨d0, d1, d2, d3⟩, dc⟩ := pu_sth_at (R := R) (ns := M.1 606 4) (v := nb_div (M.1 606 1) 2)
  generalize hns : M.1 606 4 = ns at *
  generalize hpl : M.1 606 1 = pl at *
  refine w_sc_addHand_0 hq.1 hHo (e3.trans hx2) ?_
  rw [e5]
  refine ⟨by omega, by omega, ?_⟩
  have q1 := hq.cell (a := 120 + 2 * ns) (i := 7) (v := -1) (by omega) (fun _ => nb_n120 (by omega) (by decide))
  have hlen : nb_ln (nb_wr N (120 + 2 * ns) 7 (-1)) (120 + 2 * ns + 1) = 2 := by
    have g := q1.1.snf (A := 106) (i := ns) nb_sc106 (by omega) (by omega)
    rwa [show (106 : Int) + 14 + 2 * ns + 1 = 120 + 2 * ns + 1 by omega] at g
  refine nb_Wp (sp_ja_fill (by omega) (by omega) hlen (by decide)) ?_
  have q2 := q1.cellup (a := 120 + 2 * ns + 1) (f := fun j => if 0 ≤ j ∧ j < 2 then 0 else (nb_wr N (120 + 2 * ns) 7 (-1)).1 (120 + 2 * ns + 1) j) (by omega) (fun _ _ => nb_n121 (by omega))
  have f5 : (nb_up (nb_wr N (120 + 2 * ns) 7 (-1)) (120 + 2 * ns + 1) (fun j => if 0 ≤ j ∧ j < 2 then 0 else (nb_wr N (120 + 2 * ns) 7 (-1)).1 (120 + 2 * ns + 1) j)).1 106 = N.1 106 := by
    rw [nb_up_other (by omega), nb_wr_b (by omega)]
  have fo : (nb_up (nb_wr N (120 + 2 * ns) 7 (-1)) (120 + 2 * ns + 1) (fun j => if 0 ≤ j ∧ j < 2 then 0 else (nb_wr N (120 + 2 * ns) 7 (-1)).1 (120 + 2 * ns + 1) j)).1 Ho 9 = pl := by
    have o := (q2.ho hHo hr hh).1.1
    rw [o, hpl]
  rw [f5, fo, e5]
  refine ⟨rfl, q2.1, e3.trans hx2, q2.x2 hx2, by omega, by omega, by omega, by omega, fun hL' => ?_⟩
  generalize hN : nb_up (nb_wr N (120 + 2 * ns) 7 (-1)) (120 + 2 * ns + 1) (fun j => if 0 ≤ j ∧ j < 2 then 0 else (nb_wr N (120 + 2 * ns) 7 (-1)).1 (120 + 2 * ns + 1) j) = N1 at *
  have g0 : N1.1 (120 + 2 * ns + 1) 0 = 0 := by rw [← hN, nb_up_same]; rfl
  have g1 : N1.1 (120 + 2 * ns + 1) 1 = 0 := by rw [← hN, nb_up_same]; rfl
  have g7 : N1.1 (120 + 2 * ns) 7 = -1 := by rw [← hN, nb_up_other (by omega), nb_wr_1, if_pos ⟨rfl, rfl⟩]
  have go : ∀ a i, a ≠ 120 + 2 * ns → a ≠ 120 + 2 * ns + 1 → N1.1 a i = N.1 a i := fun a i p q => by rw [← hN, nb_up_other q, nb_wr_b p]
  have q3 := ((((((q2.cell (a := 120 + 2 * ns) (i := 1) (v := 3) (by omega) (fun _ => nb_n120 (by omega) (by decide))).cell (a := 120 + 2 * ns) (i := 2) (v := nb_div pl 2) (by omega) (fun _ => nb_n120 (by omega) (by decide))).cell (a := 120 + 2 * ns) (i := 3) (v := 0) (by omega) (fun _ => nb_n120 (by omega) (by decide))).cell (a := 120 + 2 * ns) (i := 4) (v := pl - 1) (by omega) (fun _ => nb_n120 (by omega) (by decide))).cell (a := 120 + 2 * ns) (i := 5) (v := 1) (by omega) (fun _ => nb_n120 (by omega) (by decide))).cell (a := 120 + 2 * ns) (i := 6) (v := 1) (by omega) (fun _ => nb_n120 (by omega) (by decide))).cell (a := 106) (i := 5) (v := ns + 1) (by decide) (fun _ => nb_nss nb_sc106 (Or.inr (by decide)))
  have k1 : ∀ i, i ≠ 5 → (nb_wr (nb_wr (nb_wr (nb_wr (nb_wr (nb_wr (nb_wr N1 (120 + 2 * ns) 1 3) (120 + 2 * ns) 2 (nb_div pl 2)) (120 + 2 * ns) 3 0) (120 + 2 * ns) 4 (pl - 1)) (120 + 2 * ns) 5 1) (120 + 2 * ns) 6 1) 106 5 (ns + 1)).1 106 i = N.1 106 i := fun i hi => by
    rw [nb_wr_1, if_neg (by omega), nb_wr_b (by omega), nb_wr_b (by omega), nb_wr_b (by omega), nb_wr_b (by omega), nb_wr_b (by omega), nb_wr_b (by omega), go 106 i (by omega) (by omega)]
  have k2 : ∀ a i, a ≠ 106 → a ≠ 120 + 2 * ns → (nb_wr (nb_wr (nb_wr (nb_wr (nb_wr (nb_wr (nb_wr N1 (120 + 2 * ns) 1 3) (120 + 2 * ns) 2 (nb_div pl 2)) (120 + 2 * ns) 3 0) (120 + 2 * ns) 4 (pl - 1)) (120 + 2 * ns) 5 1) (120 + 2 * ns) 6 1) 106 5 (ns + 1)).1 a i = N1.1 a i := fun a i p q => by
    rw [nb_wr_b p, nb_wr_b q, nb_wr_b q, nb_wr_b q, nb_wr_b q, nb_wr_b q, nb_wr_b q]
  refine ⟨rfl, q3, ⟨?_, ?_, ?_⟩, ⟨?_, ?_, ?_, fun j x y => ?_, fun p x y => ?_, fun s x y => ?_⟩, fun p x y => ?_, ?_⟩
  · rw [k1 3 (by decide)]; exact e3
  · rw [k1 7 (by decide)]
  · rw [k1 8 (by decide)]
  · rw [k1 4 (by decide)]; exact h.1.1
  · rw [nb_wr_1, if_pos ⟨rfl, rfl⟩]
  · rw [k1 6 (by decide), dc 1 (by omega)]; exact h.1.2.2.1
  · rw [dc 1 (by omega)] at y
    have r1 := h.2.2.1.2.2.2.1
    rw [k2 _ _ (by decide) (by omega), go _ _ (by omega) (by omega), dc _ (by omega)]
    exact h.1.2.2.2.1 j x y
  · have g := h.1.2.2.2.2.1 p x y
    unfold pu_G at g ⊢
    rw [dc (12 + 8 * p) (by omega), dc (12 + 8 * p + 1) (by omega), dc (12 + 8 * p + 2) (by omega), dc (12 + 8 * p + 3) (by omega), dc (12 + 8 * p + 4) (by omega), dc (12 + 8 * p + 5) (by omega), dc (12 + 8 * p + 6) (by omega)]
    simp only [k2 (106 + 4 + p) _ (by omega) (by omega), go (106 + 4 + p) _ (by omega) (by omega)]
    exact g
  · rw [show (106 : Int) + 14 + 2 * s = 120 + 2 * s by omega]
    by_cases e : s = ns
    · subst e
      unfold pu_V
      rw [c0, c2, c3, c4, c5, d0, d1, d2, d3]
      refine ⟨?_, ?_, ?_, ?_, ?_, ?_, ?_, ?_, ?_⟩
      · rw [nb_wr_1, if_neg (by omega), nb_wr_1, if_neg (by omega), nb_wr_1, if_neg (by omega), nb_wr_1, if_neg (by omega), nb_wr_1, if_neg (by omega), nb_wr_1, if_neg (by omega), nb_wr_1, if_pos ⟨rfl, rfl⟩]
      · rw [nb_wr_1, if_neg (by omega), nb_wr_1, if_neg (by omega), nb_wr_1, if_neg (by omega), nb_wr_1, if_neg (by omega), nb_wr_1, if_neg (by omega), nb_wr_1, if_pos ⟨rfl, rfl⟩]
      · rw [nb_wr_1, if_neg (by omega), nb_wr_1, if_neg (by omega), nb_wr_1, if_neg (by omega), nb_wr_1, if_neg (by omega), nb_wr_1, if_pos ⟨rfl, rfl⟩]
      · rw [nb_wr_1, if_neg (by omega), nb_wr_1, if_neg (by omega), nb_wr_1, if_neg (by omega), nb_wr_1, if_pos ⟨rfl, rfl⟩]
      · rw [nb_wr_1, if_neg (by omega), nb_wr_1, if_neg (by omega), nb_wr_1, if_pos ⟨rfl, rfl⟩]
      · rw [nb_wr_1, if_neg (by omega), nb_wr_1, if_pos ⟨rfl, rfl⟩]
      · rw [nb_wr_1, if_neg (by omega), nb_wr_1, if_neg (by omega), nb_wr_1, if_neg (by omega), nb_wr_1, if_neg (by omega), nb_wr_1, if_neg (by omega), nb_wr_1, if_neg (by omega), nb_wr_1, if_neg (by omega), g7]
        rfl
      · rw [k2 _ _ (by omega) (by omega)]; exact g0
      · rw [k2 _ _ (by omega) (by omega)]; exact g1
    · have g := h.1.2.2.2.2.2 s x (by omega)
      rw [show (106 : Int) + 14 + 2 * s = 120 + 2 * s by omega] at g
      unfold pu_V at g ⊢
      rw [co (6 * s) (by omega), co (6 * s + 2) (by omega), co (6 * s + 3) (by omega), co (6 * s + 4) (by omega), co (6 * s + 5) (by omega), dc (92 + 4 * s) (by omega), dc (92 + 4 * s + 1) (by omega), dc (92 + 4 * s + 2) (by omega), dc (92 + 4 * s + 3) (by omega)]
      simp only [k2 (120 + 2 * s) _ (by omega) (by omega), go (120 + 2 * s) _ (by omega) (by omega), k2 (120 + 2 * s + 1) _ (by omega) (by omega), go (120 + 2 * s + 1) _ (by omega) (by omega)]
      exact g
  · obtain ⟨w1, w2, w3⟩ := pu_sth_ok (ns := ns) (v := nb_div pl 2) (by omega) (pu_halfi (by omega)) h.2.2.1 h.2.2.2.1
    refine pu_Gx_ag n5.2 ⟨x, y⟩ h.2.2.1 w3 (fun _ _ _ => rfl) ?_ ?_ ?_ (h.2.1 p x y)
    · rw [k2 _ _ (by omega) (by omega), go _ _ (by omega) (by omega)]
    · rw [k2 _ _ (by omega) (by omega), go _ _ (by omega) (by omega)]
    · rw [k2 _ _ (by omega) (by omega), go _ _ (by omega) (by omega)]
  · obtain ⟨w1, w2, w3⟩ := pu_sth_ok (ns := ns) (v := nb_div pl 2) (by omega) (pu_halfi (by omega)) h.2.2.1 h.2.2.2.1
    refine pu_Ib_ag n5.2 w3 (fun _ _ _ => rfl) w1 (fun s x y => ?_) h.2.2
    by_cases e : s = ns
    · subst e
      rw [d3]
      omega
    · rw [dc _ (by omega)]
      exact h.2.2.2.2.2 s x (by omega)
