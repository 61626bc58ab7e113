/-! THE LAYOUT: where all cells lie once the constructors are through; rules for what a run brings -/
def nb_Y (X : nb_A) (Q : List nb_V → nb_M → Prop) : Prop := ∃ r M', X = some (r, M') ∧ Q r M'
theorem nb_Wg {m k : Nat} {L st : List nb_V} {M : nb_M} {Q : List nb_V → nb_M → Prop} {X : nb_A} (h : nb_R nb_P m k L st M = X) (g : nb_Y X Q) : nb_W m k L st M Q := by
  subst h
  exact g
theorem nb_Gr {m k : Nat} {L st : List nb_V} {M : nb_M} {Q : List nb_V → nb_M → Prop} (g : nb_W m k L st M Q) : nb_Y (nb_R nb_P m k L st M) Q := g
theorem nb_Gi {c : Prop} {_ : Decidable c} {X Z : nb_A} {Q : List nb_V → nb_M → Prop} (h1 : c → nb_Y X Q) (h2 : ¬ c → nb_Y Z Q) : nb_Y (if c then X else Z) Q := by
  by_cases hc : c
  · rw [if_pos hc]; exact h1 hc
  · rw [if_neg hc]; exact h2 hc
theorem nb_Gt {c : Prop} {_ : Decidable c} {X Z : nb_A} {Q : List nb_V → nb_M → Prop} (h : c) (g : nb_Y X Q) : nb_Y (if c then X else Z) Q := by rw [if_pos h]; exact g
theorem nb_Gf {c : Prop} {_ : Decidable c} {X Z : nb_A} {Q : List nb_V → nb_M → Prop} (h : ¬ c) (g : nb_Y Z Q) : nb_Y (if c then X else Z) Q := by rw [if_neg h]; exact g
theorem nb_Gs {r : List nb_V} {M : nb_M} {Q : List nb_V → nb_M → Prop} (g : Q r M) : nb_Y (some (r, M)) Q := ⟨r, M, rfl, g⟩
theorem nb_Gb {m t c : Nat} {L2 st2 La : List nb_V} {M2 : nb_M} {Q : List nb_V → nb_M → Prop} (g : nb_W c 0 La [] M2 (fun r M' => nb_W m t L2 (r ++ st2) M' Q)) : nb_Y ((nb_R nb_P c 0 La [] M2).bind fun r => nb_R nb_P m t L2 (r.1 ++ st2) r.2) Q := by
  obtain ⟨r, M', e, r2, M2', e2, q⟩ := g
  exact ⟨r2, M2', by rw [e]; exact e2, q⟩
theorem nb_Gp {m t : Nat} {L2 st2 r : List nb_V} {M2 : nb_M} {Q : List nb_V → nb_M → Prop} (g : nb_W m t L2 (r ++ st2) M2 Q) : nb_Y ((some (r, M2) : nb_A).bind fun r => nb_R nb_P m t L2 (r.1 ++ st2) r.2) Q := g
theorem nb_Wp {m : Nat} {L st r : List nb_V} {M M2 : nb_M} {Q : List nb_V → nb_M → Prop} {k : Nat} (h : nb_R nb_P m k L st M = some (r, M2)) (g : Q r M2) : nb_W m k L st M Q := ⟨r, M2, h, g⟩
/-- a pure call's equation out of a run's -/
theorem nb_Wq {m k : Nat} {L st r : List nb_V} {M M2 : nb_M} (g : nb_W m k L st M (fun r' M' => r' = r ∧ M' = M2)) : nb_R nb_P m k L st M = some (r, M2) := by
  obtain ⟨r', M', e, rfl, rfl⟩ := g
  exact e
theorem nb_i2z_eq {x : Int} (h : x = 0 ∨ x = 1) : nb_i2z x = x := by
  rcases h with rfl | rfl <;> decide
/-- where a scene lies -/
def nb_sc (a : Int) : Prop := (84 ≤ a ∧ a < 128 ∧ (a - 84) % 22 = 0) ∨ (273 ≤ a ∧ a < 603 ∧ (a - 273) % 22 = 0)
/-- where a house lies -/
def nb_hs (a : Int) : Prop := a = 4 ∨ a = 40
def nb_fs (A a i v : Int) : Prop := (a = A ∧ 0 ≤ i ∧ i ≤ 2 ∧ v = A + 1 + i) ∨ (a = A + 1 ∧ 0 ≤ i ∧ i < 10 ∧ v = A + 4 + i) ∨ (a = A + 2 ∧ 0 ≤ i ∧ i < 4 ∧ v = A + 14 + 2 * i) ∨ ∃ s : Int, 0 ≤ s ∧ s < 4 ∧ a = A + 14 + 2 * s ∧ i = 0 ∧ v = A + 14 + 2 * s + 1
def nb_fh (H a i v : Int) : Prop := (a = H ∧ 0 ≤ i ∧ i ≤ 2 ∧ v = H + 1 + i) ∨ (a = H ∧ i = 3 ∧ v = H + 4) ∨ (a = H ∧ 4 ≤ i ∧ i ≤ 8 ∧ v = H + 11 + i) ∨ (a = H + 4 ∧ 0 ≤ i ∧ i < 10 ∧ v = H + 5 + i) ∨ (a = H + 15 ∧ 0 ≤ i ∧ i < 10 ∧ v = H + 20 + i) ∨ (a = H + 16 ∧ 0 ≤ i ∧ i < 3 ∧ v = H + 30 + 2 * i) ∨ ∃ s : Int, 0 ≤ s ∧ s < 3 ∧ a = H + 30 + 2 * s ∧ i = 0 ∧ v = H + 30 + 2 * s + 1
def nb_fc (a i v : Int) : Prop := (a = 128 ∧ 0 ≤ i ∧ i < 12 ∧ v = 273 + 22 * i) ∨ (a = 129 ∧ 0 ≤ i ∧ i < 3 ∧ v = 537 + 22 * i) ∨ (a = 132 ∧ 0 ≤ i ∧ i < 8 ∧ v = 133 + i) ∨ (a = 144 ∧ 0 ≤ i ∧ i < 128 ∧ v = 145 + i)
def nb_rt : List (Int × Int × Int) := [(2, 0, 3), (2, 4, 76), (2, 5, 84), (2, 6, 106), (2, 7, 128), (2, 10, 129), (2, 12, 130), (2, 13, 142), (2, 14, 144), (76, 0, 77), (76, 1, 81), (76, 2, 82), (76, 3, 83), (77, 0, 78), (77, 1, 79), (77, 2, 80), (130, 0, 131), (130, 1, 132), (130, 2, 141), (142, 0, 143), (603, 1, 604), (603, 12, 605), (603, 15, 606), (603, 16, 607), (603, 17, 608), (603, 18, 609), (603, 19, 610), (603, 20, 611), (603, 23, 612), (603, 24, 613), (603, 29, 614), (603, 30, 615), (603, 31, 616), (603, 32, 617), (603, 34, 618)]
/-- references that never change: cell, place, where to -/
def nb_rf (a i v : Int) : Prop := (a, i, v) ∈ nb_rt ∨ nb_fc a i v ∨ (∃ H, nb_hs H ∧ nb_fh H a i v) ∨ ∃ A, nb_sc A ∧ nb_fs A a i v
def nb_KH : List (Nat × Nat) := [(9, 16), (0, 5), (0, 5), (0, 5), (7, 10), (0, 5), (0, 5), (0, 5), (0, 5), (0, 5), (0, 5), (0, 5), (0, 5), (0, 5), (0, 5), (4, 10), (5, 3), (0, 8), (0, 8), (0, 8), (8, 15), (8, 15), (8, 15), (8, 15), (8, 15), (8, 15), (8, 15), (8, 15), (8, 15), (8, 15), (13, 8), (0, 2), (13, 8), (0, 2), (13, 8), (0, 2)]
def nb_KS : List (Nat × Nat) := [(12, 9), (4, 10), (5, 4), (0, 10), (8, 15), (8, 15), (8, 15), (8, 15), (8, 15), (8, 15), (8, 15), (8, 15), (8, 15), (8, 15), (13, 8), (0, 2), (13, 8), (0, 2), (13, 8), (0, 2), (13, 8), (0, 2)]
def nb_KA : List (Nat × Nat) := [(10, 11), (15, 4), (0, 1001), (0, 1001), (2, 1001), (2, 18), (0, 18), (0, 18)]
def nb_KB : List (Nat × Nat) := [(6, 12), (6, 3), (11, 4), (0, 7), (7, 8)] ++ List.replicate 8 (0, 7) ++ [(0, 1024), (14, 1), (0, 10), (7, 128)] ++ List.replicate 128 (0, 7)
def nb_KM : List (Nat × Nat) := [(17, 35), (0, 1000), (0, 8), (0, 347), (0, 347), (0, 108), (0, 108), (0, 1296), (0, 324), (0, 24), (0, 70), (0, 108), (0, 10), (0, 7), (0, 7), (3, 100), (2, 1)]
/-- kinds and lengths of all cells -/
def nb_Kn (L : Nat) : List (Nat × Nat) := [(0, 0), (0, L), (16, 18), (1, 1000)] ++ (nb_KH ++ (nb_KH ++ (nb_KA ++ (nb_KS ++ (nb_KS ++ (nb_KB ++ ((List.replicate 15 nb_KS).flatten ++ nb_KM)))))))
def nb_Lay (M : nb_M) : Prop := (∃ L, M.2.1 = nb_Kn L) ∧ ∀ a i v, nb_rf a i v → M.1 a i = v
theorem nb_Lay.mono {M M' : nb_M} (W : nb_Lay M) (h1 : M'.2.1 = M.2.1) (h2 : ∀ a i v, nb_rf a i v → M'.1 a i = M.1 a i) : nb_Lay M' := ⟨by rw [h1]; exact W.1, fun a i v h => (h2 a i v h).trans (W.2 a i v h)⟩
theorem nb_Lay.wr {M : nb_M} {a i v : Int} (W : nb_Lay M) (h : ∀ w, ¬ nb_rf a i w) : nb_Lay (nb_wr M a i v) := W.mono rfl (fun b j w q => nb_rd_other (M := M) (if hb : b = a then Or.inr (fun hj => h w (hb ▸ hj ▸ q)) else Or.inl hb))
theorem nb_Kn_eq (L : Nat) {j : Nat} (h : j ≠ 1) : (nb_Kn L)[j]? = (nb_Kn 0)[j]? := by
  rcases j with _ | _ | j
  · rfl
  · exact absurd rfl h
  · rfl
theorem nb_Lay.lk {M : nb_M} (W : nb_Lay M) {a : Int} {n : Nat} (h1 : a.toNat ≠ 1) (h : (nb_Kn 0)[a.toNat]?.map (·.2) = some n) : nb_ln M a = n := by
  obtain ⟨⟨L, hL⟩, -⟩ := W
  unfold nb_ln
  rw [hL, nb_Kn_eq L h1]
  cases h2 : (nb_Kn 0)[a.toNat]? with
  | none => rw [h2] at h; cases h
  | some q => rw [h2] at h; exact congrArg (Nat.cast (R := Int)) (Option.some.inj h)
theorem nb_sc_cases {A : Int} (h : nb_sc A) : A = 84 ∨ A = 106 ∨ A = 273 ∨ A = 295 ∨ A = 317 ∨ A = 339 ∨ A = 361 ∨ A = 383 ∨ A = 405 ∨ A = 427 ∨ A = 449 ∨ A = 471 ∨ A = 493 ∨ A = 515 ∨ A = 537 ∨ A = 559 ∨ A = 581 := by
  unfold nb_sc at h
  omega
theorem nb_sc84 : nb_sc 84 := by unfold nb_sc; omega
theorem nb_sc106 : nb_sc 106 := by unfold nb_sc; omega
theorem nb_scb {i : Int} (h0 : 0 ≤ i) (h1 : i < 12) : nb_sc (273 + 22 * i) := by unfold nb_sc; omega
theorem nb_sci {i : Int} (h0 : 0 ≤ i) (h1 : i < 3) : nb_sc (537 + 22 * i) := by unfold nb_sc; omega
theorem nb_hs4 : nb_hs 4 := Or.inl rfl
theorem nb_hs40 : nb_hs 40 := Or.inr rfl
/-! where nothing that stands fast is written -/
theorem nb_nrt {a i w : Int} (h : (nb_rt.all fun q => !(q.1 == a && q.2.1 == i)) = true) : ¬ (a, i, w) ∈ nb_rt := fun q => by
  have h2 := List.all_eq_true.mp h _ q
  simp at h2
/-- a literal cell -/
theorem nb_nlit {a i w : Int} (h : (nb_rt.all fun q => !(q.1 == a && q.2.1 == i)) = true) (h2 : a < 4 ∨ (76 ≤ a ∧ a < 84) ∨ (129 < a ∧ a < 132) ∨ (132 < a ∧ a < 144) ∨ (144 < a ∧ a < 273) ∨ 603 ≤ a) : ¬ nb_rf a i w := by
  rintro (q | q | ⟨H, hH, q⟩ | ⟨A, hA, q⟩)
  · exact nb_nrt h q
  · unfold nb_fc at q
    omega
  · unfold nb_hs at hH
    rcases q with q | q | q | q | q | q | ⟨s, q⟩ <;> omega
  · unfold nb_sc at hA
    rcases q with q | q | q | ⟨s, q⟩ <;> omega
theorem nb_nrt2 {a i w : Int} (h : (nb_rt.all fun q => !(q.1 == a)) = true) : ¬ (a, i, w) ∈ nb_rt := fun q => by
  have h2 := List.all_eq_true.mp h _ q
  simp at h2
/-- a literal cell of numbers -/
theorem nb_nnum {a i w : Int} (h : (nb_rt.all fun q => !(q.1 == a)) = true) (h2 : a < 4 ∨ (76 ≤ a ∧ a < 84) ∨ (129 < a ∧ a < 132) ∨ (132 < a ∧ a < 144) ∨ (144 < a ∧ a < 273) ∨ 603 ≤ a) : ¬ nb_rf a i w := by
  rintro (q | q | ⟨H, hH, q⟩ | ⟨A, hA, q⟩)
  · exact nb_nrt2 h q
  · unfold nb_fc at q
    omega
  · unfold nb_hs at hH
    rcases q with q | q | q | q | q | q | ⟨s, q⟩ <;> omega
  · unfold nb_sc at hA
    rcases q with q | q | q | ⟨s, q⟩ <;> omega
theorem nb_rt_rg {a i w : Int} (h : (a, i, w) ∈ nb_rt) : a = 2 ∨ a = 76 ∨ a = 77 ∨ a = 130 ∨ a = 142 ∨ a = 603 := by
  have h1 : (nb_rt.all fun q => decide (q.1 = 2 ∨ q.1 = 76 ∨ q.1 = 77 ∨ q.1 = 130 ∨ q.1 = 142 ∨ q.1 = 603)) = true := by decide
  have h2 := List.all_eq_true.mp h1 _ h
  exact of_decide_eq_true h2
/-- a cell within a scene -/
theorem nb_nsc {A a i w : Int} (hA : nb_sc A) (h1 : A ≤ a) (h2 : a < A + 22) (h : ∀ w, ¬ nb_fs A a i w) : ¬ nb_rf a i w := by
  rintro (q | q | ⟨H, hH, q⟩ | ⟨B, hB, q⟩)
  · have := nb_rt_rg q
    unfold nb_sc at hA
    omega
  · unfold nb_fc at q
    unfold nb_sc at hA
    omega
  · unfold nb_hs at hH
    unfold nb_sc at hA
    rcases q with q | q | q | q | q | q | ⟨s, q⟩ <;> omega
  · have e : B = A := by
      unfold nb_sc at hA hB
      rcases q with q | q | q | ⟨s, q⟩ <;> omega
    exact h w (e ▸ q)
theorem nb_nsg {A i j w : Int} (hA : nb_sc A) (h0 : 0 ≤ i) (h1 : i < 10) : ¬ nb_rf (A + 4 + i) j w := nb_nsc hA (by omega) (by omega) (fun w q => by
  rcases q with q | q | q | ⟨s, q⟩ <;> omega)
theorem nb_nsv {A i j w : Int} (hA : nb_sc A) (h0 : 0 ≤ i) (h1 : i < 4) (hj : j ≠ 0) : ¬ nb_rf (A + 14 + 2 * i) j w := nb_nsc hA (by omega) (by omega) (fun w q => by
  rcases q with q | q | q | ⟨s, q⟩ <;> omega)
theorem nb_nsf {A i j w : Int} (hA : nb_sc A) (h0 : 0 ≤ i) (h1 : i < 4) : ¬ nb_rf (A + 14 + 2 * i + 1) j w := nb_nsc hA (by omega) (by omega) (fun w q => by
  rcases q with q | q | q | ⟨s, q⟩ <;> omega)
theorem nb_nsr {A j w : Int} (hA : nb_sc A) : ¬ nb_rf (A + 3) j w := nb_nsc hA (by omega) (by omega) (fun w q => by
  rcases q with q | q | q | ⟨s, q⟩ <;> omega)
theorem nb_nss {A j w : Int} (hA : nb_sc A) (hj : j < 0 ∨ 2 < j) : ¬ nb_rf A j w := nb_nsc hA (by omega) (by omega) (fun w q => by
  rcases q with q | q | q | ⟨s, q⟩ <;> omega)
/-- a cell within a house -/
theorem nb_nhc {H a i w : Int} (hH : nb_hs H) (h1 : H ≤ a) (h2 : a < H + 36) (h : ∀ w, ¬ nb_fh H a i w) : ¬ nb_rf a i w := by
  rintro (q | q | ⟨G, hG, q⟩ | ⟨B, hB, q⟩)
  · have := nb_rt_rg q
    unfold nb_hs at hH
    omega
  · unfold nb_fc at q
    unfold nb_hs at hH
    omega
  · have e : G = H := by
      unfold nb_hs at hH hG
      rcases q with q | q | q | q | q | q | ⟨s, q⟩ <;> omega
    exact h w (e ▸ q)
  · unfold nb_sc at hB
    unfold nb_hs at hH
    rcases q with q | q | q | ⟨s, q⟩ <;> omega
theorem nb_nhg {H i j w : Int} (hH : nb_hs H) (h0 : 0 ≤ i) (h1 : i < 10) : ¬ nb_rf (H + 20 + i) j w := nb_nhc hH (by omega) (by omega) (fun w q => by
  rcases q with q | q | q | q | q | q | ⟨s, q⟩ <;> omega)
theorem nb_nhl {H i j w : Int} (hH : nb_hs H) (h0 : 0 ≤ i) (h1 : i < 10) : ¬ nb_rf (H + 5 + i) j w := nb_nhc hH (by omega) (by omega) (fun w q => by
  rcases q with q | q | q | q | q | q | ⟨s, q⟩ <;> omega)
theorem nb_nhv {H i j w : Int} (hH : nb_hs H) (h0 : 0 ≤ i) (h1 : i < 3) (hj : j ≠ 0) : ¬ nb_rf (H + 30 + 2 * i) j w := nb_nhc hH (by omega) (by omega) (fun w q => by
  rcases q with q | q | q | q | q | q | ⟨s, q⟩ <;> omega)
theorem nb_nhf {H i j w : Int} (hH : nb_hs H) (h0 : 0 ≤ i) (h1 : i < 3) : ¬ nb_rf (H + 30 + 2 * i + 1) j w := nb_nhc hH (by omega) (by omega) (fun w q => by
  rcases q with q | q | q | q | q | q | ⟨s, q⟩ <;> omega)
theorem nb_nh1 {H j w : Int} (hH : nb_hs H) : ¬ nb_rf (H + 1) j w := nb_nhc hH (by omega) (by omega) (fun w q => by
  rcases q with q | q | q | q | q | q | ⟨s, q⟩ <;> omega)
theorem nb_nh2 {H j w : Int} (hH : nb_hs H) : ¬ nb_rf (H + 2) j w := nb_nhc hH (by omega) (by omega) (fun w q => by
  rcases q with q | q | q | q | q | q | ⟨s, q⟩ <;> omega)
theorem nb_nh3 {H j w : Int} (hH : nb_hs H) : ¬ nb_rf (H + 3) j w := nb_nhc hH (by omega) (by omega) (fun w q => by
  rcases q with q | q | q | q | q | q | ⟨s, q⟩ <;> omega)
theorem nb_nh17 {H j w : Int} (hH : nb_hs H) : ¬ nb_rf (H + 17) j w := nb_nhc hH (by omega) (by omega) (fun w q => by
  rcases q with q | q | q | q | q | q | ⟨s, q⟩ <;> omega)
theorem nb_nh18 {H j w : Int} (hH : nb_hs H) : ¬ nb_rf (H + 18) j w := nb_nhc hH (by omega) (by omega) (fun w q => by
  rcases q with q | q | q | q | q | q | ⟨s, q⟩ <;> omega)
theorem nb_nh19 {H j w : Int} (hH : nb_hs H) : ¬ nb_rf (H + 19) j w := nb_nhc hH (by omega) (by omega) (fun w q => by
  rcases q with q | q | q | q | q | q | ⟨s, q⟩ <;> omega)
theorem nb_nhh {H j w : Int} (hH : nb_hs H) (hj : j < 0 ∨ 8 < j) : ¬ nb_rf H j w := nb_nhc hH (by omega) (by omega) (fun w q => by
  rcases q with q | q | q | q | q | q | ⟨s, q⟩ <;> omega)
theorem nb_Lay.c0 {M : nb_M} (W : nb_Lay M) : M.1 2 0 = 3 := W.2 _ _ _ (Or.inl (by decide))
theorem nb_Lay.c4 {M : nb_M} (W : nb_Lay M) : M.1 2 4 = 76 := W.2 _ _ _ (Or.inl (by decide))
theorem nb_Lay.c5 {M : nb_M} (W : nb_Lay M) : M.1 2 5 = 84 := W.2 _ _ _ (Or.inl (by decide))
theorem nb_Lay.c6 {M : nb_M} (W : nb_Lay M) : M.1 2 6 = 106 := W.2 _ _ _ (Or.inl (by decide))
theorem nb_Lay.c7 {M : nb_M} (W : nb_Lay M) : M.1 2 7 = 128 := W.2 _ _ _ (Or.inl (by decide))
theorem nb_Lay.c10 {M : nb_M} (W : nb_Lay M) : M.1 2 10 = 129 := W.2 _ _ _ (Or.inl (by decide))
theorem nb_Lay.c12 {M : nb_M} (W : nb_Lay M) : M.1 2 12 = 130 := W.2 _ _ _ (Or.inl (by decide))
theorem nb_Lay.c13 {M : nb_M} (W : nb_Lay M) : M.1 2 13 = 142 := W.2 _ _ _ (Or.inl (by decide))
theorem nb_Lay.c14 {M : nb_M} (W : nb_Lay M) : M.1 2 14 = 144 := W.2 _ _ _ (Or.inl (by decide))
theorem nb_Lay.m1 {M : nb_M} (W : nb_Lay M) : M.1 603 1 = 604 := W.2 _ _ _ (Or.inl (by decide))
theorem nb_Lay.m12 {M : nb_M} (W : nb_Lay M) : M.1 603 12 = 605 := W.2 _ _ _ (Or.inl (by decide))
theorem nb_Lay.m15 {M : nb_M} (W : nb_Lay M) : M.1 603 15 = 606 := W.2 _ _ _ (Or.inl (by decide))
theorem nb_Lay.m16 {M : nb_M} (W : nb_Lay M) : M.1 603 16 = 607 := W.2 _ _ _ (Or.inl (by decide))
theorem nb_Lay.m17 {M : nb_M} (W : nb_Lay M) : M.1 603 17 = 608 := W.2 _ _ _ (Or.inl (by decide))
theorem nb_Lay.m18 {M : nb_M} (W : nb_Lay M) : M.1 603 18 = 609 := W.2 _ _ _ (Or.inl (by decide))
theorem nb_Lay.m19 {M : nb_M} (W : nb_Lay M) : M.1 603 19 = 610 := W.2 _ _ _ (Or.inl (by decide))
theorem nb_Lay.m20 {M : nb_M} (W : nb_Lay M) : M.1 603 20 = 611 := W.2 _ _ _ (Or.inl (by decide))
theorem nb_Lay.m23 {M : nb_M} (W : nb_Lay M) : M.1 603 23 = 612 := W.2 _ _ _ (Or.inl (by decide))
theorem nb_Lay.m24 {M : nb_M} (W : nb_Lay M) : M.1 603 24 = 613 := W.2 _ _ _ (Or.inl (by decide))
theorem nb_Lay.m29 {M : nb_M} (W : nb_Lay M) : M.1 603 29 = 614 := W.2 _ _ _ (Or.inl (by decide))
theorem nb_Lay.m30 {M : nb_M} (W : nb_Lay M) : M.1 603 30 = 615 := W.2 _ _ _ (Or.inl (by decide))
theorem nb_Lay.m31 {M : nb_M} (W : nb_Lay M) : M.1 603 31 = 616 := W.2 _ _ _ (Or.inl (by decide))
theorem nb_Lay.m32 {M : nb_M} (W : nb_Lay M) : M.1 603 32 = 617 := W.2 _ _ _ (Or.inl (by decide))
theorem nb_Lay.m34 {M : nb_M} (W : nb_Lay M) : M.1 603 34 = 618 := W.2 _ _ _ (Or.inl (by decide))
theorem nb_Lay.r0 {M : nb_M} (W : nb_Lay M) : M.1 76 0 = 77 := W.2 _ _ _ (Or.inl (by decide))
theorem nb_Lay.r1 {M : nb_M} (W : nb_Lay M) : M.1 76 1 = 81 := W.2 _ _ _ (Or.inl (by decide))
theorem nb_Lay.r2 {M : nb_M} (W : nb_Lay M) : M.1 76 2 = 82 := W.2 _ _ _ (Or.inl (by decide))
theorem nb_Lay.r3 {M : nb_M} (W : nb_Lay M) : M.1 76 3 = 83 := W.2 _ _ _ (Or.inl (by decide))
theorem nb_Lay.k0 {M : nb_M} (W : nb_Lay M) : M.1 77 0 = 78 := W.2 _ _ _ (Or.inl (by decide))
theorem nb_Lay.k1 {M : nb_M} (W : nb_Lay M) : M.1 77 1 = 79 := W.2 _ _ _ (Or.inl (by decide))
theorem nb_Lay.k2 {M : nb_M} (W : nb_Lay M) : M.1 77 2 = 80 := W.2 _ _ _ (Or.inl (by decide))
theorem nb_Lay.w0 {M : nb_M} (W : nb_Lay M) : M.1 130 0 = 131 := W.2 _ _ _ (Or.inl (by decide))
theorem nb_Lay.w1 {M : nb_M} (W : nb_Lay M) : M.1 130 1 = 132 := W.2 _ _ _ (Or.inl (by decide))
theorem nb_Lay.w2 {M : nb_M} (W : nb_Lay M) : M.1 130 2 = 141 := W.2 _ _ _ (Or.inl (by decide))
theorem nb_Lay.l0 {M : nb_M} (W : nb_Lay M) : M.1 142 0 = 143 := W.2 _ _ _ (Or.inl (by decide))
theorem nb_Lay.s0 {M : nb_M} {A : Int} (W : nb_Lay M) (hA : nb_sc A) : M.1 A 0 = A + 1 := W.2 _ _ _ (Or.inr (Or.inr (Or.inr ⟨A, hA, Or.inl (by omega)⟩)))
theorem nb_Lay.s1 {M : nb_M} {A : Int} (W : nb_Lay M) (hA : nb_sc A) : M.1 A 1 = A + 2 := W.2 _ _ _ (Or.inr (Or.inr (Or.inr ⟨A, hA, Or.inl (by omega)⟩)))
theorem nb_Lay.s2 {M : nb_M} {A : Int} (W : nb_Lay M) (hA : nb_sc A) : M.1 A 2 = A + 3 := W.2 _ _ _ (Or.inr (Or.inr (Or.inr ⟨A, hA, Or.inl (by omega)⟩)))
theorem nb_Lay.sg {M : nb_M} {A i : Int} (W : nb_Lay M) (hA : nb_sc A) (h0 : 0 ≤ i) (h1 : i < 10) : M.1 (A + 1) i = A + 4 + i := W.2 _ _ _ (Or.inr (Or.inr (Or.inr ⟨A, hA, Or.inr (Or.inl (by omega))⟩)))
theorem nb_Lay.sv {M : nb_M} {A i : Int} (W : nb_Lay M) (hA : nb_sc A) (h0 : 0 ≤ i) (h1 : i < 4) : M.1 (A + 2) i = A + 14 + 2 * i := W.2 _ _ _ (Or.inr (Or.inr (Or.inr ⟨A, hA, Or.inr (Or.inr (Or.inl (by omega)))⟩)))
theorem nb_Lay.sv0 {M : nb_M} {A i : Int} (W : nb_Lay M) (hA : nb_sc A) (h0 : 0 ≤ i) (h1 : i < 4) : M.1 (A + 14 + 2 * i) 0 = A + 14 + 2 * i + 1 := W.2 _ _ _ (Or.inr (Or.inr (Or.inr ⟨A, hA, Or.inr (Or.inr (Or.inr (⟨i, h0, h1, rfl, rfl, rfl⟩)))⟩)))
theorem nb_Lay.h0 {M : nb_M} {H : Int} (W : nb_Lay M) (hH : nb_hs H) : M.1 H 0 = H + 1 := W.2 _ _ _ (Or.inr (Or.inr (Or.inl ⟨H, hH, Or.inl (by omega)⟩)))
theorem nb_Lay.h1 {M : nb_M} {H : Int} (W : nb_Lay M) (hH : nb_hs H) : M.1 H 1 = H + 2 := W.2 _ _ _ (Or.inr (Or.inr (Or.inl ⟨H, hH, Or.inl (by omega)⟩)))
theorem nb_Lay.h2 {M : nb_M} {H : Int} (W : nb_Lay M) (hH : nb_hs H) : M.1 H 2 = H + 3 := W.2 _ _ _ (Or.inr (Or.inr (Or.inl ⟨H, hH, Or.inl (by omega)⟩)))
theorem nb_Lay.h3 {M : nb_M} {H : Int} (W : nb_Lay M) (hH : nb_hs H) : M.1 H 3 = H + 4 := W.2 _ _ _ (Or.inr (Or.inr (Or.inl ⟨H, hH, Or.inr (Or.inl (by omega))⟩)))
theorem nb_Lay.h4 {M : nb_M} {H : Int} (W : nb_Lay M) (hH : nb_hs H) : M.1 H 4 = H + 15 := W.2 _ _ _ (Or.inr (Or.inr (Or.inl ⟨H, hH, Or.inr (Or.inr (Or.inl (by omega)))⟩)))
theorem nb_Lay.h5 {M : nb_M} {H : Int} (W : nb_Lay M) (hH : nb_hs H) : M.1 H 5 = H + 16 := W.2 _ _ _ (Or.inr (Or.inr (Or.inl ⟨H, hH, Or.inr (Or.inr (Or.inl (by omega)))⟩)))
theorem nb_Lay.h6 {M : nb_M} {H : Int} (W : nb_Lay M) (hH : nb_hs H) : M.1 H 6 = H + 17 := W.2 _ _ _ (Or.inr (Or.inr (Or.inl ⟨H, hH, Or.inr (Or.inr (Or.inl (by omega)))⟩)))
theorem nb_Lay.h7 {M : nb_M} {H : Int} (W : nb_Lay M) (hH : nb_hs H) : M.1 H 7 = H + 18 := W.2 _ _ _ (Or.inr (Or.inr (Or.inl ⟨H, hH, Or.inr (Or.inr (Or.inl (by omega)))⟩)))
theorem nb_Lay.h8 {M : nb_M} {H : Int} (W : nb_Lay M) (hH : nb_hs H) : M.1 H 8 = H + 19 := W.2 _ _ _ (Or.inr (Or.inr (Or.inl ⟨H, hH, Or.inr (Or.inr (Or.inl (by omega)))⟩)))
theorem nb_Lay.hl {M : nb_M} {H i : Int} (W : nb_Lay M) (hH : nb_hs H) (h0 : 0 ≤ i) (h1 : i < 10) : M.1 (H + 4) i = H + 5 + i := W.2 _ _ _ (Or.inr (Or.inr (Or.inl ⟨H, hH, Or.inr (Or.inr (Or.inr (Or.inl (by omega))))⟩)))
theorem nb_Lay.hg {M : nb_M} {H i : Int} (W : nb_Lay M) (hH : nb_hs H) (h0 : 0 ≤ i) (h1 : i < 10) : M.1 (H + 15) i = H + 20 + i := W.2 _ _ _ (Or.inr (Or.inr (Or.inl ⟨H, hH, Or.inr (Or.inr (Or.inr (Or.inr (Or.inl (by omega)))))⟩)))
theorem nb_Lay.hv {M : nb_M} {H i : Int} (W : nb_Lay M) (hH : nb_hs H) (h0 : 0 ≤ i) (h1 : i < 3) : M.1 (H + 16) i = H + 30 + 2 * i := W.2 _ _ _ (Or.inr (Or.inr (Or.inl ⟨H, hH, Or.inr (Or.inr (Or.inr (Or.inr (Or.inr (Or.inl (by omega))))))⟩)))
theorem nb_Lay.hv0 {M : nb_M} {H i : Int} (W : nb_Lay M) (hH : nb_hs H) (h0 : 0 ≤ i) (h1 : i < 3) : M.1 (H + 30 + 2 * i) 0 = H + 30 + 2 * i + 1 := W.2 _ _ _ (Or.inr (Or.inr (Or.inl ⟨H, hH, Or.inr (Or.inr (Or.inr (Or.inr (Or.inr (Or.inr (⟨i, h0, h1, rfl, rfl, rfl⟩))))))⟩)))
theorem nb_Lay.sarr {M : nb_M} {i : Int} (W : nb_Lay M) (h0 : 0 ≤ i) (h1 : i < 12) : M.1 128 i = 273 + 22 * i := W.2 _ _ _ (Or.inr (Or.inl (Or.inl (by omega))))
theorem nb_Lay.iarr {M : nb_M} {i : Int} (W : nb_Lay M) (h0 : 0 ≤ i) (h1 : i < 3) : M.1 129 i = 537 + 22 * i := W.2 _ _ _ (Or.inr (Or.inl (Or.inr (Or.inl (by omega)))))
theorem nb_Lay.tarr {M : nb_M} {i : Int} (W : nb_Lay M) (h0 : 0 ≤ i) (h1 : i < 8) : M.1 132 i = 133 + i := W.2 _ _ _ (Or.inr (Or.inl (Or.inr (Or.inr (Or.inl (by omega))))))
theorem nb_Lay.warr {M : nb_M} {i : Int} (W : nb_Lay M) (h0 : 0 ≤ i) (h1 : i < 128) : M.1 144 i = 145 + i := W.2 _ _ _ (Or.inr (Or.inl (Or.inr (Or.inr (Or.inr ((by omega)))))))
theorem nb_Lay.sn1 {M : nb_M} {A : Int} (W : nb_Lay M) (hA : nb_sc A) : nb_ln M (A + 1) = 10 := by
  rcases nb_sc_cases hA with rfl | rfl | rfl | rfl | rfl | rfl | rfl | rfl | rfl | rfl | rfl | rfl | rfl | rfl | rfl | rfl | rfl <;> exact W.lk (by decide) (by decide +kernel)
theorem nb_Lay.sn2 {M : nb_M} {A : Int} (W : nb_Lay M) (hA : nb_sc A) : nb_ln M (A + 2) = 4 := by
  rcases nb_sc_cases hA with rfl | rfl | rfl | rfl | rfl | rfl | rfl | rfl | rfl | rfl | rfl | rfl | rfl | rfl | rfl | rfl | rfl <;> exact W.lk (by decide) (by decide +kernel)
theorem nb_Lay.sn3 {M : nb_M} {A : Int} (W : nb_Lay M) (hA : nb_sc A) : nb_ln M (A + 3) = 10 := by
  rcases nb_sc_cases hA with rfl | rfl | rfl | rfl | rfl | rfl | rfl | rfl | rfl | rfl | rfl | rfl | rfl | rfl | rfl | rfl | rfl <;> exact W.lk (by decide) (by decide +kernel)
theorem nb_Lay.snf {M : nb_M} {A i : Int} (W : nb_Lay M) (hA : nb_sc A) (h0 : 0 ≤ i) (h1 : i < 4) : nb_ln M (A + 14 + 2 * i + 1) = 2 := by
  have h : i = 0 ∨ i = 1 ∨ i = 2 ∨ i = 3 := by omega
  rcases h with rfl | rfl | rfl | rfl <;> rcases nb_sc_cases hA with rfl | rfl | rfl | rfl | rfl | rfl | rfl | rfl | rfl | rfl | rfl | rfl | rfl | rfl | rfl | rfl | rfl <;> exact W.lk (by decide) (by decide +kernel)
theorem nb_Lay.hn1 {M : nb_M} {H : Int} (W : nb_Lay M) (hH : nb_hs H) : nb_ln M (H + 1) = 5 := by
  rcases hH with rfl | rfl <;> exact W.lk (by decide) (by decide +kernel)
theorem nb_Lay.hn2 {M : nb_M} {H : Int} (W : nb_Lay M) (hH : nb_hs H) : nb_ln M (H + 2) = 5 := by
  rcases hH with rfl | rfl <;> exact W.lk (by decide) (by decide +kernel)
theorem nb_Lay.hn3 {M : nb_M} {H : Int} (W : nb_Lay M) (hH : nb_hs H) : nb_ln M (H + 3) = 5 := by
  rcases hH with rfl | rfl <;> exact W.lk (by decide) (by decide +kernel)
theorem nb_Lay.hn4 {M : nb_M} {H : Int} (W : nb_Lay M) (hH : nb_hs H) : nb_ln M (H + 4) = 10 := by
  rcases hH with rfl | rfl <;> exact W.lk (by decide) (by decide +kernel)
theorem nb_Lay.hn15 {M : nb_M} {H : Int} (W : nb_Lay M) (hH : nb_hs H) : nb_ln M (H + 15) = 10 := by
  rcases hH with rfl | rfl <;> exact W.lk (by decide) (by decide +kernel)
theorem nb_Lay.hn16 {M : nb_M} {H : Int} (W : nb_Lay M) (hH : nb_hs H) : nb_ln M (H + 16) = 3 := by
  rcases hH with rfl | rfl <;> exact W.lk (by decide) (by decide +kernel)
theorem nb_Lay.hn17 {M : nb_M} {H : Int} (W : nb_Lay M) (hH : nb_hs H) : nb_ln M (H + 17) = 8 := by
  rcases hH with rfl | rfl <;> exact W.lk (by decide) (by decide +kernel)
theorem nb_Lay.hn18 {M : nb_M} {H : Int} (W : nb_Lay M) (hH : nb_hs H) : nb_ln M (H + 18) = 8 := by
  rcases hH with rfl | rfl <;> exact W.lk (by decide) (by decide +kernel)
theorem nb_Lay.hn19 {M : nb_M} {H : Int} (W : nb_Lay M) (hH : nb_hs H) : nb_ln M (H + 19) = 8 := by
  rcases hH with rfl | rfl <;> exact W.lk (by decide) (by decide +kernel)
theorem nb_Lay.hnl {M : nb_M} {H i : Int} (W : nb_Lay M) (hH : nb_hs H) (h0 : 0 ≤ i) (h1 : i < 10) : nb_ln M (H + 5 + i) = 5 := by
  have h : i = 0 ∨ i = 1 ∨ i = 2 ∨ i = 3 ∨ i = 4 ∨ i = 5 ∨ i = 6 ∨ i = 7 ∨ i = 8 ∨ i = 9 := by omega
  rcases h with rfl | rfl | rfl | rfl | rfl | rfl | rfl | rfl | rfl | rfl <;> rcases hH with rfl | rfl <;> exact W.lk (by decide) (by decide +kernel)
theorem nb_Lay.hnf {M : nb_M} {H i : Int} (W : nb_Lay M) (hH : nb_hs H) (h0 : 0 ≤ i) (h1 : i < 3) : nb_ln M (H + 30 + 2 * i + 1) = 2 := by
  have h : i = 0 ∨ i = 1 ∨ i = 2 := by omega
  rcases h with rfl | rfl | rfl <;> rcases hH with rfl | rfl <;> exact W.lk (by decide) (by decide +kernel)
theorem nb_Lay.tn {M : nb_M} {i : Int} (W : nb_Lay M) (h0 : 0 ≤ i) (h1 : i < 8) : nb_ln M (133 + i) = 7 := by
  have h : i = 0 ∨ i = 1 ∨ i = 2 ∨ i = 3 ∨ i = 4 ∨ i = 5 ∨ i = 6 ∨ i = 7 := by omega
  rcases h with rfl | rfl | rfl | rfl | rfl | rfl | rfl | rfl <;> exact W.lk (by decide) (by decide +kernel)
theorem nb_Kn_w : ∀ j, j < 128 → (nb_Kn 0)[145 + j]? = some (0, 7) := by decide +kernel
theorem nb_Lay.wn {M : nb_M} {i : Int} (W : nb_Lay M) (h0 : 0 ≤ i) (h1 : i < 128) : nb_ln M (145 + i) = 7 := by
  have h := nb_Kn_w i.toNat (by omega)
  have e : (145 + i).toNat = 145 + i.toNat := by omega
  exact W.lk (n := 7) (by omega) (by rw [e, h]; rfl)
/-- a copy of ints into a cell without references -/
theorem nb_Lay.cpy {M : nb_M} {a i b j n : Int} (W : nb_Lay M) (h : ∀ k w, ¬ nb_rf b k w) : nb_Lay (nb_cpy M a i b j n) := W.mono rfl (fun a' i' w q => if_neg (fun (hh : a' = b ∧ j ≤ i' ∧ i' < j + n) => h i' w (hh.1 ▸ q)))
def nb_up (M : nb_M) (a : Int) (f : Int → Int) : nb_M := (fun b => if b = a then f else M.1 b, M.2)
def nb_ud (f : Int → Int) (i v : Int) : Int → Int := fun j => if j = i then v else f j
theorem nb_wr_up (M : nb_M) (a i v : Int) : nb_wr M a i v = nb_up M a (nb_ud (M.1 a) i v) := by
  unfold nb_wr nb_up nb_ud
  congr 1
  funext b j
  by_cases h : b = a
  · subst h
    by_cases h2 : j = i
    · simp [h2]
    · simp [h2]
  · simp [h]
theorem nb_up_1 (M : nb_M) (a b : Int) (f : Int → Int) : (nb_up M a f).1 b = if b = a then f else M.1 b := rfl
theorem nb_up_2 (M : nb_M) (a : Int) (f : Int → Int) : (nb_up M a f).2 = M.2 := rfl
theorem nb_up_same (M : nb_M) (a : Int) (f : Int → Int) : (nb_up M a f).1 a = f := if_pos rfl
theorem nb_up_other {M : nb_M} {a b : Int} {f : Int → Int} (h : b ≠ a) : (nb_up M a f).1 b = M.1 b := if_neg h
theorem nb_up_up (M : nb_M) (a : Int) (f g : Int → Int) : nb_up (nb_up M a f) a g = nb_up M a g := by
  unfold nb_up
  congr 1
  funext b
  by_cases h : b = a <;> simp [h]
theorem nb_up_comm {M : nb_M} {a b : Int} {f g : Int → Int} (h : a ≠ b) : nb_up (nb_up M a f) b g = nb_up (nb_up M b g) a f := by
  unfold nb_up
  congr 1
  funext c
  by_cases h1 : c = a
  · subst h1
    simp [h]
  · simp [h1]
theorem nb_up_id (M : nb_M) (a : Int) : nb_up M a (M.1 a) = M := by
  unfold nb_up
  refine Prod.ext ?_ rfl
  funext c
  by_cases h1 : c = a
  · subst h1
    simp
  · simp [h1]
theorem nb_ud_same (f : Int → Int) (i v : Int) : nb_ud f i v i = v := if_pos rfl
theorem nb_ud_other {f : Int → Int} {i v j : Int} (h : j ≠ i) : nb_ud f i v j = f j := if_neg h
theorem nb_wr_1 (M : nb_M) (a i v b j : Int) : (nb_wr M a i v).1 b j = if b = a ∧ j = i then v else M.1 b j := rfl
theorem nb_wr_2 (M : nb_M) (a i v : Int) : (nb_wr M a i v).2 = M.2 := rfl
theorem nb_wr_a (M : nb_M) (a i v : Int) : (nb_wr M a i v).1 a = nb_ud (M.1 a) i v := by rw [nb_wr_up, nb_up_same]
theorem nb_wr_b {M : nb_M} {a i v b : Int} (h : b ≠ a) : (nb_wr M a i v).1 b = M.1 b := by rw [nb_wr_up, nb_up_other h]
/-- the rows' times, the waits by sets -/
theorem nb_nnum2 {a i w : Int} (h : (133 ≤ a ∧ a < 142) ∨ (145 ≤ a ∧ a < 273)) : ¬ nb_rf a i w := by
  rintro (q | q | ⟨H, hH, q⟩ | ⟨A, hA, q⟩)
  · have := nb_rt_rg q
    omega
  · unfold nb_fc at q
    omega
  · unfold nb_hs at hH
    rcases q with q | q | q | q | q | q | ⟨s, q⟩ <;> omega
  · unfold nb_sc at hA
    rcases q with q | q | q | ⟨s, q⟩ <;> omega
theorem nb_rdw {M : nb_M} {a i v b j X : Int} (h : b ≠ a ∨ j ≠ i) (g : nb_rd M b j = X) : nb_rd (nb_wr M a i v) b j = X := (nb_rd_other h).trans g
theorem nb_rd_1 (M : nb_M) (a i : Int) : nb_rd M a i = M.1 a i := rfl
/-- a statement that isn't looked into -/
def nb_Hd (P : Prop) : Prop := P
theorem nb_Hw {P : Prop} (h : P) : nb_Hd P := h
theorem nb_Hu {P : Prop} (h : nb_Hd P) : P := h
theorem nb_nrow {a i w : Int} (h : a = 608 ∨ a = 609) : ¬ nb_rf a i w := by
  rcases h with rfl | rfl <;> exact nb_nnum (by decide) (by decide)
theorem nb_ud_ud (f : Int → Int) (i v w : Int) : nb_ud (nb_ud f i v) i w = nb_ud f i w := by
  funext j
  unfold nb_ud
  by_cases h : j = i <;> simp [h]
theorem nb_ud_id {f : Int → Int} {i v : Int} (h : f i = v) : nb_ud f i v = f := by
  funext j
  unfold nb_ud
  by_cases h2 : j = i
  · rw [if_pos h2, h2, h]
  · rw [if_neg h2]
theorem nb_wr_ln (M : nb_M) (a i v b : Int) : nb_ln (nb_wr M a i v) b = nb_ln M b := rfl
theorem nb_up_ln (M : nb_M) (a b : Int) (f : Int → Int) : nb_ln (nb_up M a f) b = nb_ln M b := rfl
/-- one cell's contents anew -/
theorem nb_Lay.up {M : nb_M} {a : Int} {f : Int → Int} (W : nb_Lay M) (h : ∀ i w, ¬ nb_rf a i w) : nb_Lay (nb_up M a f) := W.mono rfl (fun b j w q => by
  by_cases hb : b = a
  · exact absurd (hb ▸ q) (h j w)
  · exact congrFun (nb_up_other hb) j)
theorem nb_rdu {M : nb_M} {a b j X : Int} {f : Int → Int} (h : b ≠ a) (g : nb_rd M b j = X) : nb_rd (nb_up M a f) b j = X := (congrFun (nb_up_other h) j).trans g
theorem nb_rdus (M : nb_M) (a : Int) (f : Int → Int) (j : Int) : nb_rd (nb_up M a f) a j = f j := congrFun (nb_up_same M a f) j
/-- the model's own cell anew: its references stand -/
theorem nb_Lay.upm {M : nb_M} {f : Int → Int} (W : nb_Lay M) (h : f 1 = M.1 603 1 ∧ f 12 = M.1 603 12 ∧ f 15 = M.1 603 15 ∧ f 16 = M.1 603 16 ∧ f 17 = M.1 603 17 ∧ f 18 = M.1 603 18 ∧ f 19 = M.1 603 19 ∧ f 20 = M.1 603 20 ∧ f 23 = M.1 603 23 ∧ f 24 = M.1 603 24 ∧ f 29 = M.1 603 29 ∧ f 30 = M.1 603 30 ∧ f 31 = M.1 603 31 ∧ f 32 = M.1 603 32 ∧ f 34 = M.1 603 34) : nb_Lay (nb_up M 603 f) := W.mono rfl (fun b j w q => by
  by_cases hb : b = 603
  · subst hb
    rw [nb_up_same]
    rcases q with q | q | ⟨H, hH, q⟩ | ⟨A, hA, q⟩
    · have h1 : (nb_rt.all fun q => !(q.1 == 603) || ([1, 12, 15, 16, 17, 18, 19, 20, 23, 24, 29, 30, 31, 32, 34].contains q.2.1)) = true := by decide
      have h2 := List.all_eq_true.mp h1 _ q
      simp at h2
      rcases h2 with h2 | h2 | h2 | h2 | h2 | h2 | h2 | h2 | h2 | h2 | h2 | h2 | h2 | h2 | h2 <;> subst h2 <;> simp [h]
    · unfold nb_fc at q
      omega
    · unfold nb_hs at hH
      rcases q with q | q | q | q | q | q | ⟨s, q⟩ <;> omega
    · unfold nb_sc at hA
      rcases q with q | q | q | ⟨s, q⟩ <;> omega
  · exact congrFun (nb_up_other hb) j)
