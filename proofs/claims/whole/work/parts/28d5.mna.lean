/-! SOUNDNESS of 'new int[n][m]' -/
theorem nb_outer_get (c : ClassId) (N h0 : Nat) : ∀ i : Nat, i ≤ N → ∀ j : Nat, j < i → (Jvm.Free.Multi.outerC c N h0 i).slots[j]? = some (.ref (h0 + 1 + j))
  | 0, _, j, h => absurd h (by omega)
  | i + 1, hi, j, h => by
    show ((Jvm.Free.Multi.outerC c N h0 i).setSlot i (.ref (h0 + 1 + i))).slots[j]? = _
    have hsz := (Jvm.Free.Multi.outerC_facts c N h0 i).2.2
    by_cases e : j = i
    · subst e
      have hlt : j < (Jvm.Free.Multi.outerC c N h0 j).slots.size := by
        rw [hsz]
        omega
      simp [Cell.setSlot, hlt]
    · have := nb_outer_get c N h0 i (by omega) j (by omega)
      simp only [Cell.setSlot]
      rw [Array.getElem?_setIfInBounds_ne (by omega)]
      exact this
theorem nb_alm_sub (M : nb_M) (n k : Nat) : ∀ (j : Nat) (q : Nat × Nat), M.2.1[j]? = some q → (nb_alm M n k).2.1[j]? = some q := by
  intro j q hq
  have hl := (List.getElem?_eq_some_iff.mp hq).1
  show (M.2.1 ++ _)[j]? = _
  rw [List.getElem?_append_left hl]
  exact hq
theorem nb_alm_new (M : nb_M) (n k : Nat) : (nb_alm M n k).2.1[M.2.1.length]? = some (7, n) := by
  show (M.2.1 ++ ((7, n) :: List.replicate n (0, k)))[M.2.1.length]? = _
  rw [List.getElem?_append_right (Nat.le_refl _), Nat.sub_self]
  rfl
theorem nb_alm_in (M : nb_M) (n k j : Nat) (h : j < n) : (nb_alm M n k).2.1[M.2.1.length + 1 + j]? = some (0, k) := by
  show (M.2.1 ++ ((7, n) :: List.replicate n (0, k)))[M.2.1.length + 1 + j]? = _
  rw [List.getElem?_append_right (by omega), show M.2.1.length + 1 + j - M.2.1.length = j + 1 by omega, List.getElem?_cons_succ, List.getElem?_replicate]
  simp [h]
/-- an array of arrays is made -/
theorem nb_H_alm {E : nb_E} {M : nb_M} {H H' : Heap} {n k : Nat} {oc ic : Cell} (h : nb_H E M H) (hj : M.2.2.1 = 0) (hn : n < 2147483648) (hk : k < 2147483648) (e0 : H'.size = H.size + 1 + n) (e1 : H'[H.size]? = some oc) (e2 : ∀ j, j < n → H'[H.size + 1 + j]? = some ic) (e3 : ∀ q, q < H.size → H'[q]? = H[q]?)
    (o1 : oc.vm = .none) (o2 : oc.cls = E.2.2.2.1 7) (o3 : oc.slots.size = n) (o4 : ∀ j, j < n → oc.slots[j]? = some (.ref (H.size + 1 + j))) (i1 : ic.vm = .none) (i2 : ic.cls = E.2.2.2.1 0) (i3 : ic.slots.size = k) (i4 : ∀ j, j < k → ic.slots[j]? = some (.int 0)) : nb_H E (nb_alm M n k) H' ∧ nb_ad E (nb_nx M) = H.size := by
  obtain ⟨h1, h2, h3, h4, h5, h6⟩ := h
  have hnx : nb_ad E (nb_nx M) = H.size := by
    unfold nb_nx
    have := h2.2 hj
    rw [nb_ad2 E h1, this]
  have hlen : (nb_alm M n k).2.1.length = M.2.1.length + (1 + n) := by
    show (M.2.1 ++ ((7, n) :: List.replicate n (0, k))).length = _
    simp
    omega
  have hold : ∀ (a' i' : Int), a' ≠ nb_nx M → (nb_alm M n k).1 a' i' = M.1 a' i' := fun a' i' q => if_neg (fun w => q w.1)
  have hadj : ∀ j : Nat, nb_ad E (((M.2.1.length + 1 + j : Nat) : Int)) = H.size + 1 + j := by
    intro j
    have := h2.2 hj
    rw [nb_ad2 E (by omega), this]
    omega
  refine ⟨⟨by rw [hlen]; omega, ?_, fun q hq => ?_, fun a k' n' ha hs => ?_, fun a i ha => ?_, ?_⟩, hnx⟩
  · have := h2.2 hj
    rw [hlen, e0, this]
    exact ⟨by omega, fun _ => by omega⟩
  · rw [e3 q (by omega)]
    exact h3 q hq
  · by_cases hal : a < M.2.1.length
    · have hs0 : M.2.1[a]? = some (k', n') := by
        have : (M.2.1 ++ ((7, n) :: List.replicate n (0, k)))[a]? = some (k', n') := hs
        rwa [List.getElem?_append_left hal] at this
      obtain ⟨g1, g2, cell', d1, d2, d3, d4, d5, d6⟩ := h4 a k' n' ha hs0
      refine ⟨g1, g2, cell', ?_, d2, d3, d4, d5, fun i hi => ?_⟩
      · rw [e3 _ (Array.getElem?_eq_some_iff.mp d1).1]
        exact d1
      · rw [hold _ _ (by unfold nb_nx; omega)]
        exact ⟨(d6 i hi).1, nb_ok_mono (nb_alm_sub M n k) (d6 i hi).2⟩
    · by_cases haa : a = M.2.1.length
      · subst haa
        cases (nb_alm_new M n k).symm.trans hs
        refine ⟨by decide, hn, oc, ?_, o1, o2, fun _ => o3, fun q => absurd q (by decide), fun i hi => ?_⟩
        · have : nb_ad E ((M.2.1.length : Nat) : Int) = H.size := hnx
          rw [this]
          exact e1
        · have hv : (nb_alm M n k).1 (M.2.1.length : Int) (i : Int) = ((M.2.1.length + 1 + i : Nat) : Int) := by
            show (if _ then _ else _) = _
            rw [if_pos ⟨rfl, by omega, by omega⟩]
            unfold nb_nx
            omega
          rw [hv, nb_slot0 E (by decide), o4 i hi]
          constructor
          · show _ = some (nb_val E (3, ((M.2.1.length + 1 + i : Nat) : Int)))
            rw [nb_val_ref E (by decide) (by omega), hadj]
          · exact Or.inr ⟨by omega, k, by
              rw [show (((M.2.1.length + 1 + i : Nat) : Int)).toNat = M.2.1.length + 1 + i by omega]
              exact nb_alm_in M n k i hi⟩
      · have hlt : a < M.2.1.length + (1 + n) := by
          have := (List.getElem?_eq_some_iff.mp hs).1
          omega
        obtain ⟨j, rfl⟩ : ∃ j, a = M.2.1.length + 1 + j := ⟨a - M.2.1.length - 1, by omega⟩
        have hjn : j < n := by omega
        cases (nb_alm_in M n k j hjn).symm.trans hs
        refine ⟨by decide, hk, ic, ?_, i1, i2, fun _ => i3, fun q => absurd q (by decide), fun i hi => ?_⟩
        · rw [hadj]
          exact e2 j hjn
        · have h0 : (nb_alm M n k).1 ((M.2.1.length + 1 + j : Nat) : Int) (i : Int) = 0 := by
            rw [hold _ _ (by unfold nb_nx; omega)]
            exact h5 _ _ (by omega)
          rw [h0, nb_slot0 E (by decide), i4 i hi]
          exact ⟨rfl, nb_ok_0 _ _⟩
  · have ha' : ((nb_alm M n k).2.1.length : Int) ≤ a := ha
    rw [hlen] at ha'
    rw [hold _ _ (by unfold nb_nx; omega)]
    exact h5 a i (by omega)
  · obtain ⟨g1, n', scr, g2, g3, g4, g5, g6, g7⟩ := h6
    refine ⟨g1, n', scr, nb_alm_sub M n k _ _ g2, g3, g4, g5, g6, fun j hj => ?_⟩
    rw [hold _ _ (by unfold nb_nx; omega)]
    exact ⟨(g7 j hj).1, nb_ok_mono (nb_alm_sub M n k) (g7 j hj).2⟩
set_option maxHeartbeats 1000000 in
theorem nb_MN (l : Launch) : nb_MNok l := by
  intro p e R s m args below meth c Q E z0 z1 own r hx hown hSt hR hown14 pc idx L st M k b hmn hd hz h hkb hkz hk
  have ht : ∀ w ∈ nb_Ts, w.before args s = true := hSt.1.use
  unfold nb_newm at h
  match st, h with
  | [], h1 => cases h1
  | [_], h1 => cases h1
  | d :: nn :: st, h1 =>
    obtain ⟨td, d⟩ := d
    obtain ⟨tn, nn⟩ := nn
    dsimp only at h1
    split at h1
    · rename_i hc
      obtain ⟨rfl, rfl⟩ := hc
      have hb' := hkb _ _ _ _ h1
      have hzz := hkz _ _ _ _ h1
      rw [nb_alm_cz, nb_alm_sz] at hzz
      simp only [Bool.and_eq_true, decide_eq_true_eq] at hb'
      obtain ⟨-, b1, b2, b3, b4, b5⟩ := hb'
      intro ls H locs hL hS0 hH hl
      obtain ⟨N, rfl⟩ : ∃ N : Nat, nn = (N : Int) := ⟨nn.toNat, by omega⟩
      obtain ⟨D, rfl⟩ : ∃ D : Nat, d = (D : Int) := ⟨d.toNat, by omega⟩
      rw [show (N : Int).toNat = N by omega, show (D : Int).toNat = D by omega] at hzz
      have neg : ∀ x : Nat, (x : Int) ≤ 1000 → ¬ Int32.ofInt (x : Int) < 0 := by
        intro x hx q
        have := (nb_lt32 (x := (x : Int)) (y := 0) (by omega) (by decide)).mp q
        omega
      have cl : ∀ x : Nat, (x : Int) ≤ 1000 → (Int32.ofInt (x : Int)).toNatClampNeg = x := by
        intro x hx
        rw [nb_clamp (by omega)]
        omega
      have hclink : (Cond.classLink (nb_onm own) idx ("[" ++ (FieldType.array .int).toString)).before args s = true := by
        unfold nb_mnB at hmn
        simp only [Bool.or_eq_true, Bool.and_eq_true, beq_iff_eq] at hmn
        rcases hmn with ⟨rfl, rfl⟩ | ⟨rfl, rfl⟩ | ⟨rfl, rfl⟩
        · exact ht _ (nb_in_Ts (j := 1037) (by decide +kernel))
        · exact ht _ (nb_in_Ts (j := 2143) (by decide +kernel))
        · exact ht _ (nb_in_Ts (j := 2167) (by decide +kernel))
      have hover : (Cond.arrayOver (.array .int)).before args s = true := by
        have h0 : (Cond.arrayOver (.array .int)).before #[] s = true := hSt.1 _ (nb_wat_mem (j := 1038) (by decide +kernel)) rfl
        exact nb_over_alike (State.WarmedH.refl s).alike h0
      have harr : (Cond.arrayClass .int).before args s = true := ht _ (nb_in_Ts (j := 1131) (by decide +kernel))
      intro T hT X
      obtain ⟨vm₁, cA, comp, -, fA, fC, hO, -, X', step⟩ := X.multianewarray2F hx hown hclink hover harr (g := F0 m pc ls (.int (Int32.ofInt (D : Int)) :: .int (Int32.ofInt (N : Int)) :: st.map (nb_val E))) rfl hd rfl (neg N b3) (neg D b5) (by rw [cl N b3]; omega) (by rw [cl D b5]; show D * 4 ≤ _; omega) (by rw [cl D b5]; omega) rfl rfl (by rw [cl N b3]; omega) (by rw [cl N b3, cl D b5]; omega)
      rw [cl N b3, cl D b5] at X' step
      obtain ⟨kA, c7, kc, g1, g2, g3, g4, -⟩ := hSt.2.2.1 7 (by decide)
      obtain ⟨kB, c0, kd, q1, q2, q3, q4, -⟩ := hSt.2.2.1 0 (by decide)
      have eA : cA = E.2.2.2.1 7 := Option.some.inj (fA.symm.trans g4)
      have eC : comp = E.2.2.2.1 0 := Option.some.inj (fC.symm.trans q4)
      have hTh : (T.setVm vm₁).heap = H := hT
      obtain ⟨f1, f2, -, -⟩ := Jvm.Free.Multi.fill_facts (T.setVm vm₁) cA comp N D (defaultValue .int) N
      have f3 : ∀ q : Nat, q < H.size → (Jvm.Free.Multi.fill (T.setVm vm₁) cA comp N D (defaultValue .int) N).heap[q]? = H[q]? := fun q hq => by
        have := Jvm.Free.Multi.fill_old (T.setVm vm₁) cA comp N D (defaultValue .int) (a := q) (by rw [hTh]; exact hq) N
        rw [hTh] at this
        exact this
      have f4 : ∀ j : Nat, j < N → (Jvm.Free.Multi.fill (T.setVm vm₁) cA comp N D (defaultValue .int) N).heap[H.size + 1 + j]? = some (Jvm.Free.Multi.innerC comp D (defaultValue .int)) := fun j hj => by
        have := Jvm.Free.Multi.fill_inner (T.setVm vm₁) cA comp N D (defaultValue .int) N j hj
        rw [hTh] at this
        exact this
      rw [hTh] at f1 f2
      obtain ⟨o1, o2, o3⟩ := Jvm.Free.Multi.outerC_facts cA N H.size N
      obtain ⟨hnew, hnx⟩ := nb_H_alm (H' := (Jvm.Free.Multi.fill (T.setVm vm₁) cA comp N D (defaultValue .int) N).heap) hH b1 (n := N) (k := D) (by omega) (by omega) f1 f2 f4 f3 o2 (o1.trans eA) o3 (nb_outer_get cA N H.size N (Nat.le_refl _)) rfl eC (by simp [Jvm.Free.Multi.innerC]) (fun j hj => by
        simp [Jvm.Free.Multi.innerC, hj]
        rfl)
      have hval : nb_val E (10, nb_nx M) = .ref H.size := by
        rw [nb_val_ref E (by omega) (by unfold nb_nx; have := hH.1; omega), hnx]
      have hgo := hk _ _ _ _ h1 ls _ locs (nb_LR_mono (nb_alm_sub M _ _) hL) (List.forall_mem_cons.mpr ⟨Or.inr ⟨by unfold nb_nx; have := hH.1; omega, N, by
        show (nb_alm M _ _).2.1[(nb_nx M).toNat]? = _
        unfold nb_nx
        rw [show ((M.2.1.length : Nat) : Int).toNat = M.2.1.length by omega, show (N : Int).toNat = N by omega, nb_alm_new]⟩, fun v hv => nb_ok_mono (nb_alm_sub M _ _) (hS0 v (List.mem_cons_of_mem _ (List.mem_cons_of_mem _ hv)))⟩) (by
          rw [show (N : Int).toNat = N by omega, show (D : Int).toNat = D by omega]
          exact hnew) hl
      rw [nb_alm_cz, nb_alm_sz, List.map_cons, hval, show (N : Int).toNat = N by omega, show (D : Int).toNat = D by omega, show nb_cz M + (1 + N) - z0 = nb_cz M - z0 + 1 + N by omega, show nb_sz M + (N + N * D) - z1 = nb_sz M - z1 + N + N * D by omega] at hgo
      obtain ⟨t, t1, t2⟩ := hgo _ rfl X'
      rw [← hT] at t1
      exact ⟨t, step t t1, t2⟩
    · cases h1
