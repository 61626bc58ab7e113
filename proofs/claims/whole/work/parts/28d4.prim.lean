/-! CALLS THAT AREN'T WALKED, printed by wip/gen/mkprim.py -/
/-- a copy of a stretch of ints -/
theorem nb_H_cpy {E : nb_E} {M : nb_M} {H H' : Heap} {a b i j n na nb : Nat} {cs cd : Cell} (h : nb_H E M H) (ha : 2 ≤ a) (hb : 2 ≤ b) (hab : a ≠ b) (sa : M.2.1[a]? = some (0, na)) (sb : M.2.1[b]? = some (0, nb)) (h4 : i + n ≤ na) (h5 : j + n ≤ nb) (ha' : H[nb_ad E (a : Int)]? = some cs) (hb' : H[nb_ad E (b : Int)]? = some cd) (e1 : H'[nb_ad E (b : Int)]? = some (cd.storeRun j (cs.stretch i n))) (e2 : H'.size = H.size) (e3 : ∀ q, q ≠ nb_ad E (b : Int) → H'[q]? = H[q]?) : nb_H E (nb_cpy M (a : Int) (i : Int) (b : Int) (j : Int) (n : Int)) H' := by
  obtain ⟨h1, h2, h3, hc, h0, hs⟩ := h
  have hlb : b < M.2.1.length := (List.getElem?_eq_some_iff.mp sb).1
  obtain ⟨-, -, cs', a1, a2, a3, a4, -, a6⟩ := hc a 0 na ha sa
  cases ha'.symm.trans a1
  obtain ⟨fb1, fb2, cd', b1, b2, b3, b4, b5, b6⟩ := hc b 0 nb hb sb
  cases hb'.symm.trans b1
  obtain ⟨f1, f2, f3, -, -⟩ := Cell.storeRun_facts cd j (cs.stretch i n)
  have hlen : (cs.stretch i n).length = n := by simp [Cell.stretch]
  have hsz : cd.slots.size = nb := b4 (by decide)
  have hcon : ∀ a' i' : Int, ¬ (a' = (b : Int) ∧ (j : Int) ≤ i' ∧ i' < (j : Int) + (n : Int)) → (nb_cpy M (a : Int) (i : Int) (b : Int) (j : Int) (n : Int)).1 a' i' = M.1 a' i' := fun a' i' q => if_neg q
  refine ⟨h1, by rw [e2]; exact h2, fun q hq => ?_, fun a' k' n' ha2 hs' => ?_, fun a' i' hq => ?_, ?_⟩
  · rw [e3 q (by rw [nb_ad2 E hb]; omega)]
    exact h3 q hq
  · by_cases hab' : a' = b
    · subst hab'
      cases sb.symm.trans hs'
      refine ⟨fb1, fb2, _, e1, by rw [f2]; exact b2, by rw [f1]; exact b3, fun q => by rw [f3]; exact hsz, b5, fun t ht => ?_⟩
      rw [nb_slot0 E (by decide), Cell.storeRun_get _ _ _ _ (by rw [hlen, hsz]; exact h5), hlen]
      by_cases hin : j ≤ t ∧ t < j + n
      · have hv : (nb_cpy M (a : Int) (i : Int) (a' : Int) (j : Int) (n : Int)).1 (a' : Int) (t : Int) = M.1 (a : Int) ((i + (t - j) : Nat) : Int) := by
          show (if _ then _ else _) = _
          rw [if_pos ⟨rfl, by omega, by omega⟩]
          exact congrArg (M.1 (a : Int)) (by omega)
        rw [if_pos hin, hv]
        have a7 := a6 (i + (t - j)) (by omega)
        rw [nb_slot0 E (by decide)] at a7
        refine ⟨?_, a7.2⟩
        rw [Cell.stretch, List.getElem?_map, List.getElem?_range (by omega)]
        show some (cs.slots.getD (i + (t - j)) .null) = _
        rw [Array.getD_eq_getD_getElem?, a7.1]
        rfl
      · rw [if_neg hin, hcon _ _ (fun q => hin ⟨by omega, by omega⟩)]
        have b7 := b6 t ht
        rw [nb_slot0 E (by decide)] at b7
        exact b7
    · obtain ⟨g1, g2, cell', d1, d2, d3, d4, d5, d6⟩ := hc a' k' n' ha2 hs'
      refine ⟨g1, g2, cell', ?_, d2, d3, d4, d5, fun t ht => ?_⟩
      · rw [e3 _ (by rw [nb_ad2 E hb, nb_ad2 E ha2]; omega)]
        exact d1
      · rw [hcon _ _ (fun q => hab' (by omega))]
        exact d6 t ht
  · have hq' : (M.2.1.length : Int) ≤ a' := hq
    rw [hcon _ _ (fun q => by omega)]
    exact h0 a' i' hq'
  · obtain ⟨g1, n', scr, g2, g3, g4, g5, g6, g7⟩ := hs
    refine ⟨g1, n', scr, g2, g3, g4, g5, g6, fun t ht => ?_⟩
    rw [hcon _ _ (fun q => by omega)]
    exact g7 t ht
section NBP
variable {l : Launch} {own lv idx : Nat} {M : nb_M}
theorem nb_cs_900 {t : Nat} {w : Int} (hl : Cond.methodLink (nb_onm own) idx Lib.objectInit ∈ nb_Ts) (hlv : 1 ≤ lv) (h0 : w ≠ 0) : nb_CS l own lv (.invokespecial idx) [(t + 3, w)] M ([], M) := by
  intro p e R s m args below meth c E z0 z1 pc Q ls H locs rest hx hls hown hS hRf hRl hRc hz hd hrest hok hH hl' kk
  have ht : ∀ w ∈ nb_Ts, w.before args s = true := hS.1.use
  have hv : nb_val E (t + 3, w) = .ref (nb_ad E w) := nb_val_ref E (by omega) h0
  show W p l e R s m args below meth c H locs _ _ Q (F0 m pc ls ([nb_val E (t + 3, w)].reverse ++ rest))
  rw [hv]
  exact W.objInit hx rfl hown (ht _ hl) (ht _ (nb_in_Ts (j := 1029) (by decide +kernel))) (ht _ (nb_in_Ts (j := 1030) (by decide +kernel))) rfl hls rfl hd (by omega) (show 2 * 0 + (rest.map fun v => v.category).sum + 12 ≤ R.locals by omega) (kk H locs (fun v hv => by cases hv) hH hl')
set_option maxHeartbeats 1000000 in
theorem nb_cs_901 {k : Int} (hl : Cond.methodLink (nb_onm own) idx ⟨"java/lang/String", "length", "()I"⟩ ∈ nb_Ts) (hlv : 9 ≤ lv) (hk : 0 < (nb_txts.getD k.toNat []).length) : nb_CS l own lv (.invokevirtual idx) [(2, k)] M ([(0, ((nb_txts.getD k.toNat []).length : Int))], M) := by
  intro p e R s m args below meth c E z0 z1 pc Q ls H locs rest hx hls hown hS hRf hRl hRc hz hd hrest hok hH hl' kk
  have ht : ∀ w ∈ nb_Ts, w.before args s = true := hS.1.use
  have hk' : 1 ≤ k.toNat ∧ k.toNat < nb_txts.length := by
    have hpos : 0 < (nb_txts.getD k.toNat []).length := by omega
    constructor
    · rcases Nat.eq_zero_or_pos k.toNat with q | q
      · rw [q] at hpos
        exact absurd hpos (by decide)
      · exact q
    · rcases Nat.lt_or_ge k.toNat nb_txts.length with q | q
      · exact q
      · rw [List.getD_eq_getElem?_getD, List.getElem?_eq_none q] at hpos
        exact absurd hpos (by decide)
  have hRc' : nb_cz M - z0 ≤ R.cells ∧ nb_sz M - z1 ≤ R.slots := hRc
  have hHq : ∀ q, q < E.2.1 → H[q]? = E.2.2.1[q]? := hH.2.2.1
  have hJ := hS.2.2.2.2.1.2
  obtain ⟨adV, j1, j2, j3, j4⟩ := hJ.1 k.toNat hk'.1 hk'.2
  have hrecv : ∃ cellB : Cell, H[E.2.2.2.2.2 k.toNat]? = some cellB ∧ cellB.vm.isStatics = false ∧ s.vm.findClass "java/lang/String" = some cellB.cls := by
    obtain ⟨cell, h1, h2, h3, -⟩ := va_O.kept j1 (nb_kept hHq)
    exact ⟨cell, h1, h2, h3⟩
  refine W.callR (r := Int32.ofInt ((nb_txts.getD k.toNat []).length : Int)) (W.runV (index := idx) (n := 0) (b := E.2.2.2.2.2 k.toNat) (As := []) (rest := rest) (C := "java/lang/String") (⟨hx, rfl, rfl, hown, ht⟩ : CallFix p m c c.code c.maxLocals s args nb_Ts (nb_onm own)) (nb_j_length l (E := E) hk') (cwV (C := "java/lang/String") 0 ht (fun w hw => by
      have hw' : w ∈ nb_Ts := by
        simp only [wsV, List.mem_append, List.mem_cons, List.not_mem_nil, or_false] at hw
        rcases hw with (rfl | rfl | rfl | rfl) | rfl
        · exact hl
        · exact nb_in_Ts (j := 3032) (by decide +kernel)
        · exact nb_in_Ts (j := 3033) (by decide +kernel)
        · exact nb_in_Ts (j := 1011) (by decide +kernel)
        · exact nb_in_Ts (j := 3034) (by decide +kernel)
      exact ⟨hw', nb_Ts_good hw'⟩) rfl rfl rfl ⟨rfl, by decide +kernel, by decide +kernel, by decide +kernel⟩ ⟨by show 2 + 1 ≤ R.frames; omega, by show 8 + (1 + 11) + 100 * 2 ≤ R.locals; omega⟩) ⟨nb_jp_blind E _, hrecv, fun U hU hW => ⟨rfl, hS.warm hW, fun q hq => by rw [hU]; exact hHq q hq⟩⟩ rfl rfl hls rfl (by simpa using hrest) hd ⟨by omega, by omega⟩) ?_
  exact kk H locs (fun v hv => by rw [List.mem_singleton.mp hv]; exact ⟨by omega, by have := (nb_txt_len k.toNat hk'.2).2; omega⟩) hH hl'
set_option maxHeartbeats 1000000 in
theorem nb_cs_902 {k i : Int} (hl : Cond.methodLink (nb_onm own) idx ⟨"java/lang/String", "charAt", "(I)C"⟩ ∈ nb_Ts) (hlv : 9 ≤ lv) (hk : 0 ≤ i ∧ i < ((nb_txts.getD k.toNat []).length : Int)) : nb_CS l own lv (.invokevirtual idx) [(2, k), (0, i)] M ([(0, ((nb_txts.getD k.toNat []).getD i.toNat 0))], M) := by
  intro p e R s m args below meth c E z0 z1 pc Q ls H locs rest hx hls hown hS hRf hRl hRc hz hd hrest hok hH hl' kk
  have ht : ∀ w ∈ nb_Ts, w.before args s = true := hS.1.use
  have hk' : 1 ≤ k.toNat ∧ k.toNat < nb_txts.length := by
    have hpos : 0 < (nb_txts.getD k.toNat []).length := by omega
    constructor
    · rcases Nat.eq_zero_or_pos k.toNat with q | q
      · rw [q] at hpos
        exact absurd hpos (by decide)
      · exact q
    · rcases Nat.lt_or_ge k.toNat nb_txts.length with q | q
      · exact q
      · rw [List.getD_eq_getElem?_getD, List.getElem?_eq_none q] at hpos
        exact absurd hpos (by decide)
  have hRc' : nb_cz M - z0 ≤ R.cells ∧ nb_sz M - z1 ≤ R.slots := hRc
  have hHq : ∀ q, q < E.2.1 → H[q]? = E.2.2.1[q]? := hH.2.2.1
  have hJ := hS.2.2.2.2.1.2
  obtain ⟨adV, j1, j2, j3, j4⟩ := hJ.1 k.toNat hk'.1 hk'.2
  have hrecv : ∃ cellB : Cell, H[E.2.2.2.2.2 k.toNat]? = some cellB ∧ cellB.vm.isStatics = false ∧ s.vm.findClass "java/lang/String" = some cellB.cls := by
    obtain ⟨cell, h1, h2, h3, -⟩ := va_O.kept j1 (nb_kept hHq)
    exact ⟨cell, h1, h2, h3⟩
  obtain ⟨i', rfl⟩ : ∃ i' : Nat, i = (i' : Int) := ⟨i.toNat, by omega⟩
  rw [show ((i' : Int)).toNat = i' by omega] at kk
  have hi' : i' < (nb_txts.getD k.toNat []).length := by omega
  refine W.callR (r := Int32.ofInt ((nb_txts.getD k.toNat []).getD i' 0)) (W.runV (index := idx) (n := 1) (b := E.2.2.2.2.2 k.toNat) (As := [.int (Int32.ofInt (i' : Int))]) (rest := rest) (C := "java/lang/String") (⟨hx, rfl, rfl, hown, ht⟩ : CallFix p m c c.code c.maxLocals s args nb_Ts (nb_onm own)) (nb_j_charAt l (E := E) hk' hi') (cwV (C := "java/lang/String") 1 ht (fun w hw => by
      have hw' : w ∈ nb_Ts := by
        simp only [wsV, List.mem_append, List.mem_cons, List.not_mem_nil, or_false] at hw
        rcases hw with (rfl | rfl | rfl | rfl) | rfl
        · exact hl
        · exact nb_in_Ts (j := 3042) (by decide +kernel)
        · exact nb_in_Ts (j := 3043) (by decide +kernel)
        · exact nb_in_Ts (j := 1011) (by decide +kernel)
        · exact nb_in_Ts (j := 3044) (by decide +kernel)
      exact ⟨hw', nb_Ts_good hw'⟩) rfl rfl rfl ⟨rfl, by decide +kernel, by decide +kernel, by decide +kernel⟩ ⟨by show 4 + 1 ≤ R.frames; omega, by show 8 + (2 + 11) + 100 * 4 ≤ R.locals; omega⟩) ⟨nb_jp_blind E _, hrecv, fun U hU hW => ⟨rfl, hS.warm hW, fun q hq => by rw [hU]; exact hHq q hq⟩⟩ rfl rfl hls rfl (by simpa using hrest) hd ⟨by omega, by omega⟩) ?_
  exact kk H locs (fun v hv => by rw [List.mem_singleton.mp hv]; exact (nb_txt_chr k.toNat hk'.2 _ (nb_getD_mem hi')).2.2) hH hl'
set_option maxHeartbeats 1000000 in
theorem nb_cs_903 {a i b j n : Int} (hl : Cond.methodLink (nb_onm own) idx arraycopyName ∈ nb_Ts) (hlv : 2 ≤ lv) (hc : 2 ≤ a ∧ 2 ≤ b ∧ a ≠ b ∧ 0 ≤ i ∧ 0 ≤ j ∧ 0 ≤ n ∧ i + n ≤ nb_ln M a ∧ j + n ≤ nb_ln M b) : nb_CS l own lv (.invokestatic idx) [(3, a), (0, i), (3, b), (0, j), (0, n)] M ([], nb_cpy M a i b j n) := by
  intro p e R s m args below meth c E z0 z1 pc Q ls H locs rest hx hls hown hS hRf hRl hRc hz hd hrest hok hH hl' kk
  have ht : ∀ w ∈ nb_Ts, w.before args s = true := hS.1.use
  obtain ⟨c1, c2, c3, c4, c5, c6, c7, c8⟩ := hc
  have oka : nb_ok M (0 + 3, a) := hok (3, a) (by simp)
  have okb : nb_ok M (0 + 3, b) := hok (3, b) (by simp)
  have oki : nb_ok M (0, i) := hok (0, i) (by simp)
  have okj : nb_ok M (0, j) := hok (0, j) (by simp)
  have okn : nb_ok M (0, n) := hok (0, n) (by simp)
  obtain ⟨A, na, rfl, hA, sa, -, na31, ⟨cs, a1, a2, a3, a4, -, a6⟩, la⟩ := nb_cell_of hH oka (by omega) (by omega)
  obtain ⟨B, nb, rfl, hB, sb, -, nb31, ⟨cd, b1, b2, b3, b4, -, b6⟩, lb⟩ := nb_cell_of hH okb (by omega) (by omega)
  rw [la] at c7
  rw [lb] at c8
  obtain ⟨kA, comp, kc, k1, k2, -⟩ := hS.2.2.1 0 (by decide)
  obtain ⟨i, rfl⟩ : ∃ i' : Nat, i = (i' : Int) := ⟨i.toNat, by omega⟩
  obtain ⟨j, rfl⟩ : ∃ i' : Nat, j = (i' : Int) := ⟨j.toNat, by omega⟩
  obtain ⟨n, rfl⟩ : ∃ i' : Nat, n = (i' : Int) := ⟨n.toNat, by omega⟩
  have neg : ∀ x : Nat, (x : Int) < 2147483648 → ¬ Int32.ofInt (x : Int) < 0 := by
    intro x hx q
    have := (nb_lt32 (x := (x : Int)) (y := 0) (by omega) (by decide)).mp q
    omega
  have hv : ∀ {k : Nat} {w : Int}, w ≠ 0 → nb_val E (3 + k, w) = .ref (nb_ad E w) := fun h => nb_val_ref E (by omega) h
  have e0 : (([(3, (A : Int)), (0, (i : Int)), (3, (B : Int)), (0, (j : Int)), (0, (n : Int))] : List nb_V).map (nb_val E)).reverse ++ rest = .int (Int32.ofInt (n : Int)) :: .int (Int32.ofInt (j : Int)) :: .ref (nb_ad E (B : Int)) :: .int (Int32.ofInt (i : Int)) :: .ref (nb_ad E (A : Int)) :: rest := by
    rw [← hv (k := 0) (w := (A : Int)) (by omega), ← hv (k := 0) (w := (B : Int)) (by omega)]
    rfl
  rw [e0]
  intro T hT X
  have i31 : (i : Int) < 2147483648 := oki.2
  have j31 : (j : Int) < 2147483648 := okj.2
  have n31 : (n : Int) < 2147483648 := okn.2
  obtain ⟨vm', X', step⟩ := X.arraycopy hx hown (ht _ hl) (ht _ (nb_in_Ts (j := 4002) (by decide +kernel))) (ht _ (nb_in_Ts (j := 4001) (by decide +kernel))) (ht _ (nb_in_Ts (j := 1016) (by decide +kernel))) (src := nb_ad E (A : Int)) (dst := nb_ad E (B : Int)) (cs := cs) (cd := cd) (srcPos := Int32.ofInt (i : Int)) (destPos := Int32.ofInt (j : Int)) (n := Int32.ofInt (n : Int)) (ks := kA) (kd := kA) (sComp := comp) (dComp := comp) (sType := .int) (dType := .int) (by rw [hT]; exact a1) (by rw [hT]; exact b1)
    (fun k q => by rw [a2] at q; cases q) (fun k q => by rw [b2] at q; cases q) (fun q => by rw [a2] at q; cases q) (fun q => by rw [b2] at q; cases q) (by rw [a3]; exact k1) (by rw [b3]; exact k1) k2 k2 (by decide) (neg i i31) (neg j j31) (neg n n31)
    (by rw [nb_i32 oki, nb_i32 okn, a4 (by decide)]; omega) (by rw [nb_i32 okj, nb_i32 okn, b4 (by decide)]; omega)
    (fun vm₁ _ q hq => by
      rw [nb_clamp okn] at hq
      rw [nb_clamp oki]
      have a7 := (a6 (i + q) (by omega)).1
      rw [nb_slot0 E (by decide)] at a7
      rw [show ((i : Int).toNat + q) = i + q by omega, Array.getD_eq_getD_getElem?, a7]
      exact ⟨rfl, trivial⟩)
    (g := F0 m pc ls (.int (Int32.ofInt (n : Int)) :: .int (Int32.ofInt (j : Int)) :: .ref (nb_ad E (B : Int)) :: .int (Int32.ofInt (i : Int)) :: .ref (nb_ad E (A : Int)) :: rest)) rfl hls (rest := rest) rfl hd (by omega) (by
      have hw : nativeFrameWords "java/lang/System" "arraycopy" 5 = 7 := by decide +kernel
      rw [hw]
      show 2 * 0 + _ + _ ≤ _
      omega)
  rw [copied, nb_clamp oki, nb_clamp okj, nb_clamp okn] at X' step
  rw [show (i : Int).toNat = i by omega, show (j : Int).toNat = j by omega, show (n : Int).toNat = n by omega] at X' step
  have hl2 : nb_ad E (B : Int) < H.size := (Array.getElem?_eq_some_iff.mp b1).1
  have hheap : ((T.setVm vm').setCell (nb_ad E (B : Int)) (cd.storeRun j (cs.stretch i n))).heap = H.setIfInBounds (nb_ad E (B : Int)) (cd.storeRun j (cs.stretch i n)) := by rw [← hT]; rfl
  obtain ⟨t, t1, t2⟩ := kk _ _ (fun v hv => by cases hv) (nb_H_cpy (H' := H.setIfInBounds (nb_ad E (B : Int)) (cd.storeRun j (cs.stretch i n))) hH hA hB (by omega) sa sb (by omega) (by omega) a1 b1 (by simp [Array.getElem?_setIfInBounds, hl2]) (by simp) (fun q hq => by simp [Array.getElem?_setIfInBounds, Ne.symm hq])) (fun q hq => by
      rcases List.mem_append.mp hq with h | h
      · exact hl' q h
      · obtain ⟨z, -, hz⟩ := List.mem_map.mp h
        rw [← hz]
        show E.2.1 ≤ nb_ad E (B : Int)
        rw [nb_ad2 E hB]
        omega) _ hheap X'
  exact ⟨t, step t t1, t2⟩
theorem nb_cs_905 {x y : Int} (hl : Cond.methodLink (nb_onm own) idx Lib.Math.max.name ∈ nb_Ts) (hlv : 2 ≤ lv) : nb_CS l own lv (.invokestatic idx) [(0, x), (0, y)] M ([(0, (if x < y then y else x))], M) := by
  intro p e R s m args below meth c E z0 z1 pc Q ls H locs rest hx hls hown hS hRf hRl hRc hz hd hrest hok hH hl' kk
  have ht : ∀ w ∈ nb_Ts, w.before args s = true := hS.1.use
  have okx : nb_ok M (0, x) := hok (0, x) (by simp)
  have oky : nb_ok M (0, y) := hok (0, y) (by simp)
  have hv : Value.int (if Int32.ofInt x < Int32.ofInt y then Int32.ofInt y else Int32.ofInt x) = nb_val E (0, if x < y then y else x) := by
    by_cases q : x < y
    · rw [if_pos q, if_pos ((nb_lt32 okx oky).mpr q)]
      rfl
    · rw [if_neg q, if_neg (fun w => q ((nb_lt32 okx oky).mp w))]
      rfl
  have okr : nb_ok M (0, (if x < y then y else x)) := by
      by_cases q : x < y
      · rw [if_pos q]; exact oky
      · rw [if_neg q]; exact okx
  have hgo := kk H locs (fun v hv' => by rw [List.mem_singleton.mp hv']; exact okr) hH hl'
  rw [show ([(0, (if x < y then y else x))] : List nb_V).map (nb_val E) = [nb_val E (0, (if x < y then y else x))] from rfl, ← hv] at hgo
  exact va_mmax hx rfl hls.symm hown (ht _ hl) (ht _ (nb_in_Ts (j := 4037) (by decide +kernel))) (ht _ (nb_in_Ts (j := 1017) (by decide +kernel))) (ht _ (nb_in_Ts (j := 4038) (by decide +kernel))) (by omega) (show (rest.map fun v => v.category).sum + 13 ≤ R.locals by omega) hRc.1 hRc.2 hd hgo
theorem nb_cs_906 {x y : Int} (hl : Cond.methodLink (nb_onm own) idx Lib.Math.min.name ∈ nb_Ts) (hlv : 2 ≤ lv) : nb_CS l own lv (.invokestatic idx) [(0, x), (0, y)] M ([(0, (if y < x then y else x))], M) := by
  intro p e R s m args below meth c E z0 z1 pc Q ls H locs rest hx hls hown hS hRf hRl hRc hz hd hrest hok hH hl' kk
  have ht : ∀ w ∈ nb_Ts, w.before args s = true := hS.1.use
  have okx : nb_ok M (0, x) := hok (0, x) (by simp)
  have oky : nb_ok M (0, y) := hok (0, y) (by simp)
  have hv : Value.int (if Int32.ofInt y < Int32.ofInt x then Int32.ofInt y else Int32.ofInt x) = nb_val E (0, if y < x then y else x) := by
    by_cases q : y < x
    · rw [if_pos q, if_pos ((nb_lt32 oky okx).mpr q)]
      rfl
    · rw [if_neg q, if_neg (fun w => q ((nb_lt32 oky okx).mp w))]
      rfl
  have okr : nb_ok M (0, (if y < x then y else x)) := by
      by_cases q : y < x
      · rw [if_pos q]; exact oky
      · rw [if_neg q]; exact okx
  have hgo := kk H locs (fun v hv' => by rw [List.mem_singleton.mp hv']; exact okr) hH hl'
  rw [show ([(0, (if y < x then y else x))] : List nb_V).map (nb_val E) = [nb_val E (0, (if y < x then y else x))] from rfl, ← hv] at hgo
  exact va_mmin hx rfl hls.symm hown (ht _ hl) (ht _ (nb_in_Ts (j := 4040) (by decide +kernel))) (ht _ (nb_in_Ts (j := 1017) (by decide +kernel))) (ht _ (nb_in_Ts (j := 4041) (by decide +kernel))) (by omega) (show (rest.map fun v => v.category).sum + 13 ≤ R.locals by omega) hRc.1 hRc.2 hd hgo
theorem nb_cs_907 {x : Int} (hl : Cond.methodLink (nb_onm own) idx Lib.Math.abs.name ∈ nb_Ts) (hlv : 2 ≤ lv) : nb_CS l own lv (.invokestatic idx) [(0, x)] M ([(0, (if 0 ≤ x then x else nb_neg x))], M) := by
  intro p e R s m args below meth c E z0 z1 pc Q ls H locs rest hx hls hown hS hRf hRl hRc hz hd hrest hok hH hl' kk
  have ht : ∀ w ∈ nb_Ts, w.before args s = true := hS.1.use
  have okx : nb_ok M (0, x) := hok (0, x) (by simp)
  have z32 : -2147483648 ≤ (0 : Int) ∧ (0 : Int) < 2147483648 := by decide
  have h0 : (0 : Int32) ≤ Int32.ofInt x ↔ 0 ≤ x := nb_le32 (x := 0) (y := x) z32 okx
  have hv : Value.int (if 0 ≤ Int32.ofInt x then Int32.ofInt x else 0 - Int32.ofInt x) = nb_val E (0, if 0 ≤ x then x else nb_neg x) := by
    by_cases q : 0 ≤ x
    · rw [if_pos q, if_pos (h0.mpr q)]
      rfl
    · rw [if_neg q, if_neg (fun w => q (h0.mp w))]
      show _ = nb_val E (0, (- Int32.ofInt x).toInt)
      rw [nb_val_i, Int32.zero_sub]
  have okr : nb_ok M (0, (if 0 ≤ x then x else nb_neg x)) := by
      by_cases q : 0 ≤ x
      · rw [if_pos q]; exact okx
      · rw [if_neg q]; exact nb_ok_i M _
  have hgo := kk H locs (fun v hv' => by rw [List.mem_singleton.mp hv']; exact okr) hH hl'
  rw [show ([(0, (if 0 ≤ x then x else nb_neg x))] : List nb_V).map (nb_val E) = [nb_val E (0, (if 0 ≤ x then x else nb_neg x))] from rfl, ← hv] at hgo
  exact va_mabs hx rfl hls.symm hown (ht _ hl) (ht _ (nb_in_Ts (j := 4128) (by decide +kernel))) (ht _ (nb_in_Ts (j := 1017) (by decide +kernel))) (ht _ (nb_in_Ts (j := 4129) (by decide +kernel))) (by omega) (show (rest.map fun v => v.category).sum + 13 ≤ R.locals by omega) hRc.1 hRc.2 hd hgo
end NBP
