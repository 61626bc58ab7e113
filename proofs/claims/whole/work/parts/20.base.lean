/-! SOUNDNESS, the ground: words and values, memory and heap -/
theorem nb_i32 {x : Int} (h : -2147483648 ≤ x ∧ x < 2147483648) : (Int32.ofInt x).toInt = x := Int32.toInt_ofInt_of_le (by omega) (by omega)
theorem nb_i64 {x : Int} (h : -9223372036854775808 ≤ x ∧ x < 9223372036854775808) : (Int64.ofInt x).toInt = x := Int64.toInt_ofInt_of_le (by omega) (by omega)
theorem nb_r32 (v : Int32) : -2147483648 ≤ v.toInt ∧ v.toInt < 2147483648 := ⟨Int32.le_toInt v, Int32.toInt_lt v⟩
theorem nb_r64 (v : Int64) : -9223372036854775808 ≤ v.toInt ∧ v.toInt < 9223372036854775808 := ⟨Int64.le_toInt v, Int64.toInt_lt v⟩
theorem nb_o32 (v : Int32) : Int32.ofInt v.toInt = v := Int32.ofInt_toInt v
theorem nb_o64 (v : Int64) : Int64.ofInt v.toInt = v := Int64.ofInt_toInt v
theorem nb_eq32 {x y : Int} (hx : -2147483648 ≤ x ∧ x < 2147483648) (hy : -2147483648 ≤ y ∧ y < 2147483648) : Int32.ofInt x = Int32.ofInt y ↔ x = y := ⟨fun h => by rw [← nb_i32 hx, ← nb_i32 hy, h], fun h => by rw [h]⟩
theorem nb_lt32 {x y : Int} (hx : -2147483648 ≤ x ∧ x < 2147483648) (hy : -2147483648 ≤ y ∧ y < 2147483648) : Int32.ofInt x < Int32.ofInt y ↔ x < y := by
  rw [Int32.lt_iff_toInt_lt, nb_i32 hx, nb_i32 hy]
theorem nb_le32 {x y : Int} (hx : -2147483648 ≤ x ∧ x < 2147483648) (hy : -2147483648 ≤ y ∧ y < 2147483648) : Int32.ofInt x ≤ Int32.ofInt y ↔ x ≤ y := by
  rw [Int32.le_iff_toInt_le, nb_i32 hx, nb_i32 hy]
theorem nb_clamp {x : Int} (hx : -2147483648 ≤ x ∧ x < 2147483648) : (Int32.ofInt x).toNatClampNeg = x.toNat := by
  show (Int32.ofInt x).toInt.toNat = _
  rw [nb_i32 hx]
/-- where a program stands in a heap: the script's cell, the first own one, the heap as it was, class numbers by kinds, slots by classes and places, the texts' cells -/
abbrev nb_E : Type := Nat × Nat × Heap × (Nat → ClassId) × (Nat → Nat → Nat) × (Nat → Nat)
def nb_ad (E : nb_E) (w : Int) : Nat := if w = 1 then E.1 else E.2.1 + (w.toNat - 2)
def nb_val (E : nb_E) (v : nb_V) : Value := match v.1 with
  | 0 => .int (Int32.ofInt v.2)
  | 1 => .long (Int64.ofInt v.2)
  | 2 => .ref (E.2.2.2.2.2 v.2.toNat)
  | _ => if v.2 = 0 then .null else .ref (nb_ad E v.2)
def nb_ok (M : nb_M) (v : nb_V) : Prop := match v.1 with
  | 0 => -2147483648 ≤ v.2 ∧ v.2 < 2147483648
  | 1 => -9223372036854775808 ≤ v.2 ∧ v.2 < 9223372036854775808
  | 2 => True
  | t + 3 => v.2 = 0 ∨ (1 ≤ v.2 ∧ ∃ n, M.2.1[v.2.toNat]? = some (t, n))
theorem nb_val_cat (E : nb_E) (v : nb_V) : (nb_val E v).category = if v.1 = 1 then 2 else 1 := by
  obtain ⟨t, w⟩ := v
  match t with
  | 0 => rfl
  | 1 => rfl
  | 2 => rfl
  | t + 3 =>
    show (if w = 0 then Value.null else Value.ref (nb_ad E w)).category = if t + 3 = 1 then 2 else 1
    have h1 : ¬ (t + 3 = 1) := by omega
    rw [if_neg h1]
    by_cases hw : w = 0
    · rw [if_pos hw]
      rfl
    · rw [if_neg hw]
      rfl
theorem nb_val_ref (E : nb_E) {t : Nat} (ht : 3 ≤ t) {w : Int} (hw : w ≠ 0) : nb_val E (t, w) = .ref (nb_ad E w) := by
  match t, ht with
  | t + 3, _ =>
    show (if w = 0 then Value.null else Value.ref (nb_ad E w)) = _
    rw [if_neg hw]
/-- locals as the machine has them -/
def nb_LR (E : nb_E) (M : nb_M) (ls : Array Slot) (L : List nb_V) : Prop := ls.size = L.length ∧ lv_wf ls ∧ (∀ (j : Nat) (v : nb_V), L[j]? = some v → v.1 < 90 → ls[j]? = some (.val (nb_val E v))) ∧ ∀ v ∈ L, nb_ok M v
def nb_asc (E : nb_E) (L : List nb_V) : List (Nat × Value) := (List.range L.length).filterMap fun j => (L[j]?).bind fun v => if v.1 < 90 then some (j, nb_val E v) else none
theorem nb_asc_mem {E : nb_E} {L : List nb_V} {j : Nat} {v : nb_V} (h : L[j]? = some v) (hv : v.1 < 90) : (j, nb_val E v) ∈ nb_asc E L := by
  have hj : j < L.length := (List.getElem?_eq_some_iff.mp h).1
  refine List.mem_filterMap.mpr ⟨j, List.mem_range.mpr hj, ?_⟩
  rw [h]
  simp [hv]
theorem nb_asc_of {E : nb_E} {L : List nb_V} {q : Nat × Value} (h : q ∈ nb_asc E L) : ∃ v, L[q.1]? = some v ∧ v.1 < 90 ∧ q.2 = nb_val E v := by
  obtain ⟨j, -, hj⟩ := List.mem_filterMap.mp h
  cases hL : L[j]? with
  | none => rw [hL] at hj; cases hj
  | some v =>
    rw [hL] at hj
    simp only [Option.bind_some] at hj
    split at hj
    · rename_i hv
      cases hj
      exact ⟨v, hL, hv, rfl⟩
    · cases hj
theorem nb_LR.has {E : nb_E} {M : nb_M} {ls : Array Slot} {L : List nb_V} (h : nb_LR E M ls L) : lv_has ls L.length (nb_asc E L) := ⟨h.1, h.2.1, fun q hq => by
  obtain ⟨v, h1, h2, h3⟩ := nb_asc_of hq
  rw [h3]
  exact h.2.2.1 q.1 v h1 h2⟩
theorem nb_put_get {L : List nb_V} {n : Nat} {v : nb_V} (hn : n < L.length) (j : Nat) : (nb_put L n v)[j]? = if j = n then some v else if j + 1 = n then (L[j]?).map nb_clr else L[j]? := by
  cases n with
  | zero =>
    show (L.set 0 v)[j]? = _
    by_cases hj : j = 0
    · subst hj
      simp [hn]
    · rw [if_neg hj, if_neg (by omega), List.getElem?_set_ne (by omega)]
  | succ n =>
    show ((L.set n (nb_clr (L.getD n (98, 0)))).set (n + 1) v)[j]? = _
    by_cases hj : j = n + 1
    · subst hj
      rw [if_pos rfl, List.getElem?_set_self (by simpa using hn)]
    · rw [if_neg hj, List.getElem?_set_ne (by omega)]
      by_cases hk : j = n
      · subst hk
        rw [if_pos rfl, List.getElem?_set_self (by omega), List.getD_eq_getElem?_getD, List.getElem?_eq_getElem (by omega)]
        rfl
      · rw [if_neg (by omega), List.getElem?_set_ne (by omega)]
theorem nb_put_len (L : List nb_V) (n : Nat) (v : nb_V) : (nb_put L n v).length = L.length := by
  cases n <;> simp [nb_put]
theorem nb_clr_ok {M : nb_M} {v : nb_V} (h : nb_ok M v) : nb_ok M (nb_clr v) := by
  unfold nb_clr
  split
  · exact Or.inl rfl
  · exact h
/-- a store of one word -/
theorem nb_LR_put {E : nb_E} {M : nb_M} {ls ls' : Array Slot} {L : List nb_V} {n : Nat} {v : nb_V} (h : nb_LR E M ls L) (hn : n < L.length) (hv : nb_ok M v) (h' : lv_has ls' L.length ((n, nb_val E v) :: (nb_asc E L).filter (fun q => !(q.1 == n) && !(q.1 + 1 == n && q.2.category == 2)))) : nb_LR E M ls' (nb_put L n v) := by
  refine ⟨by rw [nb_put_len]; exact h'.1, h'.2.1, fun j u hj hu => ?_, fun u hu => ?_⟩
  · rw [nb_put_get hn] at hj
    by_cases hjn : j = n
    · rw [if_pos hjn] at hj
      cases hj
      rw [hjn]
      exact h'.2.2 (n, nb_val E v) List.mem_cons_self
    · rw [if_neg hjn] at hj
      have key : ∀ w : nb_V, L[j]? = some w → w.1 < 90 → (j + 1 = n → w.1 ≠ 1) → ls'[j]? = some (.val (nb_val E w)) := by
        intro w hw hw9 hwn
        refine h'.2.2 (j, nb_val E w) (List.mem_cons_of_mem _ (List.mem_filter.mpr ⟨nb_asc_mem hw hw9, ?_⟩))
        simp only [Bool.and_eq_true, Bool.not_eq_true', beq_eq_false_iff_ne, ne_eq, Bool.and_eq_false_iff]
        refine ⟨hjn, ?_⟩
        by_cases hj1 : j + 1 = n
        · right
          rw [nb_val_cat, if_neg (hwn hj1)]
          decide
        · left
          exact hj1
      by_cases hj1 : j + 1 = n
      · rw [if_pos hj1] at hj
        cases hw : L[j]? with
        | none => rw [hw] at hj; cases hj
        | some w =>
          rw [hw] at hj
          have hj2 : nb_clr w = u := Option.some.inj hj
          unfold nb_clr at hj2
          split at hj2
          · rw [← hj2] at hu
            exact absurd hu (by decide)
          · rename_i hw1
            rw [← hj2] at hu ⊢
            exact key w hw hu (fun _ => hw1)
      · rw [if_neg hj1] at hj
        exact key u hj hu (fun q => absurd q hj1)
  · obtain ⟨j, hj⟩ := List.getElem?_of_mem hu
    rw [nb_put_get hn] at hj
    split at hj
    · cases hj
      exact hv
    · split at hj
      · cases hw : L[j]? with
        | none => rw [hw] at hj; cases hj
        | some w =>
          rw [hw] at hj
          have hj2 : nb_clr w = u := Option.some.inj hj
          rw [← hj2]
          exact nb_clr_ok (h.2.2.2 w (List.mem_of_getElem? hw))
      · exact h.2.2.2 u (List.mem_of_getElem? hj)
/-- a store of a long -/
theorem nb_LR_put2 {E : nb_E} {M : nb_M} {ls ls' : Array Slot} {L : List nb_V} {n : Nat} {v : nb_V} (h : nb_LR E M ls L) (hn : n + 1 < L.length) (hv : nb_ok M v) (h' : lv_has ls' L.length ((n, nb_val E v) :: (nb_asc E L).filter (fun q => !(q.1 == n) && (!(q.1 == n + 1) && !(q.1 + 1 == n && q.2.category == 2))))) : nb_LR E M ls' ((nb_put L n v).set (n + 1) (98, 0)) := by
  have hn' : n < L.length := by omega
  refine ⟨by rw [List.length_set, nb_put_len]; exact h'.1, h'.2.1, fun j u hj hu => ?_, fun u hu => ?_⟩
  · by_cases hjn1 : j = n + 1
    · subst hjn1
      rw [List.getElem?_set_self (by rw [nb_put_len]; exact hn)] at hj
      cases hj
      exact absurd hu (by decide)
    rw [List.getElem?_set_ne (by omega), nb_put_get hn'] at hj
    by_cases hjn : j = n
    · rw [if_pos hjn] at hj
      cases hj
      rw [hjn]
      exact h'.2.2 (n, nb_val E v) List.mem_cons_self
    · rw [if_neg hjn] at hj
      have key : ∀ w : nb_V, L[j]? = some w → w.1 < 90 → (j + 1 = n → w.1 ≠ 1) → ls'[j]? = some (.val (nb_val E w)) := by
        intro w hw hw9 hwn
        refine h'.2.2 (j, nb_val E w) (List.mem_cons_of_mem _ (List.mem_filter.mpr ⟨nb_asc_mem hw hw9, ?_⟩))
        simp only [Bool.and_eq_true, Bool.not_eq_true', beq_eq_false_iff_ne, ne_eq, Bool.and_eq_false_iff]
        refine ⟨hjn, hjn1, ?_⟩
        by_cases hj1 : j + 1 = n
        · right
          rw [nb_val_cat, if_neg (hwn hj1)]
          decide
        · left
          exact hj1
      by_cases hj1 : j + 1 = n
      · rw [if_pos hj1] at hj
        cases hw : L[j]? with
        | none => rw [hw] at hj; cases hj
        | some w =>
          rw [hw] at hj
          have hj2 : nb_clr w = u := Option.some.inj hj
          unfold nb_clr at hj2
          split at hj2
          · rw [← hj2] at hu
            exact absurd hu (by decide)
          · rename_i hw1
            rw [← hj2] at hu ⊢
            exact key w hw hu (fun _ => hw1)
      · rw [if_neg hj1] at hj
        exact key u hj hu (fun q => absurd q hj1)
  · obtain ⟨j, hj⟩ := List.getElem?_of_mem hu
    by_cases hjn1 : j = n + 1
    · subst hjn1
      rw [List.getElem?_set_self (by rw [nb_put_len]; exact hn)] at hj
      cases hj
      exact Or.inl rfl
    rw [List.getElem?_set_ne (by omega), nb_put_get hn'] at hj
    split at hj
    · cases hj
      exact hv
    · split at hj
      · cases hw : L[j]? with
        | none => rw [hw] at hj; cases hj
        | some w =>
          rw [hw] at hj
          have hj2 : nb_clr w = u := Option.some.inj hj
          rw [← hj2]
          exact nb_clr_ok (h.2.2.2 w (List.mem_of_getElem? hw))
      · exact h.2.2.2 u (List.mem_of_getElem? hj)
/-- the tags of what lies in a cell of a kind -/
def nb_tag (k i : Nat) : Nat := match k with
  | 0 => 0
  | 1 => 0
  | 2 => 1
  | 3 => 0
  | 4 => 11
  | 5 => 16
  | 6 => 15
  | 7 => 3
  | k + 8 => ((nb_fts.getD k []).getD i (0, false)).1
def nb_slot (E : nb_E) (k i : Nat) : Nat := if k < 8 then i else E.2.2.2.2.1 (k - 8) i
def nb_cell (E : nb_E) (M : nb_M) (H : Heap) (a k n : Nat) : Prop := ∃ cell : Cell, H[nb_ad E (a : Int)]? = some cell ∧ cell.vm = .none ∧ cell.cls = E.2.2.2.1 k ∧ (k < 8 → cell.slots.size = n) ∧ (8 ≤ k → n = (nb_fts.getD (k - 8) []).length) ∧ ∀ i : Nat, i < n → cell.slots[nb_slot E k i]? = some (nb_val E (nb_tag k i, M.1 (a : Int) (i : Int))) ∧ nb_ok M (nb_tag k i, M.1 (a : Int) (i : Int))
/-- the script's cell -/
def nb_scr (E : nb_E) (M : nb_M) : Prop := E.1 < E.2.1 ∧ ∃ (n : Nat) (scr : Cell), M.2.1[1]? = some (0, n) ∧ n < 2147483648 ∧ E.2.2.1[E.1]? = some scr ∧ scr.vm ≠ .unknown ∧ scr.slots.size = n ∧ ∀ j : Nat, j < n → scr.slots[j]? = some (nb_val E (0, M.1 1 (j : Int))) ∧ nb_ok M (0, M.1 1 (j : Int))
def nb_H (E : nb_E) (M : nb_M) (H : Heap) : Prop := 2 ≤ M.2.1.length ∧ (E.2.1 + (M.2.1.length - 2) ≤ H.size ∧ (M.2.2.1 = 0 → H.size = E.2.1 + (M.2.1.length - 2))) ∧ (∀ q, q < E.2.1 → H[q]? = E.2.2.1[q]?) ∧ (∀ a k n : Nat, 2 ≤ a → M.2.1[a]? = some (k, n) → k < 18 ∧ n < 2147483648 ∧ nb_cell E M H a k n) ∧ (∀ a i : Int, (M.2.1.length : Int) ≤ a → M.1 a i = 0) ∧ nb_scr E M
theorem nb_ad2 (E : nb_E) {a : Nat} (h : 2 ≤ a) : nb_ad E (a : Int) = E.2.1 + (a - 2) := by
  unfold nb_ad
  rw [if_neg (by omega)]
  simp
theorem nb_ok_mono {M M' : nb_M} (h : ∀ (j : Nat) (q : Nat × Nat), M.2.1[j]? = some q → M'.2.1[j]? = some q) {v : nb_V} (hv : nb_ok M v) : nb_ok M' v := by
  obtain ⟨t, w⟩ := v
  match t, hv with
  | 0, hv => exact hv
  | 1, hv => exact hv
  | 2, hv => exact hv
  | t + 3, hv =>
    rcases hv with hv | ⟨h1, n, h2⟩
    · exact Or.inl hv
    · exact Or.inr ⟨h1, n, h _ _ h2⟩
theorem nb_ok_wr {M : nb_M} {a i x : Int} {v : nb_V} : nb_ok (nb_wr M a i x) v ↔ nb_ok M v := Iff.rfl
/-- a slot is written -/
theorem nb_H_wr {E : nb_E} {M : nb_M} {H H' : Heap} {a i k n : Nat} {x : Int} {cell : Cell} (h : nb_H E M H) (ha : 2 ≤ a) (hs : M.2.1[a]? = some (k, n)) (hi : i < n) (hapart : ∀ p q : Nat, p < n → q < n → p ≠ q → nb_slot E k p ≠ nb_slot E k q) (hcell : H[nb_ad E (a : Int)]? = some cell) (hok : nb_ok M (nb_tag k i, x))
    (e1 : H'[nb_ad E (a : Int)]? = some (cell.setSlot (nb_slot E k i) (nb_val E (nb_tag k i, x)))) (e2 : H'.size = H.size) (e3 : ∀ q, q ≠ nb_ad E (a : Int) → H'[q]? = H[q]?) : nb_H E (nb_wr M (a : Int) (i : Int) x) H' := by
  obtain ⟨h1, h2, h3, h4, h5, h6⟩ := h
  have hal : a < M.2.1.length := (List.getElem?_eq_some_iff.mp hs).1
  refine ⟨h1, by rw [e2]; exact h2, fun q hq => ?_, fun a' k' n' ha' hs' => ?_, fun a' i' ha' => ?_, ?_⟩
  · rw [e3 q (by rw [nb_ad2 E ha]; omega)]
    exact h3 q hq
  · obtain ⟨hk, hn', cell', c1, c2, c3, c4, c5, c6⟩ := h4 a' k' n' ha' hs'
    by_cases hab : a' = a
    · subst hab
      cases hs.symm.trans hs'
      cases hcell.symm.trans c1
      refine ⟨hk, hn', _, e1, c2, c3, fun hk8 => ?_, c5, fun j hj => ?_⟩
      · rw [← c4 hk8]
        simp [Cell.setSlot]
      · show _ ∧ nb_ok M _
        by_cases hji : j = i
        · subst hji
          have hx : (nb_wr M (a' : Int) (j : Int) x).1 (a' : Int) (j : Int) = x := if_pos ⟨rfl, rfl⟩
          rw [hx]
          refine ⟨?_, hok⟩
          have hlt := (Array.getElem?_eq_some_iff.mp (c6 j hj).1).1
          simp [Cell.setSlot, hlt]
        · have hx : (nb_wr M (a' : Int) (i : Int) x).1 (a' : Int) (j : Int) = M.1 (a' : Int) (j : Int) := if_neg (fun q => hji (by omega))
          rw [hx]
          refine ⟨?_, (c6 j hj).2⟩
          rw [← (c6 j hj).1]
          simp only [Cell.setSlot]
          rw [Array.getElem?_setIfInBounds_ne (hapart i j hi hj (fun q => hji q.symm))]
    · refine ⟨hk, hn', cell', ?_, c2, c3, c4, c5, fun j hj => ?_⟩
      · rw [e3 _ (by rw [nb_ad2 E ha, nb_ad2 E ha']; omega)]
        exact c1
      · have hx : (nb_wr M (a : Int) (i : Int) x).1 (a' : Int) (j : Int) = M.1 (a' : Int) (j : Int) := if_neg (fun q => hab (by omega))
        rw [hx]
        exact c6 j hj
  · have hx : (nb_wr M (a : Int) (i : Int) x).1 a' i' = M.1 a' i' := if_neg (fun q => by
      have : (M.2.1.length : Int) ≤ a' := ha'
      omega)
    rw [hx]
    exact h5 a' i' ha'
  · obtain ⟨g1, n', scr, g2, g3, g4, g5, g6, g7⟩ := h6
    refine ⟨g1, n', scr, g2, g3, g4, g5, g6, fun j hj => ?_⟩
    have hx : (nb_wr M (a : Int) (i : Int) x).1 1 (j : Int) = M.1 1 (j : Int) := if_neg (fun q => by omega)
    rw [hx]
    exact g7 j hj
/-- a cell is made -/
theorem nb_H_al {E : nb_E} {M : nb_M} {H H' : Heap} {k n : Nat} {cell : Cell} (h : nb_H E M H) (hj : M.2.2.1 = 0) (hk : k < 18) (hn : n < 2147483648) (e1 : H'[H.size]? = some cell) (e2 : H'.size = H.size + 1) (e3 : ∀ q, q < H.size → H'[q]? = H[q]?) (c2 : cell.vm = .none) (c3 : cell.cls = E.2.2.2.1 k) (c4 : k < 8 → cell.slots.size = n) (c5 : 8 ≤ k → n = (nb_fts.getD (k - 8) []).length)
    (c6 : ∀ i : Nat, i < n → cell.slots[nb_slot E k i]? = some (nb_val E (nb_tag k i, 0))) : nb_H E (nb_al M k n) H' ∧ nb_ad E (nb_nx M) = H.size := by
  obtain ⟨h1, h2, h3, h4, h5, h6⟩ := h
  have hnx : nb_ad E (nb_nx M) = H.size := by
    unfold nb_nx
    have := h2.2 hj
    rw [nb_ad2 E h1, this]
  have hsub : ∀ (j : Nat) (q : Nat × Nat), M.2.1[j]? = some q → (nb_al M k n).2.1[j]? = some q := by
    intro j q hq
    have hl := (List.getElem?_eq_some_iff.mp hq).1
    show (M.2.1 ++ [(k, n)])[j]? = _
    rw [List.getElem?_append_left hl]
    exact hq
  have hlen : (nb_al M k n).2.1.length = M.2.1.length + 1 := by
    show (M.2.1 ++ [(k, n)]).length = _
    simp
  have hok0 : ∀ t : Nat, nb_ok (nb_al M k n) (t, 0) := by
    intro t
    match t with
    | 0 => exact ⟨by decide, by decide⟩
    | 1 => exact ⟨by decide, by decide⟩
    | 2 => trivial
    | t + 3 => exact Or.inl rfl
  refine ⟨⟨by rw [hlen]; omega, ?_, fun q hq => ?_, fun a k' n' ha hs => ?_, fun a i ha => ?_, ?_⟩, hnx⟩
  · have := h2.2 hj
    rw [hlen, e2, this]
    exact ⟨by omega, fun _ => by omega⟩
  · rw [e3 q (by omega)]
    exact h3 q hq
  · by_cases hal : a < M.2.1.length
    · have hs0 : M.2.1[a]? = some (k', n') := by
        have : (M.2.1 ++ [(k, n)])[a]? = some (k', n') := hs
        rwa [List.getElem?_append_left hal] at this
      obtain ⟨g1, g2, cell', d1, d2, d3, d4, d5, d6⟩ := h4 a k' n' ha hs0
      refine ⟨g1, g2, cell', ?_, d2, d3, d4, d5, fun i hi => ⟨(d6 i hi).1, nb_ok_mono hsub (d6 i hi).2⟩⟩
      rw [e3 _ (Array.getElem?_eq_some_iff.mp d1).1]
      exact d1
    · have hs0 : (M.2.1 ++ [(k, n)])[a]? = some (k', n') := hs
      rw [List.getElem?_append_right (by omega)] at hs0
      have hz : a - M.2.1.length < 1 := (List.getElem?_eq_some_iff.mp hs0).1
      have haa : a = M.2.1.length := by omega
      rw [show a - M.2.1.length = 0 by omega] at hs0
      cases hs0
      refine ⟨hk, hn, cell, ?_, c2, c3, c4, c5, fun i hi => ?_⟩
      · have : nb_ad E (a : Int) = H.size := by rw [haa]; exact hnx
        rw [this]
        exact e1
      · have h0 : (nb_al M k n).1 (a : Int) (i : Int) = 0 := h5 _ _ (by omega)
        rw [h0]
        exact ⟨c6 i hi, hok0 _⟩
  · refine h5 a i ?_
    have : ((nb_al M k n).2.1.length : Int) ≤ a := ha
    rw [hlen] at this
    omega
  · obtain ⟨g1, n', scr, g2, g3, g4, g5, g6, g7⟩ := h6
    exact ⟨g1, n', scr, hsub _ _ g2, g3, g4, g5, g6, fun j hj => ⟨(g7 j hj).1, nb_ok_mono hsub (g7 j hj).2⟩⟩
