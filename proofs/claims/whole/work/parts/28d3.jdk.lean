/-! STRINGS: length and charAt of constants, printed by wip/gen/mkjdk.py -/
def nb_jp (E : nb_E) (as : List Value) : Array Value → State → Prop := fun a U => a = as.toArray ∧ nb_S E U ∧ ∀ q, q < E.2.1 → U.heap[q]? = E.2.2.1[q]?
theorem nb_jp_blind (E : nb_E) (as : List Value) : FrameBlind (nb_jp E as) := by
  intro a U g mk h
  exact ⟨h.1, nb_S.warm (State.WarmedH.refl U) h.2.1, h.2.2⟩
def nb_jpv (E : nb_E) (k adV : Nat) (as : List Value) : Array Value → State → Prop := fun a U => nb_jp E as a U ∧ va_T .byte adV (nb_txts.getD k []).length (fun j => .int (Int32.ofInt ((nb_txts.getD k []).getD j 0))) (fun q => E.2.1 ≤ q) U E.2.2.1
theorem nb_jpv_blind (E : nb_E) (k adV : Nat) (as : List Value) : FrameBlind (nb_jpv E k adV as) := by
  intro a U g mk h
  exact ⟨nb_jp_blind E as a U g mk h.1, va_T.moved (State.WarmedH.refl U).alike h.2⟩
def nb_QcV : Array Value → State → Outcome → State → Prop := fun _ st o t => o = .returned none ∧ t.heap = st.heap
def nb_rj (k : Nat) : Room := { frames := k, cells := 0, slots := 0, locals := 100 * k }
theorem nb_kept {E : nb_E} {H : Heap} (h : ∀ q, q < E.2.1 → H[q]? = E.2.2.1[q]?) : ∀ a : Nat, a < E.2.2.1.size → ¬ E.2.1 ≤ a → H[a]? = E.2.2.1[a]? := fun a _ q => h a (by omega)
theorem nb_getD_mem {l : List Int} {j : Nat} (h : j < l.length) : l.getD j 0 ∈ l := by
  rw [List.getD_eq_getElem?_getD, List.getElem?_eq_getElem h]
  exact List.getElem_mem h
theorem nb_txt_len : ∀ k, k < nb_txts.length → Int32.ofNat (nb_txts.getD k []).length >>> ((0 : Int32) &&& 31) = Int32.ofInt ((nb_txts.getD k []).length : Int) ∧ (nb_txts.getD k []).length < 128 := by decide +kernel
theorem nb_txt_chr : ∀ k, k < nb_txts.length → ∀ c ∈ nb_txts.getD k [], ((Int32.ofInt c &&& 255).toUInt32 % 65536).toInt32 = Int32.ofInt c ∧ narrow .char (.int (Int32.ofInt c)) = .int (Int32.ofInt c) ∧ -2147483648 ≤ c ∧ c < 2147483648 := by decide +kernel
set_option maxHeartbeats 1000000 in
theorem nb_j_coder (l : Launch) {E : nb_E} {k : Nat} (hk : 1 ≤ k ∧ k < nb_txts.length) : Met l yJ0_coder_7d493 [Cond.code yJ0_coder_7d493 cJ0_coder_7d493 1 (some .byte)] (nb_rj 1) (nb_jp E [.ref (E.2.2.2.2.2 k)]) (QcRead 0) 0 0 (fun _ => False) := by
  refine Met.ofW (cc := cJ0_coder_7d493) (maxL := 1) (ret := (some .byte)) (by decide +kernel) rfl ?_
  intro p e s m args below meth c s₁ B hml hv
  obtain ⟨rfl, hS, hH⟩ := hv
  have hx := B.exec
  have hb := B.bytes
  have hr := B.returns
  have hown : s.vm.findClass RJ0 = some m.cls := findClass_of_methodNamed B.named
  have hlocks := B.notSynchronized
  have ht : ∀ w ∈ nb_Ts, w.before ([.ref (E.2.2.2.2.2 k)] : List Value).toArray s = true := hS.1.use
  have hJ := hS.2.2.2.2.1.2
  have hq := nb_kept hH
  have hSS : va_S (fun q => E.2.1 ≤ q) s.heap s.heap [] := va_S.rf
  have hl := lv_entry ([.ref (E.2.2.2.2.2 k)]) (n := 1) (Nat.le_of_ble_eq_true rfl)
  rw [lg_entry_eq]
  generalize (lg_sl ([.ref (E.2.2.2.2.2 k)]) ++ List.replicate (1 - (lg_sl ([.ref (E.2.2.2.2.2 k)])).length) Slot.unset).toArray = ls at hl ⊢
  have hl : lv_has ls 1 [(0, .ref (E.2.2.2.2.2 k))] := hl
  obtain ⟨adV, j1, j2, j3, j4⟩ := hJ.1 k hk.1 hk.2
  refine va_gets hx hb (va_Z.kept hJ.2.1 hq) hSS hown (ht _ (nb_in_Ts (w := Cond.fieldLink RJ0 38 "java/lang/String" "COMPACT_STRINGS" "Z") (j := 3039) (by decide +kernel))) (fun _ h => h) (show decode cJ0_coder_7d493 0 = .ok (.getstatic 38, 3) from by decide +kernel) ?_
  refine lv_if_eq (tgt := 13) hx hb (show decode cJ0_coder_7d493 3 = .ok (.ifCond .eq 10, 3) from by decide +kernel) (by decide) (fun q => absurd q (by decide)) (fun _ => ?_)
  refine lv_aload_n hx hb (show decode cJ0_coder_7d493 6 = .ok (.aload_n 0, 1) from by decide +kernel) rfl (lv_at hl 0 rfl) ?_
  refine vk_getf hx hb (va_OF.kept j2 hq) hSS hown (ht _ (nb_in_Ts (w := Cond.fieldLink RJ0 15 "java/lang/String" "coder" "B") (j := 8233) (by decide +kernel))) (fun _ h => h) (show decode cJ0_coder_7d493 7 = .ok (.getfield 15, 3) from by decide +kernel) ?_
  refine lv_goto (tgt := 14) hx hb (show decode cJ0_coder_7d493 10 = .ok (.goto 4, 3) from by decide +kernel) (by decide) ?_
  exact W.zret hx hb hr rfl (fun t ht hW => ⟨rfl, ht⟩) (fun q h => by cases h) (show decode cJ0_coder_7d493 14 = .ok (.ireturn, 1) from by decide +kernel) hlocks
set_option maxHeartbeats 1000000 in
theorem nb_j_lat (l : Launch) {E : nb_E} {k : Nat} (hk : 1 ≤ k ∧ k < nb_txts.length) : Met l yJ0_isLatin1_aae02 [Cond.code yJ0_isLatin1_aae02 cJ0_isLatin1_aae02 1 (some .boolean)] (nb_rj 1) (nb_jp E [.ref (E.2.2.2.2.2 k)]) (QcRead 1) 0 0 (fun _ => False) := by
  refine Met.ofW (cc := cJ0_isLatin1_aae02) (maxL := 1) (ret := (some .boolean)) (by decide +kernel) rfl ?_
  intro p e s m args below meth c s₁ B hml hv
  obtain ⟨rfl, hS, hH⟩ := hv
  have hx := B.exec
  have hb := B.bytes
  have hr := B.returns
  have hown : s.vm.findClass RJ0 = some m.cls := findClass_of_methodNamed B.named
  have hlocks := B.notSynchronized
  have ht : ∀ w ∈ nb_Ts, w.before ([.ref (E.2.2.2.2.2 k)] : List Value).toArray s = true := hS.1.use
  have hJ := hS.2.2.2.2.1.2
  have hq := nb_kept hH
  have hSS : va_S (fun q => E.2.1 ≤ q) s.heap s.heap [] := va_S.rf
  have hl := lv_entry ([.ref (E.2.2.2.2.2 k)]) (n := 1) (Nat.le_of_ble_eq_true rfl)
  rw [lg_entry_eq]
  generalize (lg_sl ([.ref (E.2.2.2.2.2 k)]) ++ List.replicate (1 - (lg_sl ([.ref (E.2.2.2.2.2 k)])).length) Slot.unset).toArray = ls at hl ⊢
  have hl : lv_has ls 1 [(0, .ref (E.2.2.2.2.2 k))] := hl
  obtain ⟨adV, j1, j2, j3, j4⟩ := hJ.1 k hk.1 hk.2
  refine va_gets hx hb (va_Z.kept hJ.2.1 hq) hSS hown (ht _ (nb_in_Ts (w := Cond.fieldLink RJ0 38 "java/lang/String" "COMPACT_STRINGS" "Z") (j := 3039) (by decide +kernel))) (fun _ h => h) (show decode cJ0_isLatin1_aae02 0 = .ok (.getstatic 38, 3) from by decide +kernel) ?_
  refine lv_if_eq (tgt := 17) hx hb (show decode cJ0_isLatin1_aae02 3 = .ok (.ifCond .eq 14, 3) from by decide +kernel) (by decide) (fun q => absurd q (by decide)) (fun _ => ?_)
  refine lv_aload_n hx hb (show decode cJ0_isLatin1_aae02 6 = .ok (.aload_n 0, 1) from by decide +kernel) rfl (lv_at hl 0 rfl) ?_
  refine vk_getf hx hb (va_OF.kept j2 hq) hSS hown (ht _ (nb_in_Ts (w := Cond.fieldLink RJ0 15 "java/lang/String" "coder" "B") (j := 8233) (by decide +kernel))) (fun _ h => h) (show decode cJ0_isLatin1_aae02 7 = .ok (.getfield 15, 3) from by decide +kernel) ?_
  refine lv_if_ne (tgt := 17) hx hb (show decode cJ0_isLatin1_aae02 10 = .ok (.ifCond .ne 7, 3) from by decide +kernel) (by decide) (fun q => absurd rfl q) (fun _ => ?_)
  refine lv_iconst hx hb (show decode cJ0_isLatin1_aae02 13 = .ok (.iconst 1, 1) from by decide +kernel) rfl ?_
  refine lv_goto (tgt := 18) hx hb (show decode cJ0_isLatin1_aae02 14 = .ok (.goto 4, 3) from by decide +kernel) (by decide) ?_
  exact W.zret hx hb hr rfl (fun t ht hW => ⟨rfl, ht⟩) (fun q h => by cases h) (show decode cJ0_isLatin1_aae02 18 = .ok (.ireturn, 1) from by decide +kernel) hlocks
set_option maxHeartbeats 1000000 in
theorem nb_j_length (l : Launch) {E : nb_E} {k : Nat} (hk : 1 ≤ k ∧ k < nb_txts.length) : Met l yJ0_length_8abf5 [Cond.code yJ0_length_8abf5 cJ0_length_8abf5 1 (some .int)] (nb_rj 2) (nb_jp E [.ref (E.2.2.2.2.2 k)]) (QcRead (Int32.ofInt ((nb_txts.getD k []).length : Int))) 0 0 (fun _ => False) := by
  refine Met.ofW (cc := cJ0_length_8abf5) (maxL := 1) (ret := (some .int)) (by decide +kernel) rfl ?_
  intro p e s m args below meth c s₁ B hml hv
  obtain ⟨rfl, hS, hH⟩ := hv
  have hx := B.exec
  have hb := B.bytes
  have hr := B.returns
  have hown : s.vm.findClass RJ0 = some m.cls := findClass_of_methodNamed B.named
  have hlocks := B.notSynchronized
  have ht : ∀ w ∈ nb_Ts, w.before ([.ref (E.2.2.2.2.2 k)] : List Value).toArray s = true := hS.1.use
  have hJ := hS.2.2.2.2.1.2
  have hq := nb_kept hH
  have hSS : va_S (fun q => E.2.1 ≤ q) s.heap s.heap [] := va_S.rf
  have hl := lv_entry ([.ref (E.2.2.2.2.2 k)]) (n := 1) (Nat.le_of_ble_eq_true rfl)
  rw [lg_entry_eq]
  generalize (lg_sl ([.ref (E.2.2.2.2.2 k)]) ++ List.replicate (1 - (lg_sl ([.ref (E.2.2.2.2.2 k)])).length) Slot.unset).toArray = ls at hl ⊢
  have hl : lv_has ls 1 [(0, .ref (E.2.2.2.2.2 k))] := hl
  obtain ⟨adV, j1, j2, j3, j4⟩ := hJ.1 k hk.1 hk.2
  have vk_recvE : ∃ cellB : Cell, s.heap[E.2.2.2.2.2 k]? = some cellB ∧ cellB.vm.isStatics = false ∧ s.vm.findClass "java/lang/String" = some cellB.cls := by
    obtain ⟨cell, h1, h2, h3, -⟩ := va_O.kept j1 hq
    exact ⟨cell, h1, h2, h3⟩
  refine lv_aload_n hx hb (show decode cJ0_length_8abf5 0 = .ok (.aload_n 0, 1) from by decide +kernel) rfl (lv_at hl 0 rfl) ?_
  refine vk_getf hx hb (va_OF.kept j3 hq) hSS hown (ht _ (nb_in_Ts (w := Cond.fieldLink RJ0 9 "java/lang/String" "value" "[B") (j := 8232) (by decide +kernel))) (fun _ h => h) (show decode cJ0_length_8abf5 1 = .ok (.getfield 9, 3) from by decide +kernel) ?_
  refine va_tlen hx hb (va_T.kept j4 hq) hSS rfl (show decode cJ0_length_8abf5 4 = .ok (.arraylength, 1) from by decide +kernel) ?_
  refine lv_aload_n hx hb (show decode cJ0_length_8abf5 5 = .ok (.aload_n 0, 1) from by decide +kernel) rfl (lv_at hl 0 rfl) ?_
  refine W.callR (W.runV (index := 335) (n := 0) (b := E.2.2.2.2.2 k) (As := []) (rest := [.int (Int32.ofNat (nb_txts.getD k []).length)]) (⟨hx, hb, hml, hown, ht⟩ : CallFix p m c cJ0_length_8abf5 1 s _ nb_Ts RJ0) (nb_j_coder l hk) (cwV (C := "java/lang/String") 0 ht (fun w hw => by
      have hw' : w ∈ nb_Ts := by
        simp only [wsV, List.mem_append, List.mem_cons, List.not_mem_nil, or_false] at hw
        rcases hw with (rfl | rfl | rfl | rfl) | rfl
        · exact nb_in_Ts (j := 3035) (by decide +kernel)
        · exact nb_in_Ts (j := 3036) (by decide +kernel)
        · exact nb_in_Ts (j := 3037) (by decide +kernel)
        · exact nb_in_Ts (j := 1011) (by decide +kernel)
        · exact nb_in_Ts (j := 3038) (by decide +kernel)
      exact ⟨hw', nb_Ts_good hw'⟩) rfl rfl rfl ⟨rfl, by decide +kernel, by decide +kernel, by decide +kernel⟩ ⟨Nat.le_of_ble_eq_true rfl, Nat.le_of_ble_eq_true rfl⟩) ⟨nb_jp_blind E _, vk_recvE, fun U hU hW => ⟨rfl, hS.warm hW, fun q hq => by rw [hU]; exact hH q hq⟩⟩ rfl rfl (hl.1.trans rfl) rfl (by simp [Value.category]) (show decode cJ0_length_8abf5 6 = .ok (.invokevirtual 335, 3) from by decide +kernel) ⟨Nat.zero_le _, Nat.zero_le _⟩) ?_
  refine lv_ishr (pc := 9) hx hb (show decode cJ0_length_8abf5 9 = .ok (.ishr, 1) from by decide +kernel) ?_
  rw [(nb_txt_len k hk.2).1]
  exact W.iret hx hb hr (fun t ht hW => ⟨rfl, ht⟩) (fun q h => by cases h) (show decode cJ0_length_8abf5 10 = .ok (.ireturn, 1) from by decide +kernel) hlocks
set_option maxHeartbeats 1000000 in
theorem nb_j_pren (l : Launch) {E : nb_E} {i n : Int32} (h0 : ¬ i < 0) (h1 : i < n) : Met l yJ3_checkIndex_8e157 [Cond.code yJ3_checkIndex_8e157 cJ3_checkIndex_8e157 3 (some .int)] (nb_rj 1) (nb_jp E [.int i, .int n, .null]) (QcRead i) 0 0 (fun _ => False) := by
  refine Met.ofW (cc := cJ3_checkIndex_8e157) (maxL := 3) (ret := (some .int)) (by decide +kernel) rfl ?_
  intro p e s m args below meth c s₁ B hml hv
  obtain ⟨rfl, hS, hH⟩ := hv
  have hx := B.exec
  have hb := B.bytes
  have hr := B.returns
  have hown : s.vm.findClass RJ3 = some m.cls := findClass_of_methodNamed B.named
  have hlocks := B.notSynchronized
  have ht : ∀ w ∈ nb_Ts, w.before ([.int i, .int n, .null] : List Value).toArray s = true := hS.1.use
  have hJ := hS.2.2.2.2.1.2
  have hq := nb_kept hH
  have hSS : va_S (fun q => E.2.1 ≤ q) s.heap s.heap [] := va_S.rf
  have hl := lv_entry ([.int i, .int n, .null]) (n := 3) (Nat.le_of_ble_eq_true rfl)
  rw [lg_entry_eq]
  generalize (lg_sl ([.int i, .int n, .null]) ++ List.replicate (3 - (lg_sl ([.int i, .int n, .null])).length) Slot.unset).toArray = ls at hl ⊢
  have hl : lv_has ls 3 [(0, .int i), (1, .int n), (2, .null)] := hl
  refine lv_iload_n hx hb (show decode cJ3_checkIndex_8e157 0 = .ok (.iload_n 0, 1) from by decide +kernel) rfl (lv_at hl 0 rfl) ?_
  refine lv_if_lt (tgt := 9) hx hb (show decode cJ3_checkIndex_8e157 1 = .ok (.ifCond .lt 8, 3) from by decide +kernel) (by decide) (fun q => absurd q h0) (fun _ => ?_)
  refine lv_iload_n hx hb (show decode cJ3_checkIndex_8e157 4 = .ok (.iload_n 0, 1) from by decide +kernel) rfl (lv_at hl 0 rfl) ?_
  refine lv_iload_n hx hb (show decode cJ3_checkIndex_8e157 5 = .ok (.iload_n 1, 1) from by decide +kernel) rfl (lv_at hl 1 rfl) ?_
  refine lv_icmp_lt (tgt := 16) hx hb (show decode cJ3_checkIndex_8e157 6 = .ok (.if_icmp .lt 10, 3) from by decide +kernel) (by decide) (fun _ => ?_) (fun q => absurd h1 q)
  refine lv_iload_n hx hb (show decode cJ3_checkIndex_8e157 16 = .ok (.iload_n 0, 1) from by decide +kernel) rfl (lv_at hl 0 rfl) ?_
  exact W.iret hx hb hr (fun t ht hW => ⟨rfl, ht⟩) (fun q h => by cases h) (show decode cJ3_checkIndex_8e157 17 = .ok (.ireturn, 1) from by decide +kernel) hlocks
set_option maxHeartbeats 1000000 in
theorem nb_j_prer (l : Launch) {E : nb_E} {i n : Int32} (h0 : ¬ i < 0) (h1 : i < n) {t : Nat} : Met l yJ3_checkIndex_8e157 [Cond.code yJ3_checkIndex_8e157 cJ3_checkIndex_8e157 3 (some .int)] (nb_rj 1) (nb_jp E [.int i, .int n, .ref t]) (QcRead i) 0 0 (fun _ => False) := by
  refine Met.ofW (cc := cJ3_checkIndex_8e157) (maxL := 3) (ret := (some .int)) (by decide +kernel) rfl ?_
  intro p e s m args below meth c s₁ B hml hv
  obtain ⟨rfl, hS, hH⟩ := hv
  have hx := B.exec
  have hb := B.bytes
  have hr := B.returns
  have hown : s.vm.findClass RJ3 = some m.cls := findClass_of_methodNamed B.named
  have hlocks := B.notSynchronized
  have ht : ∀ w ∈ nb_Ts, w.before ([.int i, .int n, .ref t] : List Value).toArray s = true := hS.1.use
  have hJ := hS.2.2.2.2.1.2
  have hq := nb_kept hH
  have hSS : va_S (fun q => E.2.1 ≤ q) s.heap s.heap [] := va_S.rf
  have hl := lv_entry ([.int i, .int n, .ref t]) (n := 3) (Nat.le_of_ble_eq_true rfl)
  rw [lg_entry_eq]
  generalize (lg_sl ([.int i, .int n, .ref t]) ++ List.replicate (3 - (lg_sl ([.int i, .int n, .ref t])).length) Slot.unset).toArray = ls at hl ⊢
  have hl : lv_has ls 3 [(0, .int i), (1, .int n), (2, .ref t)] := hl
  refine lv_iload_n hx hb (show decode cJ3_checkIndex_8e157 0 = .ok (.iload_n 0, 1) from by decide +kernel) rfl (lv_at hl 0 rfl) ?_
  refine lv_if_lt (tgt := 9) hx hb (show decode cJ3_checkIndex_8e157 1 = .ok (.ifCond .lt 8, 3) from by decide +kernel) (by decide) (fun q => absurd q h0) (fun _ => ?_)
  refine lv_iload_n hx hb (show decode cJ3_checkIndex_8e157 4 = .ok (.iload_n 0, 1) from by decide +kernel) rfl (lv_at hl 0 rfl) ?_
  refine lv_iload_n hx hb (show decode cJ3_checkIndex_8e157 5 = .ok (.iload_n 1, 1) from by decide +kernel) rfl (lv_at hl 1 rfl) ?_
  refine lv_icmp_lt (tgt := 16) hx hb (show decode cJ3_checkIndex_8e157 6 = .ok (.if_icmp .lt 10, 3) from by decide +kernel) (by decide) (fun _ => ?_) (fun q => absurd h1 q)
  refine lv_iload_n hx hb (show decode cJ3_checkIndex_8e157 16 = .ok (.iload_n 0, 1) from by decide +kernel) rfl (lv_at hl 0 rfl) ?_
  exact W.iret hx hb hr (fun t ht hW => ⟨rfl, ht⟩) (fun q h => by cases h) (show decode cJ3_checkIndex_8e157 17 = .ok (.ireturn, 1) from by decide +kernel) hlocks
set_option maxHeartbeats 1000000 in
theorem nb_j_check (l : Launch) {E : nb_E} {i n : Int32} (h0 : ¬ i < 0) (h1 : i < n) : Met l yJ0_checkIndex_df160 [Cond.code yJ0_checkIndex_df160 cJ0_checkIndex_df160 2 none] (nb_rj 2) (nb_jp E [.int i, .int n]) nb_QcV 0 0 (fun _ => False) := by
  refine Met.ofW (cc := cJ0_checkIndex_df160) (maxL := 2) (ret := none) (by decide +kernel) rfl ?_
  intro p e s m args below meth c s₁ B hml hv
  obtain ⟨rfl, hS, hH⟩ := hv
  have hx := B.exec
  have hb := B.bytes
  have hr := B.returns
  have hown : s.vm.findClass RJ0 = some m.cls := findClass_of_methodNamed B.named
  have hlocks := B.notSynchronized
  have ht : ∀ w ∈ nb_Ts, w.before ([.int i, .int n] : List Value).toArray s = true := hS.1.use
  have hJ := hS.2.2.2.2.1.2
  have hq := nb_kept hH
  have hSS : va_S (fun q => E.2.1 ≤ q) s.heap s.heap [] := va_S.rf
  have hl := lv_entry ([.int i, .int n]) (n := 2) (Nat.le_of_ble_eq_true rfl)
  rw [lg_entry_eq]
  generalize (lg_sl ([.int i, .int n]) ++ List.replicate (2 - (lg_sl ([.int i, .int n])).length) Slot.unset).toArray = ls at hl ⊢
  have hl : lv_has ls 2 [(0, .int i), (1, .int n)] := hl
  refine lv_iload_n hx hb (show decode cJ0_checkIndex_df160 0 = .ok (.iload_n 0, 1) from by decide +kernel) rfl (lv_at hl 0 rfl) ?_
  refine lv_iload_n hx hb (show decode cJ0_checkIndex_df160 1 = .ok (.iload_n 1, 1) from by decide +kernel) rfl (lv_at hl 1 rfl) ?_
  rcases hJ.2.2.1 with hz | ⟨t, hz⟩
  · refine va_gets hx hb (va_Z.kept hz hq) hSS hown (ht _ (nb_in_Ts (w := Cond.fieldLink RJ0 1053 "jdk/internal/util/Preconditions" "SIOOBE_FORMATTER" "Ljava/util/function/BiFunction;") (j := 3055) (by decide +kernel))) (fun _ h => h) (show decode cJ0_checkIndex_df160 2 = .ok (.getstatic 1053, 3) from by decide +kernel) ?_
    refine W.callR (W.runS (index := 1059) (n := 3) (As := [.int i, .int n, .null]) (rest := []) (⟨hx, hb, hml, hown, ht⟩ : CallFix p m c cJ0_checkIndex_df160 2 s _ nb_Ts RJ0) (nb_j_pren l h0 h1) (va_cwS 3 ht (fun w hw => by
      have hw' : w ∈ nb_Ts := by
        simp only [va_wsS, List.mem_append, List.mem_cons, List.not_mem_nil, or_false] at hw
        rcases hw with (rfl | rfl | rfl) | rfl
        · exact nb_in_Ts (j := 3057) (by decide +kernel)
        · exact nb_in_Ts (j := 3058) (by decide +kernel)
        · exact nb_in_Ts (j := 1013) (by decide +kernel)
        · exact nb_in_Ts (j := 3059) (by decide +kernel)
      exact ⟨hw', nb_Ts_good hw'⟩) rfl rfl rfl ⟨by decide +kernel, by decide +kernel, by decide +kernel⟩ ⟨Nat.le_of_ble_eq_true rfl, Nat.le_of_ble_eq_true rfl⟩) ⟨nb_jp_blind E _, fun U hU hW => ⟨rfl, hS.warm hW, fun q hq => by rw [hU]; exact hH q hq⟩⟩ rfl rfl (hl.1.trans rfl) rfl (by simp [Value.category]) (show decode cJ0_checkIndex_df160 5 = .ok (.invokestatic 1059, 3) from by decide +kernel) ⟨Nat.zero_le _, Nat.zero_le _⟩) ?_
    refine lv_pop (pc := 8) hx hb (show decode cJ0_checkIndex_df160 8 = .ok (.pop, 1) from by decide +kernel) rfl ?_
    exact W.vret hx hb hr (fun t ht hW => ⟨rfl, ht⟩) (fun q h => by cases h) (show decode cJ0_checkIndex_df160 9 = .ok (.return_, 1) from by decide +kernel) hlocks
  · refine va_gets hx hb (va_Z.kept hz hq) hSS hown (ht _ (nb_in_Ts (w := Cond.fieldLink RJ0 1053 "jdk/internal/util/Preconditions" "SIOOBE_FORMATTER" "Ljava/util/function/BiFunction;") (j := 3055) (by decide +kernel))) (fun _ h => h) (show decode cJ0_checkIndex_df160 2 = .ok (.getstatic 1053, 3) from by decide +kernel) ?_
    refine W.callR (W.runS (index := 1059) (n := 3) (As := [.int i, .int n, .ref t]) (rest := []) (⟨hx, hb, hml, hown, ht⟩ : CallFix p m c cJ0_checkIndex_df160 2 s _ nb_Ts RJ0) (nb_j_prer l h0 h1) (va_cwS 3 ht (fun w hw => by
      have hw' : w ∈ nb_Ts := by
        simp only [va_wsS, List.mem_append, List.mem_cons, List.not_mem_nil, or_false] at hw
        rcases hw with (rfl | rfl | rfl) | rfl
        · exact nb_in_Ts (j := 3057) (by decide +kernel)
        · exact nb_in_Ts (j := 3058) (by decide +kernel)
        · exact nb_in_Ts (j := 1013) (by decide +kernel)
        · exact nb_in_Ts (j := 3059) (by decide +kernel)
      exact ⟨hw', nb_Ts_good hw'⟩) rfl rfl rfl ⟨by decide +kernel, by decide +kernel, by decide +kernel⟩ ⟨Nat.le_of_ble_eq_true rfl, Nat.le_of_ble_eq_true rfl⟩) ⟨nb_jp_blind E _, fun U hU hW => ⟨rfl, hS.warm hW, fun q hq => by rw [hU]; exact hH q hq⟩⟩ rfl rfl (hl.1.trans rfl) rfl (by simp [Value.category]) (show decode cJ0_checkIndex_df160 5 = .ok (.invokestatic 1059, 3) from by decide +kernel) ⟨Nat.zero_le _, Nat.zero_le _⟩) ?_
    refine lv_pop (pc := 8) hx hb (show decode cJ0_checkIndex_df160 8 = .ok (.pop, 1) from by decide +kernel) rfl ?_
    exact W.vret hx hb hr (fun t ht hW => ⟨rfl, ht⟩) (fun q h => by cases h) (show decode cJ0_checkIndex_df160 9 = .ok (.return_, 1) from by decide +kernel) hlocks
set_option maxHeartbeats 1000000 in
theorem nb_j_l1 (l : Launch) {E : nb_E} {k : Nat} (hk : 1 ≤ k ∧ k < nb_txts.length) {j : Nat} (hj : j < (nb_txts.getD k []).length) {adV : Nat} : Met l yJ1_charAt_3b067 [Cond.code yJ1_charAt_3b067 cJ1_charAt_3b067 2 (some .char)] (nb_rj 3) (nb_jpv E k adV [.ref adV, .int (Int32.ofInt (j : Int))]) (QcRead (Int32.ofInt ((nb_txts.getD k []).getD j 0))) 0 0 (fun _ => False) := by
  have hlen := (nb_txt_len k hk.2).2
  have h0 : ¬ Int32.ofInt (j : Int) < 0 := by
    intro q
    have := (nb_lt32 (x := (j : Int)) (y := 0) (by omega) (by decide)).mp q
    omega
  have h1 : Int32.ofInt (j : Int) < Int32.ofNat (nb_txts.getD k []).length := (nb_lt32 (x := (j : Int)) (y := ((nb_txts.getD k []).length : Int)) (by omega) (by omega)).mpr (by omega)
  have hc := nb_txt_chr k hk.2 ((nb_txts.getD k []).getD j 0) (nb_getD_mem hj)
  refine Met.ofW (cc := cJ1_charAt_3b067) (maxL := 2) (ret := (some .char)) (by decide +kernel) rfl ?_
  intro p e s m args below meth c s₁ B hml hv
  obtain ⟨⟨rfl, hS, hH⟩, hV0⟩ := hv
  have hx := B.exec
  have hb := B.bytes
  have hr := B.returns
  have hown : s.vm.findClass RJ1 = some m.cls := findClass_of_methodNamed B.named
  have hlocks := B.notSynchronized
  have ht : ∀ w ∈ nb_Ts, w.before ([.ref adV, .int (Int32.ofInt (j : Int))] : List Value).toArray s = true := hS.1.use
  have hJ := hS.2.2.2.2.1.2
  have hq := nb_kept hH
  have hSS : va_S (fun q => E.2.1 ≤ q) s.heap s.heap [] := va_S.rf
  have hl := lv_entry ([.ref adV, .int (Int32.ofInt (j : Int))]) (n := 2) (Nat.le_of_ble_eq_true rfl)
  rw [lg_entry_eq]
  generalize (lg_sl ([.ref adV, .int (Int32.ofInt (j : Int))]) ++ List.replicate (2 - (lg_sl ([.ref adV, .int (Int32.ofInt (j : Int))])).length) Slot.unset).toArray = ls at hl ⊢
  have hl : lv_has ls 2 [(0, .ref adV), (1, .int (Int32.ofInt (j : Int)))] := hl
  have hVs := va_T.kept hV0 hq
  refine lv_iload_n hx hb (show decode cJ1_charAt_3b067 0 = .ok (.iload_n 1, 1) from by decide +kernel) rfl (lv_at hl 1 rfl) ?_
  refine lv_aload_n hx hb (show decode cJ1_charAt_3b067 1 = .ok (.aload_n 0, 1) from by decide +kernel) rfl (lv_at hl 0 rfl) ?_
  refine va_tlen hx hb hVs hSS rfl (show decode cJ1_charAt_3b067 2 = .ok (.arraylength, 1) from by decide +kernel) ?_
  refine W.callX (W.runS (index := 9) (n := 2) (As := [.int (Int32.ofInt (j : Int)), .int (Int32.ofNat (nb_txts.getD k []).length)]) (rest := []) (⟨hx, hb, hml, hown, ht⟩ : CallFix p m c cJ1_charAt_3b067 2 s _ nb_Ts RJ1) (nb_j_check l h0 h1) (va_cwS 2 ht (fun w hw => by
      have hw' : w ∈ nb_Ts := by
        simp only [va_wsS, List.mem_append, List.mem_cons, List.not_mem_nil, or_false] at hw
        rcases hw with (rfl | rfl | rfl) | rfl
        · exact nb_in_Ts (j := 3052) (by decide +kernel)
        · exact nb_in_Ts (j := 3053) (by decide +kernel)
        · exact nb_in_Ts (j := 1011) (by decide +kernel)
        · exact nb_in_Ts (j := 3054) (by decide +kernel)
      exact ⟨hw', nb_Ts_good hw'⟩) rfl rfl rfl ⟨by decide +kernel, by decide +kernel, by decide +kernel⟩ ⟨Nat.le_of_ble_eq_true rfl, Nat.le_of_ble_eq_true rfl⟩) ⟨nb_jp_blind E _, fun U hU hW => ⟨rfl, hS.warm hW, fun q hq => by rw [hU]; exact hH q hq⟩⟩ rfl rfl (hl.1.trans rfl) rfl (by simp [Value.category]) (show decode cJ1_charAt_3b067 3 = .ok (.invokestatic 9, 3) from by decide +kernel) ⟨Nat.zero_le _, Nat.zero_le _⟩) (fun q h => h.elim) (fun v st₀ t e1 e2 => ?_)
  obtain ⟨e3, e4⟩ := e2
  cases e3
  rw [e4, e1]
  refine lv_aload_n (pc := 6) hx hb (show decode cJ1_charAt_3b067 6 = .ok (.aload_n 0, 1) from by decide +kernel) rfl (lv_at hl 0 rfl) ?_
  refine lv_iload_n hx hb (show decode cJ1_charAt_3b067 7 = .ok (.iload_n 1, 1) from by decide +kernel) rfl (lv_at hl 1 rfl) ?_
  refine va_tb hx hb hVs hSS (v := .int (Int32.ofInt ((nb_txts.getD k []).getD j 0))) ?_ ?_ (show decode cJ1_charAt_3b067 8 = .ok (.baload, 1) from by decide +kernel) ?_
  · refine fun q => q.elim h0 (fun q => ?_)
    rw [nb_clamp (by omega)] at q
    omega
  · show Value.int _ = _
    rw [nb_clamp (by omega)]
    rfl
  refine lv_sipush hx hb (show decode cJ1_charAt_3b067 9 = .ok (.sipush 255, 3) from by decide +kernel) (v := 255) (by decide) ?_
  refine lv_iand hx hb (show decode cJ1_charAt_3b067 12 = .ok (.iand, 1) from by decide +kernel) ?_
  refine lv_i2c hx hb (show decode cJ1_charAt_3b067 13 = .ok (.i2c, 1) from by decide +kernel) hc.1 ?_
  exact W.zret hx hb hr hc.2.1 (fun t ht hW => ⟨rfl, ht⟩) (fun q h => by cases h) (show decode cJ1_charAt_3b067 14 = .ok (.ireturn, 1) from by decide +kernel) hlocks
set_option maxHeartbeats 1000000 in
theorem nb_j_charAt (l : Launch) {E : nb_E} {k : Nat} (hk : 1 ≤ k ∧ k < nb_txts.length) {j : Nat} (hj : j < (nb_txts.getD k []).length) : Met l yJ0_charAt_5068e [Cond.code yJ0_charAt_5068e cJ0_charAt_5068e 2 (some .char)] (nb_rj 4) (nb_jp E [.ref (E.2.2.2.2.2 k), .int (Int32.ofInt (j : Int))]) (QcRead (Int32.ofInt ((nb_txts.getD k []).getD j 0))) 0 0 (fun _ => False) := by
  have hlen := (nb_txt_len k hk.2).2
  have h0 : ¬ Int32.ofInt (j : Int) < 0 := by
    intro q
    have := (nb_lt32 (x := (j : Int)) (y := 0) (by omega) (by decide)).mp q
    omega
  have h1 : Int32.ofInt (j : Int) < Int32.ofNat (nb_txts.getD k []).length := (nb_lt32 (x := (j : Int)) (y := ((nb_txts.getD k []).length : Int)) (by omega) (by omega)).mpr (by omega)
  have hc := nb_txt_chr k hk.2 ((nb_txts.getD k []).getD j 0) (nb_getD_mem hj)
  refine Met.ofW (cc := cJ0_charAt_5068e) (maxL := 2) (ret := (some .char)) (by decide +kernel) rfl ?_
  intro p e s m args below meth c s₁ B hml hv
  obtain ⟨rfl, hS, hH⟩ := hv
  have hx := B.exec
  have hb := B.bytes
  have hr := B.returns
  have hown : s.vm.findClass RJ0 = some m.cls := findClass_of_methodNamed B.named
  have hlocks := B.notSynchronized
  have ht : ∀ w ∈ nb_Ts, w.before ([.ref (E.2.2.2.2.2 k), .int (Int32.ofInt (j : Int))] : List Value).toArray s = true := hS.1.use
  have hJ := hS.2.2.2.2.1.2
  have hq := nb_kept hH
  have hSS : va_S (fun q => E.2.1 ≤ q) s.heap s.heap [] := va_S.rf
  have hl := lv_entry ([.ref (E.2.2.2.2.2 k), .int (Int32.ofInt (j : Int))]) (n := 2) (Nat.le_of_ble_eq_true rfl)
  rw [lg_entry_eq]
  generalize (lg_sl ([.ref (E.2.2.2.2.2 k), .int (Int32.ofInt (j : Int))]) ++ List.replicate (2 - (lg_sl ([.ref (E.2.2.2.2.2 k), .int (Int32.ofInt (j : Int))])).length) Slot.unset).toArray = ls at hl ⊢
  have hl : lv_has ls 2 [(0, .ref (E.2.2.2.2.2 k)), (1, .int (Int32.ofInt (j : Int)))] := hl
  obtain ⟨adV, j1, j2, j3, j4⟩ := hJ.1 k hk.1 hk.2
  have vk_recvE : ∃ cellB : Cell, s.heap[E.2.2.2.2.2 k]? = some cellB ∧ cellB.vm.isStatics = false ∧ s.vm.findClass "java/lang/String" = some cellB.cls := by
    obtain ⟨cell, h1, h2, h3, -⟩ := va_O.kept j1 hq
    exact ⟨cell, h1, h2, h3⟩
  refine lv_aload_n hx hb (show decode cJ0_charAt_5068e 0 = .ok (.aload_n 0, 1) from by decide +kernel) rfl (lv_at hl 0 rfl) ?_
  refine W.callR (W.runV (index := 492) (n := 0) (b := E.2.2.2.2.2 k) (As := []) (rest := []) (⟨hx, hb, hml, hown, ht⟩ : CallFix p m c cJ0_charAt_5068e 2 s _ nb_Ts RJ0) (nb_j_lat l hk) (cwV (C := "java/lang/String") 0 ht (fun w hw => by
      have hw' : w ∈ nb_Ts := by
        simp only [wsV, List.mem_append, List.mem_cons, List.not_mem_nil, or_false] at hw
        rcases hw with (rfl | rfl | rfl | rfl) | rfl
        · exact nb_in_Ts (j := 3045) (by decide +kernel)
        · exact nb_in_Ts (j := 3046) (by decide +kernel)
        · exact nb_in_Ts (j := 3047) (by decide +kernel)
        · exact nb_in_Ts (j := 1011) (by decide +kernel)
        · exact nb_in_Ts (j := 3048) (by decide +kernel)
      exact ⟨hw', nb_Ts_good hw'⟩) rfl rfl rfl ⟨rfl, by decide +kernel, by decide +kernel, by decide +kernel⟩ ⟨Nat.le_of_ble_eq_true rfl, Nat.le_of_ble_eq_true rfl⟩) ⟨nb_jp_blind E _, vk_recvE, fun U hU hW => ⟨rfl, hS.warm hW, fun q hq => by rw [hU]; exact hH q hq⟩⟩ rfl rfl (hl.1.trans rfl) rfl (by simp [Value.category]) (show decode cJ0_charAt_5068e 1 = .ok (.invokevirtual 492, 3) from by decide +kernel) ⟨Nat.zero_le _, Nat.zero_le _⟩) ?_
  refine lv_if_eq (pc := 4) (tgt := 16) hx hb (show decode cJ0_charAt_5068e 4 = .ok (.ifCond .eq 12, 3) from by decide +kernel) (by decide) (fun q => absurd q (by decide)) (fun _ => ?_)
  refine lv_aload_n hx hb (show decode cJ0_charAt_5068e 7 = .ok (.aload_n 0, 1) from by decide +kernel) rfl (lv_at hl 0 rfl) ?_
  refine vk_getf hx hb (va_OF.kept j3 hq) hSS hown (ht _ (nb_in_Ts (w := Cond.fieldLink RJ0 9 "java/lang/String" "value" "[B") (j := 8232) (by decide +kernel))) (fun _ h => h) (show decode cJ0_charAt_5068e 8 = .ok (.getfield 9, 3) from by decide +kernel) ?_
  refine lv_iload_n hx hb (show decode cJ0_charAt_5068e 11 = .ok (.iload_n 1, 1) from by decide +kernel) rfl (lv_at hl 1 rfl) ?_
  refine W.callR (W.runS (index := 495) (n := 2) (As := [.ref adV, .int (Int32.ofInt (j : Int))]) (rest := []) (⟨hx, hb, hml, hown, ht⟩ : CallFix p m c cJ0_charAt_5068e 2 s _ nb_Ts RJ0) (nb_j_l1 l hk hj) (va_cwS 2 ht (fun w hw => by
      have hw' : w ∈ nb_Ts := by
        simp only [va_wsS, List.mem_append, List.mem_cons, List.not_mem_nil, or_false] at hw
        rcases hw with (rfl | rfl | rfl) | rfl
        · exact nb_in_Ts (j := 3049) (by decide +kernel)
        · exact nb_in_Ts (j := 3050) (by decide +kernel)
        · exact nb_in_Ts (j := 1012) (by decide +kernel)
        · exact nb_in_Ts (j := 3051) (by decide +kernel)
      exact ⟨hw', nb_Ts_good hw'⟩) rfl rfl rfl ⟨by decide +kernel, by decide +kernel, by decide +kernel⟩ ⟨Nat.le_of_ble_eq_true rfl, Nat.le_of_ble_eq_true rfl⟩) ⟨nb_jpv_blind E _ _ _, fun U hU hW => ⟨⟨rfl, hS.warm hW, fun q hq => by rw [hU]; exact hH q hq⟩, va_T.moved hW.alike j4⟩⟩ rfl rfl (hl.1.trans rfl) rfl (by simp [Value.category]) (show decode cJ0_charAt_5068e 12 = .ok (.invokestatic 495, 3) from by decide +kernel) ⟨Nat.zero_le _, Nat.zero_le _⟩) ?_
  exact W.zret (pc := 15) hx hb hr hc.2.1 (fun t ht hW => ⟨rfl, ht⟩) (fun q h => by cases h) (show decode cJ0_charAt_5068e 15 = .ok (.ireturn, 1) from by decide +kernel) hlocks
