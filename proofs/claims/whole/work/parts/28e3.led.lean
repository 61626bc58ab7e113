/-! THE LAW'S led: an exception thrown and caught, printed by wip/gen/mkled.py -/
theorem nb_H_jk {E : nb_E} {M : nb_M} {H H' : Heap} (h : nb_H E M H) (e1 : H.size ≤ H'.size) (e2 : ∀ q : Nat, q < H.size → H'[q]? = H[q]?) : nb_H E (nb_jk M) H' := by
  obtain ⟨h1, h2, h3, h4, h5, h6⟩ := h
  refine ⟨h1, ⟨Nat.le_trans h2.1 e1, fun q => absurd q (by show ¬ M.2.2.1 + 1 = 0; omega)⟩, fun q hq => ?_, fun a k n ha hs => ?_, h5, h6⟩
  · rw [e2 q (by have : 2 ≤ M.2.1.length := h1; have := h2.1; omega)]
    exact h3 q hq
  · obtain ⟨g1, g2, cell, d1, d2⟩ := h4 a k n ha hs
    exact ⟨g1, g2, cell, by rw [e2 _ (Array.getElem?_eq_some_iff.mp d1).1]; exact d1, d2⟩
def nb_at0 : List Cond := vx_at0 RX8 363 "java/util/NoSuchElementException" ["java/lang/RuntimeException", "java/lang/Exception"]
theorem nb_at0_in : nb_at0.all (fun w => decide (w ∈ lw_tbl) && nb_stw w) = true := by decide +kernel
theorem nb_at0_ot : (Cond.classLink RX8 361 "java/util/NoSuchElementException" :: Cond.initialized "java/util/NoSuchElementException" :: nb_at0).all vx_ot = true := by decide +kernel
theorem nb_at0_of {E : nb_E} {s : State} {args : Array Value} (hS : nb_S E s) : ∀ w ∈ nb_at0, w.before args s = true := by
  intro w hw
  have h := List.all_eq_true.mp nb_at0_in w hw
  simp only [Bool.and_eq_true, decide_eq_true_eq] at h
  have h0 : w.before #[] s = true := hS.1 w h.1 h.2
  exact vx_ot_at (State.WarmedH.refl s) rfl (List.all_eq_true.mp nb_at0_ot w (List.mem_cons_of_mem _ (List.mem_cons_of_mem _ hw))) h0
theorem nb_cw_Ts {i : Nat} {X : nb_X} {y : MethodName} {cc : ByteArray} {rt : Option FieldType} (hw : nb_cwP i) (h1 : nb_mths[i]? = some X) (h2 : nb_nams[i]? = some y) (h3 : nb_cods[i]? = some cc) (h4 : nb_rets[i]? = some rt) : Cond.code y cc X.2.1 rt ∈ nb_Ts := List.mem_filter.mpr ⟨nb_wdl_mem (List.mem_of_getElem? (hw X y cc rt h1 h2 h3 h4)), rfl⟩
def nb_X0 : nb_X := (4, 4, 1, 2, 1)
theorem nb_X0_eq : nb_P.2.2.2.2.1 0 = some nb_X0 := by decide +kernel
theorem nb_CH0 {lv : Nat} (h : 1 < lv) : nb_CHv 8 lv 358 0 nb_X0 := by
  refine ⟨nb_mhB_ok nb_X0_eq nb_cw0 (by decide +kernel), h, yX4_waitingAsNumber, rfl, by decide, by decide, by decide +kernel, nb_in_Ts (j := 5223) (by decide +kernel), nb_in_Ts (j := 5104) (by decide +kernel), nb_in_Ts (j := 5105) (by decide +kernel)⟩
theorem nb_mN {x : Int} (h : -2147483648 ≤ x ∧ x < 2147483648) : (0 : Int32) ≤ Int32.ofInt x ↔ 0 ≤ x := nb_le32 (x := 0) (y := x) (by decide) h
/-- what asking who is led comes to -/
def nb_ask (f : nb_A) (i : Int) (M : nb_M) (p : Int) (M2 : nb_M) : Prop := (i < 0 ∧ M2 = M ∧ p = -1) ∨ (0 ≤ i ∧ f = some ([(0, p)], M2))
set_option maxHeartbeats 2000000 in
theorem nb_x_led {l : Launch} (hlt : l.stackTraces = false) {n : Nat} (hn : nb_Sd l n) {E : nb_E} {M M2 : nb_M} {x i p : Int} (hx0 : x ≠ 0) (hsc : nb_rd M x 5 ≠ 0) (hok : ∀ v ∈ [(19, x), (0, i)], nb_ok M v) (hp : -2147483648 ≤ p ∧ p < 2147483648) (hask : nb_ask (nb_entr nb_P (nb_run nb_P n) 0 nb_X0 [(15, nb_rd M x 5), (0, i)] M) i M p M2) :
    vx_Met l yX8_led [Cond.code yX8_led cX8_led 3 (some .int)] { frames := 8, cells := nb_cz M2 - nb_cz M + 1, slots := nb_sz M2 - nb_sz M + 6, locals := 800 } (nb_pre E M [(19, x), (0, i)])
      (fun _ _ o t => o = .returned (some (.int (Int32.ofInt p))) ∧ 0 ≤ p ∧ nb_H E M2 t.heap) (fun C _ t => C = "java/util/NoSuchElementException" ∧ p < 0 ∧ nb_H E (nb_jk M2) t.heap) (nb_cz M2 - nb_cz M + 1) (nb_sz M2 - nb_sz M + 6) (fun q => E.2.1 ≤ q) := by
  refine vx_ofW (cc := cX8_led) (maxL := 3) (ret := some .int) (by decide +kernel) rfl ?_
  intro p' e s m args below meth c s₁ B hml hout hv
  obtain ⟨rfl, hS, hH⟩ := hv
  have hx := B.exec
  have hb := B.bytes
  have hr := B.returns
  have hown : s.vm.findClass RX8 = some m.cls := findClass_of_methodNamed B.named
  have hlocks := B.notSynchronized
  have hvx : nb_val E (19, x) = .ref (nb_ad E x) := nb_val_ref E (by decide) hx0
  have hargs : ([(19, x), (0, i)] : List nb_V).map (nb_val E) = [.ref (nb_ad E x), .int (Int32.ofInt i)] := by
    rw [← hvx]
    rfl
  rw [hargs]
  have ht : ∀ w ∈ nb_Ts, w.before ([.ref (nb_ad E x), .int (Int32.ofInt i)] : List Value).toArray s = true := hS.1.use
  have hl := lv_entry ([.ref (nb_ad E x), .int (Int32.ofInt i)]) (n := 3) (Nat.le_of_ble_eq_true rfl)
  rw [lg_entry_eq]
  generalize (lg_sl ([.ref (nb_ad E x), .int (Int32.ofInt i)]) ++ List.replicate (3 - (lg_sl ([.ref (nb_ad E x), .int (Int32.ofInt i)])).length) Slot.unset).toArray = ls at hl ⊢
  have hl : lv_has ls 3 [(0, .ref (nb_ad E x)), (1, .int (Int32.ofInt i))] := hl
  have oki : nb_ok M (0, i) := hok (0, i) (by simp)
  have hm2 : nb_mz M ([(0, p)], M2) := by
    rcases hask with ⟨-, e, -⟩ | ⟨-, e⟩
    · rw [e]
      exact nb_mz_rf M _
    · exact nb_entr_mz (nb_run_mz nb_P n) e
  obtain ⟨hm3, hm4⟩ := hm2
  have hm3 : nb_cz M ≤ nb_cz M2 := hm3
  have hm4 : nb_sz M ≤ nb_sz M2 := hm4
  have g16 : ∀ (ls : Array Slot), lv_has ls 3 [(0, .ref (nb_ad E x)), (1, .int (Int32.ofInt i))] → ∀ (H1 : Heap) (locs1 : List Loc), nb_H E M2 H1 → (∀ q ∈ locs1, E.2.1 ≤ q.base) → W p' l e { frames := 8, cells := nb_cz M2 - nb_cz M + 1, slots := nb_sz M2 - nb_sz M + 6, locals := 800 } s m ([.ref (nb_ad E x), .int (Int32.ofInt i)] : List Value).toArray below meth c H1 locs1 (nb_cz M2 - nb_cz M) (nb_sz M2 - nb_sz M) (vx_MQ below (fun _ _ o t => o = .returned (some (.int (Int32.ofInt p))) ∧ 0 ≤ p ∧ nb_H E M2 t.heap) (fun C _ t => C = "java/util/NoSuchElementException" ∧ p < 0 ∧ nb_H E (nb_jk M2) t.heap) ([.ref (nb_ad E x), .int (Int32.ofInt i)] : List Value).toArray s (nb_cz M2 - nb_cz M + 1) (nb_sz M2 - nb_sz M + 6) (fun q => E.2.1 ≤ q)) (F0 m 16 ls [.int (Int32.ofInt p)]) := by
    intro ls hl H1 locs1 hH1 hl1
    refine lv_istore_n (ls := ls) hx hb (show decode cX8_led 16 = .ok (.istore_n 2, 1) from by decide +kernel) rfl hl (by decide) rfl (fun ls' hl' => ?_)
    have hl' : lv_has ls' 3 [(2, .int (Int32.ofInt p)), (0, .ref (nb_ad E x)), (1, .int (Int32.ofInt i))] := hl'
    refine lv_iload_n hx hb (show decode cX8_led 17 = .ok (.iload_n 2, 1) from by decide +kernel) rfl (lv_at hl' 0 rfl) ?_
    refine lv_if_ge (tgt := 29) hx hb (show decode cX8_led 18 = .ok (.ifCond .ge 11, 3) from by decide +kernel) (by decide) (fun q => ?_) (fun q => ?_)
    · have hp0 : 0 ≤ p := (nb_mN hp).mp q
      refine lv_iload_n hx hb (show decode cX8_led 29 = .ok (.iload_n 2, 1) from by decide +kernel) rfl (lv_at hl' 0 rfl) ?_
      refine W.widen (by omega) (by omega) (vx_ret (W.iret (cells := nb_cz M2 - nb_cz M + 1) (slots := nb_sz M2 - nb_sz M + 6) hx hb hr (fun t ht hW => ⟨rfl, hp0, by rw [ht]; exact hH1⟩) hl1 (show decode cX8_led 30 = .ok (.ireturn, 1) from by decide +kernel) hlocks))
    · have hp0 : p < 0 := by
        have : ¬ 0 ≤ p := fun w => q ((nb_mN hp).mpr w)
        omega
      intro T hT X
      have hgr : s.heap.size ≤ H1.size := by
        rw [← hT]
        exact X.heapGrown
      have hSS : va_S (fun q => E.2.1 ≤ q) s.heap H1 locs1 := ⟨hgr, fun q h1 h2 => by rw [hH1.2.2.1 q (by omega), hH.2.2.1 q (by omega)], hl1⟩
      have hJ := hS.2.2.2.2.1.2
      have hq := nb_kept hH.2.2.1
      exact vx_throw0 (names := ["java/lang/RuntimeException", "java/lang/Exception"]) hx hb hlt hown (by decide +kernel) (by decide +kernel) (ht _ (nb_in_Ts (w := Cond.classLink RX8 361 "java/util/NoSuchElementException") (j := 5224) (by decide +kernel))) (ht _ (nb_in_Ts (w := Cond.initialized "java/util/NoSuchElementException") (j := 1022) (by decide +kernel))) (nb_at0_of hS) (fun w hw => List.all_eq_true.mp nb_at0_ot w hw) (vx_Zq.kept hJ.2.2.2.1 hq) (vx_Zq.kept hJ.2.2.2.2 hq) hSS (by rw [hml]; exact hl'.1)
        (show decode cX8_led 21 = .ok (.new 361, 3) from by decide +kernel) (show decode cX8_led 24 = .ok (.dup, 1) from by decide +kernel) (show decode cX8_led 25 = .ok (.invokespecial 363, 3) from by decide +kernel) (show decode cX8_led 28 = .ok (.athrow, 1) from by decide +kernel) (fun z hz => (hout z hz).elim) (Nat.lt_of_lt_of_le (by decide) (Nat.le_refl 8)) (show (0 : Nat) + (13 * (2 + 1) + 42) ≤ 800 by decide) (Nat.le_refl _) (Nat.le_refl _) hlocks
        (fun t hvm e1 e2 => ⟨rfl, hp0, nb_H_jk hH1 e1 e2⟩) hl1 (Nat.le_refl _) (Nat.le_refl _) T hT X
  refine lv_iload_n hx hb (show decode cX8_led 0 = .ok (.iload_n 1, 1) from by decide +kernel) rfl (lv_at hl 1 rfl) ?_
  refine lv_if_ge (tgt := 8) hx hb (show decode cX8_led 1 = .ok (.ifCond .ge 7, 3) from by decide +kernel) (by decide) (fun q => ?_) (fun q => ?_)
  · have hi0 : 0 ≤ i := (nb_mN oki).mp q
    rcases hask with ⟨q', -⟩ | ⟨-, hent⟩
    · omega
    refine lv_aload_n hx hb (show decode cX8_led 8 = .ok (.aload_n 0, 1) from by decide +kernel) rfl (lv_at hl 0 rfl) ?_
    have hLR : nb_LR E M ls [(19, x), (0, i), (98, 0)] := by
      refine ⟨hl.1, hl.2.1, fun j v hj hv => ?_, fun v hv => ?_⟩
      · match j, hj with
        | 0, hj =>
          cases hj
          rw [hvx]
          exact lv_at hl 0 rfl
        | 1, hj =>
          cases hj
          exact lv_at hl 1 rfl
        | 2, hj =>
          cases hj
          exact absurd hv (by decide)
        | j + 3, hj => simp at hj
      · simp only [List.mem_cons, List.not_mem_nil, or_false] at hv
        rcases hv with rfl | rfl | rfl
        · exact hok _ (by simp)
        · exact oki
        · exact nb_ok_0 M 98
    have okx : nb_ok M (19, x) := hok _ (by simp)
    have hgo := nb_s_getf (l := l) (e := e) (R := { frames := 8, cells := nb_cz M2 - nb_cz M + 1, slots := nb_sz M2 - nb_sz M + 6, locals := 800 }) (args := ([.ref (nb_ad E x), .int (Int32.ofInt i)] : List Value).toArray) (below := below) (meth := meth) (Q := (vx_MQ below (fun _ _ o t => o = .returned (some (.int (Int32.ofInt p))) ∧ 0 ≤ p ∧ nb_H E M2 t.heap) (fun C _ t => C = "java/util/NoSuchElementException" ∧ p < 0 ∧ nb_H E (nb_jk M2) t.heap) ([.ref (nb_ad E x), .int (Int32.ofInt i)] : List Value).toArray s (nb_cz M2 - nb_cz M + 1) (nb_sz M2 - nb_sz M + 6) (fun q => E.2.1 ≤ q))) (z0 := nb_cz M) (z1 := nb_sz M) (own := 8) (n := 35) (pc := 9) (b := true) (L := [(19, x), (0, i), (98, 0)]) (st := [(19, x)]) (M := M) (r := ([], M)) (k := fun b' L' st' M' => @ite nb_A (b' = true ∧ L' = [(19, x), (0, i), (98, 0)] ∧ st' = [(15, nb_rd M x 5)] ∧ M' = M) (Classical.propDecidable _) (some ([], M)) none) hx hb hown hS (fun f hf => (nb_tok_of nb_f8 nb_c8 nb_n8).1 35 f hf) (show decode cX8_led 9 = .ok (.getfield 35, 3) from by decide +kernel) (by
        have e : nb_P.1 8 35 = some (8, 5, 15, false) := by decide +kernel
        rw [e]
        unfold nb_getf
        dsimp only
        rw [if_pos rfl, if_pos ⟨by simp [hx0], rfl, rfl, rfl⟩]) (fun b' L' st' M' w => by
        split at w
        · rename_i w1
          exact w1.1
        · cases w) (fun b' L' st' M' w => by
        split at w
        · rename_i w1
          obtain ⟨-, rfl, rfl, rfl⟩ := w1
          intro ls2 H2 locs2 hL2 hS2 hH2 hl2
          have hiv : ls2[1]? = some (.val (.int (Int32.ofInt i))) := hL2.2.2.1 1 (0, i) rfl (by decide)
          refine lv_iload_n hx hb (show decode cX8_led 12 = .ok (.iload_n 1, 1) from by decide +kernel) rfl hiv ?_
          have hcs := nb_cs_v (own := 8) (lv := 8) (idx := 358) hn nb_X0_eq (nb_CH0 (lv := 8) (by decide)) (v := (15, nb_rd M' x 5)) (vs := [(0, i)]) rfl hsc rfl hent
          have hl2' : lv_has ls2 3 [(0, .ref (nb_ad E x)), (1, .int (Int32.ofInt i))] := by
            have h9 := hL2.has
            rw [show nb_asc E [(19, x), (0, i), (98, 0)] = [(0, nb_val E (19, x)), (1, nb_val E (0, i))] from rfl, hvx] at h9
            exact h9
          exact hcs p' e _ s m _ below meth c E (nb_cz M') (nb_sz M') 13 _ ls2 H2 locs2 [] hx (by rw [hml]; exact hl2'.1) hown hS rfl rfl ⟨by show nb_cz M2 - nb_cz M' ≤ nb_cz M2 - nb_cz M' + 1; omega, by show nb_sz M2 - nb_sz M' ≤ nb_sz M2 - nb_sz M' + 6; omega⟩ ⟨Nat.le_refl _, Nat.le_refl _⟩ (by rw [hb]; decide +kernel) (by simp) (fun v hv => by
            simp only [List.mem_cons, List.not_mem_nil, or_false] at hv
            rcases hv with rfl | rfl
            · exact hS2 _ (by simp)
            · exact oki) hH2 hl2 (fun H3 locs3 o3 h3 l3 => g16 ls2 hl2' H3 locs3 h3 l3)
        · cases w)
    have h0 := hgo ls s.heap [] hLR (fun v hv => by rw [List.mem_singleton.mp hv]; exact okx) hH (fun q h => by cases h)
    rw [show ([(19, x)] : List nb_V).map (nb_val E) = [nb_val E (19, x)] from rfl, hvx] at h0
    exact W.widen (Nat.zero_le _) (Nat.zero_le _) h0
  · have hi0 : i < 0 := by
      have : ¬ 0 ≤ i := fun w => q ((nb_mN oki).mpr w)
      omega
    rcases hask with ⟨-, rfl, rfl⟩ | ⟨q', -⟩
    · refine lv_iconst hx hb (show decode cX8_led 4 = .ok (.iconst (-1), 1) from by decide +kernel) rfl ?_
      refine lv_goto (tgt := 16) hx hb (show decode cX8_led 5 = .ok (.goto 11, 3) from by decide +kernel) (by decide) ?_
      exact W.widen (Nat.zero_le _) (Nat.zero_le _) (g16 ls hl s.heap [] hH (fun q h => by cases h))
    · omega
