/-! THE LAW'S led: an exception thrown and caught, printed by wip/gen/mkled.py -/
theorem nb_H_jk {E : nb_E} {M : nb_M} {H H' : Heap} (h : nb_H E M H) (e1 : H.size ≤ H'.size) (e2 : ∀ q : Nat, q < H.size → H'[q]? = H[q]?) : nb_H E (nb_jk M) H' := by
  obtain ⟨h1, h2, h3, h4, h5, h6⟩ := h
  refine ⟨h1, ⟨Nat.le_trans h2.1 e1, fun q => absurd q (by show ¬ M.2.2.1 + 1 = 0; omega)⟩, fun q hq => ?_, fun a k n ha hs => ?_, h5, h6⟩
  · rw [e2 q (by have : 2 ≤ M.2.1.length := h1; have := h2.1; omega)]
    exact h3 q hq
  · obtain ⟨g1, g2, cell, d1, d2⟩ := h4 a k n ha hs
    exact ⟨g1, g2, cell, by rw [e2 _ (Array.getElem?_eq_some_iff.mp d1).1]; exact d1, d2⟩
def nb_at0 : List Cond := vx_at0 RX8 361 "java/util/NoSuchElementException" ["java/lang/RuntimeException", "java/lang/Exception"]
theorem nb_at0_in : nb_at0.all (fun w => decide (w ∈ lw_tbl) && nb_stw w) = true := by decide +kernel
theorem nb_at0_ot : (Cond.classLink RX8 359 "java/util/NoSuchElementException" :: Cond.initialized "java/util/NoSuchElementException" :: nb_at0).all vx_ot = true := by decide +kernel
theorem nb_at0_of {E : nb_E} {s : State} {args : Array Value} (hS : nb_S E s) : ∀ w ∈ nb_at0, w.before args s = true := by
  intro w hw
  have h := List.all_eq_true.mp nb_at0_in w hw
  simp only [Bool.and_eq_true, decide_eq_true_eq] at h
  have h0 : w.before #[] s = true := hS.1 w h.1 h.2
  exact vx_ot_at (State.WarmedH.refl s) rfl (List.all_eq_true.mp nb_at0_ot w (List.mem_cons_of_mem _ (List.mem_cons_of_mem _ hw))) h0
theorem nb_cw_Ts {i : Nat} {X : nb_X} {y : MethodName} {cc : ByteArray} {rt : Option FieldType} (hw : nb_cwP i) (h1 : nb_mths[i]? = some X) (h2 : nb_nams[i]? = some y) (h3 : nb_cods[i]? = some cc) (h4 : nb_rets[i]? = some rt) : Cond.code y cc X.2.1 rt ∈ nb_Ts := List.mem_filter.mpr ⟨nb_wdl_mem (List.mem_of_getElem? (hw X y cc rt h1 h2 h3 h4)), rfl⟩
def nb_X0 : nb_X := (4, 4, 1, 2, 1)
theorem nb_X0_eq : nb_P.2.2.2.2.1 0 = some nb_X0 := by decide +kernel
theorem nb_CH0 {lv : Nat} (h : 1 < lv) : nb_CHv 8 lv 356 0 nb_X0 := by
  refine ⟨nb_mhB_ok nb_X0_eq nb_cw0 (by decide +kernel), h, yX4_waitingAsNumber, rfl, by decide, by decide, by decide +kernel, nb_in_Ts (j := 5223) (by decide +kernel), nb_in_Ts (j := 5104) (by decide +kernel), nb_in_Ts (j := 5105) (by decide +kernel)⟩
theorem nb_mN {x : Int} (h : -2147483648 ≤ x ∧ x < 2147483648) : (0 : Int32) ≤ Int32.ofInt x ↔ 0 ≤ x := nb_le32 (x := 0) (y := x) (by decide) h
/-- what asking who is led comes to -/
def nb_ask (f : nb_A) (i : Int) (M : nb_M) (p : Int) (M2 : nb_M) : Prop := (i < 0 ∧ M2 = M ∧ p = -1) ∨ (0 ≤ i ∧ f = some ([(0, p)], M2))
set_option maxHeartbeats 2000000 in
theorem nb_x_led {l : Launch} (hlt : l.stackTraces = false) {n : Nat} (hn : nb_Sd l n) {E : nb_E} {M M2 : nb_M} {x i p : Int} {d0 d1 : Nat} (hdd : (0 ≤ p ∧ d0 = 0 ∧ d1 = 0) ∨ (p < 0 ∧ d0 = 1 ∧ d1 = 6)) (hx0 : x ≠ 0) (hsc : nb_rd M x 5 ≠ 0) (hok : ∀ v ∈ [(19, x), (0, i)], nb_ok M v) (hp : -2147483648 ≤ p ∧ p < 2147483648) (hask : nb_ask (nb_entr nb_P (nb_run nb_P n) 0 nb_X0 [(15, nb_rd M x 5), (0, i)] M) i M p M2) :
    vx_Met l yX8_led [Cond.code yX8_led cX8_led 3 (some .int)] { frames := 8, cells := nb_cz M2 - nb_cz M + d0, slots := nb_sz M2 - nb_sz M + d1, locals := 800 } (nb_pre E M [(19, x), (0, i)])
      (fun _ _ o t => o = .returned (some (.int (Int32.ofInt p))) ∧ 0 ≤ p ∧ nb_H E M2 t.heap) (fun C _ t => C = "java/util/NoSuchElementException" ∧ p < 0 ∧ nb_H E (nb_jk M2) t.heap) (nb_cz M2 - nb_cz M + d0) (nb_sz M2 - nb_sz M + d1) (fun q => E.2.1 ≤ q) := by
  refine vx_ofW (cc := cX8_led) (maxL := 3) (ret := some .int) (by decide +kernel) rfl ?_
  intro p' e s m args below meth c s₁ B hml hout hv
  obtain ⟨rfl, hS, hH⟩ := hv
  have hx := B.exec
  have hb := B.bytes
  have hr := B.returns
  have hown : s.vm.findClass RX8 = some m.cls := findClass_of_methodNamed B.named
  have hlocks := B.notSynchronized
  have hvx : nb_val E (19, x) = .ref (nb_ad E x) := nb_val_ref E (by decide) hx0
  have hargs : ([(19, x), (0, i)] : List nb_V).map (nb_val E) = [.ref (nb_ad E x), .int (Int32.ofInt i)] := by
    rw [← hvx]
    rfl
  rw [hargs]
  have ht : ∀ w ∈ nb_Ts, w.before ([.ref (nb_ad E x), .int (Int32.ofInt i)] : List Value).toArray s = true := hS.1.use
  have hl := lv_entry ([.ref (nb_ad E x), .int (Int32.ofInt i)]) (n := 3) (Nat.le_of_ble_eq_true rfl)
  rw [lg_entry_eq]
  generalize (lg_sl ([.ref (nb_ad E x), .int (Int32.ofInt i)]) ++ List.replicate (3 - (lg_sl ([.ref (nb_ad E x), .int (Int32.ofInt i)])).length) Slot.unset).toArray = ls at hl ⊢
  have hl : lv_has ls 3 [(0, .ref (nb_ad E x)), (1, .int (Int32.ofInt i))] := hl
  have oki : nb_ok M (0, i) := hok (0, i) (by simp)
  have hm2 : nb_mz M ([(0, p)], M2) := by
    rcases hask with ⟨-, e, -⟩ | ⟨-, e⟩
    · rw [e]
      exact nb_mz_rf M _
    · exact nb_entr_mz (nb_run_mz nb_P n) e
  obtain ⟨hm3, hm4⟩ := hm2
  have hm3 : nb_cz M ≤ nb_cz M2 := hm3
  have hm4 : nb_sz M ≤ nb_sz M2 := hm4
  have g16 : ∀ (ls : Array Slot), lv_has ls 3 [(0, .ref (nb_ad E x)), (1, .int (Int32.ofInt i))] → ∀ (H1 : Heap) (locs1 : List Loc), nb_H E M2 H1 → (∀ q ∈ locs1, E.2.1 ≤ q.base) → W p' l e { frames := 8, cells := nb_cz M2 - nb_cz M + d0, slots := nb_sz M2 - nb_sz M + d1, locals := 800 } s m ([.ref (nb_ad E x), .int (Int32.ofInt i)] : List Value).toArray below meth c H1 locs1 (nb_cz M2 - nb_cz M) (nb_sz M2 - nb_sz M) (vx_MQ below (fun _ _ o t => o = .returned (some (.int (Int32.ofInt p))) ∧ 0 ≤ p ∧ nb_H E M2 t.heap) (fun C _ t => C = "java/util/NoSuchElementException" ∧ p < 0 ∧ nb_H E (nb_jk M2) t.heap) ([.ref (nb_ad E x), .int (Int32.ofInt i)] : List Value).toArray s (nb_cz M2 - nb_cz M + d0) (nb_sz M2 - nb_sz M + d1) (fun q => E.2.1 ≤ q)) (F0 m 16 ls [.int (Int32.ofInt p)]) := by
    intro ls hl H1 locs1 hH1 hl1
    refine lv_istore_n (ls := ls) hx hb (show decode cX8_led 16 = .ok (.istore_n 2, 1) from by decide +kernel) rfl hl (by decide) rfl (fun ls' hl' => ?_)
    have hl' : lv_has ls' 3 [(2, .int (Int32.ofInt p)), (0, .ref (nb_ad E x)), (1, .int (Int32.ofInt i))] := hl'
    refine lv_iload_n hx hb (show decode cX8_led 17 = .ok (.iload_n 2, 1) from by decide +kernel) rfl (lv_at hl' 0 rfl) ?_
    refine lv_if_ge (tgt := 29) hx hb (show decode cX8_led 18 = .ok (.ifCond .ge 11, 3) from by decide +kernel) (by decide) (fun q => ?_) (fun q => ?_)
    · have hp0 : 0 ≤ p := (nb_mN hp).mp q
      refine lv_iload_n hx hb (show decode cX8_led 29 = .ok (.iload_n 2, 1) from by decide +kernel) rfl (lv_at hl' 0 rfl) ?_
      refine W.widen (by omega) (by omega) (vx_ret (W.iret (cells := nb_cz M2 - nb_cz M + d0) (slots := nb_sz M2 - nb_sz M + d1) hx hb hr (fun t ht hW => ⟨rfl, hp0, by rw [ht]; exact hH1⟩) hl1 (show decode cX8_led 30 = .ok (.ireturn, 1) from by decide +kernel) hlocks))
    · have hp0 : p < 0 := by
        have : ¬ 0 ≤ p := fun w => q ((nb_mN hp).mpr w)
        omega
      rcases hdd with ⟨w, -, -⟩ | ⟨-, rfl, rfl⟩
      · omega
      intro T hT X
      have hgr : s.heap.size ≤ H1.size := by
        rw [← hT]
        exact X.heapGrown
      have hSS : va_S (fun q => E.2.1 ≤ q) s.heap H1 locs1 := ⟨hgr, fun q h1 h2 => by rw [hH1.2.2.1 q (by omega), hH.2.2.1 q (by omega)], hl1⟩
      have hJ := hS.2.2.2.2.1.2
      have hq := nb_kept hH.2.2.1
      exact vx_throw0 (R := { frames := 8, cells := nb_cz M2 - nb_cz M + 1, slots := nb_sz M2 - nb_sz M + 6, locals := 800 }) (rest := ([] : List Value)) (names := ["java/lang/RuntimeException", "java/lang/Exception"]) hx hb hlt hown (by decide +kernel) (by decide +kernel) (ht _ (nb_in_Ts (w := Cond.classLink RX8 359 "java/util/NoSuchElementException") (j := 5224) (by decide +kernel))) (ht _ (nb_in_Ts (w := Cond.initialized "java/util/NoSuchElementException") (j := 1022) (by decide +kernel))) (nb_at0_of hS) (fun w hw => List.all_eq_true.mp nb_at0_ot w hw) (vx_Zq.kept hJ.2.2.2.1 hq) (vx_Zq.kept hJ.2.2.2.2 hq) hSS (by rw [hml]; exact hl'.1)
        (show decode cX8_led 21 = .ok (.new 359, 3) from by decide +kernel) (show decode cX8_led 24 = .ok (.dup, 1) from by decide +kernel) (show decode cX8_led 25 = .ok (.invokespecial 361, 3) from by decide +kernel) (show decode cX8_led 28 = .ok (.athrow, 1) from by decide +kernel) (fun z hz => (hout z hz).elim) (Nat.lt_of_lt_of_le (by decide) (Nat.le_refl 8)) (show (0 : Nat) + (13 * (2 + 1) + 42) ≤ 800 by decide) (Nat.le_refl _) (Nat.le_refl _) hlocks
        (fun t hvm e1 e2 => ⟨rfl, hp0, nb_H_jk hH1 e1 e2⟩) hl1 (Nat.le_refl _) (Nat.le_refl _) T hT X
  refine lv_iload_n hx hb (show decode cX8_led 0 = .ok (.iload_n 1, 1) from by decide +kernel) rfl (lv_at hl 1 rfl) ?_
  refine lv_if_ge (tgt := 8) hx hb (show decode cX8_led 1 = .ok (.ifCond .ge 7, 3) from by decide +kernel) (by decide) (fun q => ?_) (fun q => ?_)
  · have hi0 : 0 ≤ i := (nb_mN oki).mp q
    rcases hask with ⟨q', -⟩ | ⟨-, hent⟩
    · omega
    refine lv_aload_n hx hb (show decode cX8_led 8 = .ok (.aload_n 0, 1) from by decide +kernel) rfl (lv_at hl 0 rfl) ?_
    have hLR : nb_LR E M ls [(19, x), (0, i), (98, 0)] := by
      refine ⟨hl.1, hl.2.1, fun j v hj hv => ?_, fun v hv => ?_⟩
      · match j, hj with
        | 0, hj =>
          cases hj
          rw [hvx]
          exact lv_at hl 0 rfl
        | 1, hj =>
          cases hj
          exact lv_at hl 1 rfl
        | 2, hj =>
          cases hj
          exact absurd hv (by decide)
        | j + 3, hj => simp at hj
      · simp only [List.mem_cons, List.not_mem_nil, or_false] at hv
        rcases hv with rfl | rfl | rfl
        · exact hok _ (by simp)
        · exact oki
        · exact nb_ok_0 M 98
    have okx : nb_ok M (19, x) := hok _ (by simp)
    have hgo := nb_s_getf (l := l) (e := e) (R := { frames := 8, cells := nb_cz M2 - nb_cz M + d0, slots := nb_sz M2 - nb_sz M + d1, locals := 800 }) (args := ([.ref (nb_ad E x), .int (Int32.ofInt i)] : List Value).toArray) (below := below) (meth := meth) (Q := (vx_MQ below (fun _ _ o t => o = .returned (some (.int (Int32.ofInt p))) ∧ 0 ≤ p ∧ nb_H E M2 t.heap) (fun C _ t => C = "java/util/NoSuchElementException" ∧ p < 0 ∧ nb_H E (nb_jk M2) t.heap) ([.ref (nb_ad E x), .int (Int32.ofInt i)] : List Value).toArray s (nb_cz M2 - nb_cz M + d0) (nb_sz M2 - nb_sz M + d1) (fun q => E.2.1 ≤ q))) (z0 := nb_cz M) (z1 := nb_sz M) (own := 8) (n := 35) (pc := 9) (b := true) (L := [(19, x), (0, i), (98, 0)]) (st := [(19, x)]) (M := M) (r := ([], M)) (k := fun b' L' st' M' => @ite nb_A (b' = true ∧ L' = [(19, x), (0, i), (98, 0)] ∧ st' = [(15, nb_rd M x 5)] ∧ M' = M) (Classical.propDecidable _) (some ([], M)) none) hx hb hown hS (fun f hf => (nb_tok_of nb_f8 nb_c8 nb_n8).1 35 f hf) (show decode cX8_led 9 = .ok (.getfield 35, 3) from by decide +kernel) (by
        have e : nb_P.1 8 35 = some (8, 5, 15, false) := by decide +kernel
        rw [e]
        unfold nb_getf
        dsimp only
        rw [if_pos rfl, if_pos ⟨by simp [hx0], rfl, rfl, rfl⟩]) (fun b' L' st' M' w => by
        split at w
        · rename_i w1
          exact w1.1
        · cases w) (fun b' L' st' M' w => by
        split at w
        · rename_i w1
          obtain ⟨-, rfl, rfl, rfl⟩ := w1
          intro ls2 H2 locs2 hL2 hS2 hH2 hl2
          have hiv : ls2[1]? = some (.val (.int (Int32.ofInt i))) := hL2.2.2.1 1 (0, i) rfl (show (0 : Nat) < 90 by decide)
          refine lv_iload_n hx hb (show decode cX8_led 12 = .ok (.iload_n 1, 1) from by decide +kernel) rfl hiv ?_
          have hcs := nb_cs_v (own := 8) (lv := 8) (idx := 356) hn nb_X0_eq (nb_CH0 (lv := 8) (by decide)) (v := (15, nb_rd M' x 5)) (vs := [(0, i)]) rfl hsc rfl hent
          have hl2' : lv_has ls2 3 [(0, .ref (nb_ad E x)), (1, .int (Int32.ofInt i))] := by
            have h9 := hL2.has
            rw [show nb_asc E [(19, x), (0, i), (98, 0)] = [(0, nb_val E (19, x)), (1, nb_val E (0, i))] from rfl, hvx] at h9
            exact h9
          exact hcs p' e _ s m _ below meth c E (nb_cz M') (nb_sz M') 13 _ ls2 H2 locs2 [] hx (by rw [hml]; exact hl2'.1) hown hS (Nat.le_refl _) (Nat.le_refl _) ⟨by show nb_cz M2 - nb_cz M' ≤ nb_cz M2 - nb_cz M' + d0; omega, by show nb_sz M2 - nb_sz M' ≤ nb_sz M2 - nb_sz M' + d1; omega⟩ ⟨Nat.le_refl _, Nat.le_refl _⟩ (by rw [hb]; decide +kernel) (by simp) (fun v hv => by
            simp only [List.mem_cons, List.not_mem_nil, or_false] at hv
            rcases hv with rfl | rfl
            · exact hS2 _ (by simp)
            · exact oki) hH2 hl2 (fun H3 locs3 o3 h3 l3 => g16 ls2 hl2' H3 locs3 h3 l3)
        · cases w)
    have h0 := hgo ls s.heap [] hLR (fun v hv => by rw [List.mem_singleton.mp hv]; exact okx) hH (fun q h => by cases h)
    rw [show ([(19, x)] : List nb_V).map (nb_val E) = [nb_val E (19, x)] from rfl, hvx] at h0
    exact W.widen (Nat.zero_le _) (Nat.zero_le _) h0
  · have hi0 : i < 0 := by
      have : ¬ 0 ≤ i := fun w => q ((nb_mN oki).mpr w)
      omega
    rcases hask with ⟨-, rfl, rfl⟩ | ⟨q', -⟩
    · refine lv_iconst hx hb (show decode cX8_led 4 = .ok (.iconst (-1), 1) from by decide +kernel) rfl ?_
      refine lv_goto (tgt := 16) hx hb (show decode cX8_led 5 = .ok (.goto 11, 3) from by decide +kernel) (by decide) ?_
      exact W.widen (Nat.zero_le _) (Nat.zero_le _) (g16 ls hl s.heap [] hH (fun q h => by cases h))
    · omega
theorem nb_i2l_eq {p : Int} (h : -2147483648 ≤ p ∧ p < 2147483648) : nb_i2l p = p := by
  show (Int32.ofInt p).toInt64.toInt = p
  rw [Int32.toInt_toInt64, nb_i32 h]
set_option maxHeartbeats 2000000 in
theorem nb_l_led {l : Launch} (hlt : l.stackTraces = false) {n : Nat} (hn : nb_Sd l n) {E : nb_E} {M M2 : nb_M} {x i o p : Int} {d0 d1 : Nat} {r : List nb_V × nb_M} (hdd : (0 ≤ p ∧ d0 = 0 ∧ d1 = 0) ∨ (p < 0 ∧ d0 = 1 ∧ d1 = 6)) (hx0 : x ≠ 0) (hsc : nb_rd M x 5 ≠ 0) (ho : 2 ≤ o) (hlo : 0 < nb_ln M o) (hok : ∀ v ∈ [(19, x), (0, i), (5, o)], nb_ok M v) (hp : -2147483648 ≤ p ∧ p < 2147483648) (hask : nb_ask (nb_entr nb_P (nb_run nb_P n) 0 nb_X0 [(15, nb_rd M x 5), (0, i)] M) i M p M2) (hr0 : (p < 0 ∧ r = ([(0, 1)], nb_jk M2)) ∨ (0 ≤ p ∧ r = ([(0, 0)], nb_wr M2 o 0 p))) :
    vx_Met l yL_led [Cond.codeWith yL_led cL_led 4 (some .int) [(0, 9, 12, 13)]] { frames := 9, cells := nb_cz r.2 - nb_cz M, slots := nb_sz r.2 - nb_sz M, locals := 900 } (nb_pre E M [(19, x), (0, i), (5, o)]) (nb_Qc E r) (fun _ _ _ => False) (nb_cz r.2 - nb_cz M) (nb_sz r.2 - nb_sz M) (fun q => E.2.1 ≤ q) := by
  refine vx_ofWH (cc := cL_led) (maxL := 4) (ret := some .int) (hh := [(0, 9, 12, 13)]) (by decide +kernel) rfl ?_
  intro p' e s m args below meth c s₁ B hml hv
  obtain ⟨rfl, hS, hH⟩ := hv
  have hx := B.exec
  have hb := B.bytes
  have hr := B.returns
  have hown : s.vm.findClass RL = some m.cls := findClass_of_methodNamed B.named
  have hlocks := B.notSynchronized
  have hts := atoms_spec (ws := [Cond.codeWith yL_led cL_led 4 (some .int) [(0, 9, 12, 13)]]) B.pre
  have hexc := vx_table (x := yL_led) B (hts _ List.mem_cons_self)
  have hm2 : nb_mz M ([(0, p)], M2) ∧ nb_px M ([(0, p)], M2) := by
    rcases hask with ⟨-, e, -⟩ | ⟨-, e⟩
    · rw [e]
      exact ⟨nb_mz_rf M _, nb_px_rf M _⟩
    · exact ⟨nb_entr_mz (nb_run_mz nb_P n) e, nb_entr_px (nb_run_px nb_P n) e⟩
  obtain ⟨⟨hm3, hm4⟩, hpx⟩ := hm2
  have hm3 : nb_cz M ≤ nb_cz M2 := hm3
  have hm4 : nb_sz M ≤ nb_sz M2 := hm4
  have hcz : nb_cz r.2 = nb_cz M2 + d0 ∧ nb_sz r.2 = nb_sz M2 + d1 := by
    rcases hr0 with ⟨q, rfl⟩ | ⟨q, rfl⟩
    · rcases hdd with ⟨w, -, -⟩ | ⟨-, rfl, rfl⟩
      · omega
      · constructor
        · show M2.2.1.length + (M2.2.2.1 + 1) = M2.2.1.length + M2.2.2.1 + 1
          omega
        · show (M2.2.1.map (fun q => q.2)).sum + (M2.2.2.2 + 6) = (M2.2.1.map (fun q => q.2)).sum + M2.2.2.2 + 6
          omega
    · rcases hdd with ⟨-, rfl, rfl⟩ | ⟨w, -, -⟩
      · exact ⟨rfl, rfl⟩
      · omega
  have hvx : nb_val E (19, x) = .ref (nb_ad E x) := nb_val_ref E (by decide) hx0
  have hvo : nb_val E (5, o) = .ref (nb_ad E o) := nb_val_ref E (by decide) (by omega)
  have hargs : ([(19, x), (0, i), (5, o)] : List nb_V).map (nb_val E) = [.ref (nb_ad E x), .int (Int32.ofInt i), .ref (nb_ad E o)] := by
    rw [← hvx, ← hvo]
    rfl
  rw [hargs]
  have ht : ∀ w ∈ nb_Ts, w.before ([.ref (nb_ad E x), .int (Int32.ofInt i), .ref (nb_ad E o)] : List Value).toArray s = true := hS.1.use
  have hl := lv_entry ([.ref (nb_ad E x), .int (Int32.ofInt i), .ref (nb_ad E o)]) (n := 4) (Nat.le_of_ble_eq_true rfl)
  rw [lg_entry_eq]
  generalize (lg_sl ([.ref (nb_ad E x), .int (Int32.ofInt i), .ref (nb_ad E o)]) ++ List.replicate (4 - (lg_sl ([.ref (nb_ad E x), .int (Int32.ofInt i), .ref (nb_ad E o)])).length) Slot.unset).toArray = ls at hl ⊢
  have hl : lv_has ls 4 [(0, .ref (nb_ad E x)), (1, .int (Int32.ofInt i)), (2, .ref (nb_ad E o))] := hl
  have oki : nb_ok M (0, i) := hok (0, i) (by simp)
  have okx : nb_ok M (11 + 8, x) := hok (19, x) (by simp)
  have oko : nb_ok M (5, o) := hok (5, o) (by simp)
  obtain ⟨-, cell, hc1, hc2, hc3⟩ := nb_recv hS hH (by decide) okx hx0
  refine lv_aload_n hx hb (show decode cL_led 0 = .ok (.aload_n 2, 1) from by decide +kernel) rfl (lv_at hl 2 rfl) ?_
  refine lv_iconst hx hb (show decode cL_led 1 = .ok (.iconst 0, 1) from by decide +kernel) rfl ?_
  refine lv_aload_n hx hb (show decode cL_led 2 = .ok (.aload_n 0, 1) from by decide +kernel) rfl (lv_at hl 0 rfl) ?_
  refine lv_iload_n hx hb (show decode cL_led 3 = .ok (.iload_n 1, 1) from by decide +kernel) rfl (lv_at hl 1 rfl) ?_
  intro T hT X
  have hrun := vx_runV (l := l) (e := e) (R := { frames := 9, cells := nb_cz r.2 - nb_cz M, slots := nb_sz r.2 - nb_sz M, locals := 900 }) (below := below) (meth := meth) (H := s.heap) (locs := []) (cells := 0) (slots := 0) (rest := [.int 0, .ref (nb_ad E o)]) (g := F0 m 4 ls [.int (Int32.ofInt i), .ref (nb_ad E x), .int 0, .ref (nb_ad E o)]) (n := 1) (index := 7) (b := nb_ad E x) (As := [.int (Int32.ofInt i)])
    (S := (⟨hx, hb, hml, hown, ht⟩ : CallFix p' m c cL_led 4 s ([.ref (nb_ad E x), .int (Int32.ofInt i), .ref (nb_ad E o)] : List Value).toArray nb_Ts RL)) (nb_x_led (E := E) hlt hn hdd hx0 hsc (fun v hv => by
      simp only [List.mem_cons, List.not_mem_nil, or_false] at hv
      rcases hv with rfl | rfl
      · exact okx
      · exact oki) hp hask)
    (cwV (C := "NextAtBar") 1 ht (fun w hw => by
      have hw' : w ∈ nb_Ts := by
        simp only [wsV, List.mem_append, List.mem_cons, List.not_mem_nil, or_false] at hw
        rcases hw with (rfl | rfl | rfl | rfl) | rfl
        · exact nb_in_Ts (j := 5219) (by decide +kernel)
        · exact nb_in_Ts (j := 5220) (by decide +kernel)
        · exact nb_in_Ts (j := 5221) (by decide +kernel)
        · exact nb_in_Ts (j := 1001) (by decide +kernel)
        · exact nb_in_Ts (j := 5222) (by decide +kernel)
      exact ⟨hw', nb_Ts_good hw'⟩) rfl rfl rfl ⟨rfl, by decide +kernel, by decide +kernel, by decide +kernel⟩ ⟨Nat.le_of_ble_eq_true rfl, Nat.le_of_ble_eq_true rfl⟩)
    ⟨nb_pre_blind E M _, ⟨cell, hc1, hc2, hc3⟩, fun U hU hW => ⟨by rw [← hvx]; rfl, hS.warm hW, by rw [hU]; exact hH⟩⟩ rfl rfl hl.1 rfl (by simp [Value.category]) (show decode cL_led 4 = .ok (.invokevirtual 7, 3) from by decide +kernel) ⟨by show 0 + (nb_cz M2 - nb_cz M + d0) ≤ nb_cz r.2 - nb_cz M; omega, by show 0 + (nb_sz M2 - nb_sz M + d1) ≤ nb_sz r.2 - nb_sz M; omega⟩
  rcases hrun T hT X with ⟨v, st₀, t, T', L, h0, X', hL, e1, e2, ⟨hv, hp0, hH2⟩, st⟩ | ⟨q, st₀, t, T', L, Ex, ce, h0, X', hL, e1, e2, ⟨rfl, hp0, hHj⟩, hce, hcv, hcf, st⟩
  · cases hv
    rcases hr0 with ⟨q, -⟩ | ⟨-, rfl⟩
    · omega
    rcases hdd with ⟨-, rfl, rfl⟩ | ⟨w, -, -⟩
    rotate_left
    · omega
    have hLR : nb_LR E M2 ls [(19, x), (0, i), (5, o), (98, 0)] := by
      refine ⟨hl.1, hl.2.1, fun j v hj hv => ?_, fun v hv => ?_⟩
      · match j, hj with
        | 0, hj =>
          cases hj
          rw [hvx]
          exact lv_at hl 0 rfl
        | 1, hj =>
          cases hj
          exact lv_at hl 1 rfl
        | 2, hj =>
          cases hj
          rw [hvo]
          exact lv_at hl 2 rfl
        | 3, hj =>
          cases hj
          exact absurd hv (by decide)
        | j + 4, hj => simp at hj
      · simp only [List.mem_cons, List.not_mem_nil, or_false] at hv
        rcases hv with rfl | rfl | rfl | rfl
        · exact nb_ok_mono (nb_px_get hpx) okx
        · exact oki
        · exact nb_ok_mono (nb_px_get hpx) oko
        · exact nb_ok_0 M2 98
    have hlo2 : 0 < nb_ln M2 o := by
      obtain ⟨A, nA, eo, hA2, hsA, -, -, -, hlA⟩ := nb_cell_of hH oko (by omega) (by omega)
      have := nb_px_get hpx _ _ hsA
      have e3 : nb_ln M2 o = (nA : Int) := by
        unfold nb_ln
        have h9 : M2.2.1[o.toNat]? = some (2, nA) := by
          rw [eo]
          exact this
        rw [h9]
      rw [e3, ← hlA]
      exact hlo
    have hgo : nb_Go p' l e { frames := 9, cells := nb_cz (nb_wr M2 o 0 p) - nb_cz M, slots := nb_sz (nb_wr M2 o 0 p) - nb_sz M, locals := 900 } s m ([.ref (nb_ad E x), .int (Int32.ofInt i), .ref (nb_ad E o)] : List Value).toArray below meth c (vx_MQ below (nb_Qc E ([(0, 0)], nb_wr M2 o 0 p)) (fun _ _ _ => False) ([.ref (nb_ad E x), .int (Int32.ofInt i), .ref (nb_ad E o)] : List Value).toArray s (nb_cz (nb_wr M2 o 0 p) - nb_cz M) (nb_sz (nb_wr M2 o 0 p) - nb_sz M) (fun q => E.2.1 ≤ q)) E (nb_cz M) (nb_sz M) 7 [(19, x), (0, i), (5, o), (98, 0)] [(0, p), (0, 0), (5, o)] M2 := by
      refine nb_str_sound (r := ([(0, 0)], nb_wr M2 o 0 p)) (own := 10) (ini := false) (nL := 4) hx hb hown hS (fun q => by cases q) (nb_tok_of nb_f10 nb_c10 nb_n10) (by rw [← hb]; exact nb_MN l _ _ _ _ _ _ _ _ _ _ _ _ _ _ _ hx hown hS ⟨Nat.le_refl _, Nat.le_refl _⟩ (by decide)) ⟨Nat.le_refl _, Nat.le_refl _⟩ (k := fun b' L' st' M' => @ite nb_A (b' = true ∧ L' = [(19, x), (0, i), (5, o), (98, 0)] ∧ st' = [] ∧ M' = nb_wr M2 o 0 p) (Classical.propDecidable _) (some ([(0, 0)], nb_wr M2 o 0 p)) none) (fun b' L' st' M' w => by
        split at w
        · rename_i w1
          exact w1.1
        · cases w) (fun b' L' st' M' w => by
        split at w
        · rename_i w1
          rw [w1.2.2.2]
          exact ⟨Nat.le_refl _, Nat.le_refl _⟩
        · cases w) [(.i2l, 1), (.lastore, 1)] 7 true _ _ _ (by decide +kernel) ⟨hm3, hm4⟩ rfl ?_ ?_
      · simp only [nb_str, nb_sx, nb_un, nb_ast, nb_i2l_eq hp, if_true, and_self]
        exact if_pos ⟨by simp; omega, trivial⟩
      · intro b' L' st' M' w hz' hL'
        split at w
        · rename_i w1
          obtain ⟨-, rfl, rfl, rfl⟩ := w1
          intro ls2 H2 locs2 hL2 hS2 hH2 hl2
          refine lv_goto (pc := 9) (tgt := 15) hx hb (show decode cL_led 9 = .ok (.goto 6, 3) from by decide +kernel) (by decide) ?_
          refine lv_iconst hx hb (show decode cL_led 15 = .ok (.iconst 0, 1) from by decide +kernel) rfl ?_
          exact vx_ret (W.iret hx hb hr (fun t ht hW => ⟨rfl, Nat.le_refl 1, fun v hv => by rw [List.mem_singleton.mp hv]; exact ⟨by decide, by decide⟩, by rw [ht]; exact hH2⟩) hl2 (show decode cL_led 16 = .ok (.ireturn, 1) from by decide +kernel) hlocks)
        · cases w
    have hW := hgo ls T'.heap L hLR (fun v hv => by
      simp only [List.mem_cons, List.not_mem_nil, or_false] at hv
      rcases hv with rfl | rfl | rfl
      · exact hp
      · exact ⟨by decide, by decide⟩
      · exact nb_ok_mono (nb_px_get hpx) oko) (by rw [e1]; exact hH2) (fun q hq => hL q hq)
    obtain ⟨t2, a1, b1⟩ := hW T' rfl (by
      have e9 : nb_cz M2 - nb_cz M = 0 + (nb_cz M2 - nb_cz M + 0) := by omega
      have e8 : nb_sz M2 - nb_sz M = 0 + (nb_sz M2 - nb_sz M + 0) := by omega
      rw [e9, e8]
      exact X')
    refine ⟨t2, st t2 ?_, b1⟩
    rw [show ([(0, p), (0, 0), (5, o)] : List nb_V).map (nb_val E) = [.int (Int32.ofInt p), .int 0, nb_val E (5, o)] from rfl, hvo] at a1
    exact a1
  · rcases hr0 with ⟨-, rfl⟩ | ⟨w, -⟩
    rotate_left
    · omega
    have hcast : (Cond.castable "java/util/NoSuchElementException" "java/util/NoSuchElementException").before ([.ref (nb_ad E x), .int (Int32.ofInt i), .ref (nb_ad E o)] : List Value).toArray s = true := nb_at0_of hS _ (by decide +kernel)
    have hw := vx_catch (l := l) (e := e) (R := { frames := 9, cells := nb_cz (nb_jk M2) - nb_cz M, slots := nb_sz (nb_jk M2) - nb_sz M, locals := 900 }) (below := below) (meth := meth) (H := T'.heap) (locs := [] ++ L) (cells := 0 + (nb_cz M2 - nb_cz M + d0)) (slots := 0 + (nb_sz M2 - nb_sz M + d1)) (pc := 4) (ls := ls) (rest := [.int 0, .ref (nb_ad E o)]) (Q := vx_MQ below (nb_Qc E ([(0, 1)], nb_jk M2)) (fun _ _ _ => False) ([.ref (nb_ad E x), .int (Int32.ofInt i), .ref (nb_ad E o)] : List Value).toArray s (nb_cz (nb_jk M2) - nb_cz M) (nb_sz (nb_jk M2) - nb_sz M) (fun q => E.2.1 ≤ q)) hown [] _ [] (hexc.trans rfl) (fun z hz => by cases hz) (by decide) (by decide) (ht (Cond.classLink RL 13 "java/util/NoSuchElementException") (nb_in_Ts (j := 5218) (by decide +kernel))) hcast (by rw [e1]; exact hce) hcv hcf (by
      show W p' l e _ s m _ below meth c _ _ _ _ _ (F0 m 12 ls [.ref q])
      refine lv_astore_n hx hb (show decode cL_led 12 = .ok (.astore_n 3, 1) from by decide +kernel) rfl hl (by decide) rfl (fun ls' hl' => ?_)
      refine lv_iconst hx hb (show decode cL_led 13 = .ok (.iconst 1, 1) from by decide +kernel) rfl ?_
      refine W.widen (by show _ ≤ nb_cz (nb_jk M2) - nb_cz M; have := hcz.1; dsimp only at this; omega) (by show _ ≤ nb_sz (nb_jk M2) - nb_sz M; have := hcz.2; dsimp only at this; omega) (vx_ret (W.iret hx hb hr (fun t ht hW => ⟨rfl, Nat.le_refl 1, fun v hv => by rw [List.mem_singleton.mp hv]; exact ⟨by decide, by decide⟩, by rw [ht, e1]; exact hHj⟩) (fun z hz => hL z (by simpa using hz)) (show decode cL_led 14 = .ok (.ireturn, 1) from by decide +kernel) hlocks)))
    obtain ⟨t2, a1, b1⟩ := hw T' rfl X'
    exact ⟨t2, st.trans a1, b1⟩
set_option maxHeartbeats 1000000 in
theorem nb_cs_904 {l : Launch} (hlt : l.stackTraces = false) {n lv : Nat} (hn : nb_Sd l n) {M : nb_M} {x i o : Int} {r : List nb_V × nb_M} (hlv : 11 ≤ lv) (h : nb_led (fun c' vs' M' => match nb_P.2.2.2.2.1 c' with
      | some X => nb_entr nb_P (nb_run nb_P n) c' X vs' M'
      | none => none) x i o M = some r) : nb_CS l 10 lv (.invokestatic 224) [(19, x), (0, i), (5, o)] M r := by
  intro p' e R s m args below meth c E z0 z1 pc Q ls H locs rest hx hls hown hS hRf hRl hRc hz hd hrest hok hH hl' kk
  have ht : ∀ w ∈ nb_Ts, w.before args s = true := hS.1.use
  have oki : nb_ok M (0, i) := hok (0, i) (by simp)
  unfold nb_led at h
  split at h
  · cases h
  · rename_i hc
    have hx0 : x ≠ 0 := fun q => hc (Or.inl q)
    have hsc : nb_rd M x 5 ≠ 0 := fun q => hc (Or.inr (Or.inl q))
    have ho : 2 ≤ o := by
      rcases Int.lt_or_le o 2 with q | q
      · exact absurd (Or.inr (Or.inr (Or.inl q))) hc
      · exact q
    have hlo : 0 < nb_ln M o := by
      rcases Int.lt_or_le 0 (nb_ln M o) with q | q
      · exact q
      · exact absurd (Or.inr (Or.inr (Or.inr q))) hc
    obtain ⟨p, M2, d0, d1, hdd, hp, hask, hr0⟩ : ∃ (p : Int) (M2 : nb_M) (d0 d1 : Nat), ((0 ≤ p ∧ d0 = 0 ∧ d1 = 0) ∨ (p < 0 ∧ d0 = 1 ∧ d1 = 6)) ∧ (-2147483648 ≤ p ∧ p < 2147483648) ∧ nb_ask (nb_entr nb_P (nb_run nb_P n) 0 nb_X0 [(15, nb_rd M x 5), (0, i)] M) i M p M2 ∧ ((p < 0 ∧ r = ([(0, 1)], nb_jk M2)) ∨ (0 ≤ p ∧ r = ([(0, 0)], nb_wr M2 o 0 p))) := by
      split at h
      · rename_i hi
        cases h
        exact ⟨-1, M, 1, 6, Or.inr ⟨by decide, rfl, rfl⟩, ⟨by decide, by decide⟩, Or.inl ⟨hi, rfl, rfl⟩, Or.inl ⟨by decide, rfl⟩⟩
      · rename_i hi
        obtain ⟨a, ha, hb⟩ := Option.bind_eq_some_iff.mp h
        have ha' : nb_entr nb_P (nb_run nb_P n) 0 nb_X0 [(15, nb_rd M x 5), (0, i)] M = some a := ha
        obtain ⟨av, M2⟩ := a
        dsimp only at hb
        split at hb
        · rename_i p
          split at hb
          · cases hb
          · rename_i hpr
            have hp : -2147483648 ≤ p ∧ p < 2147483648 := by omega
            split at hb
            · rename_i hp0
              cases hb
              exact ⟨p, M2, 1, 6, Or.inr ⟨hp0, rfl, rfl⟩, hp, Or.inr ⟨by omega, ha'⟩, Or.inl ⟨hp0, rfl⟩⟩
            · rename_i hp0
              cases hb
              exact ⟨p, M2, 0, 0, Or.inl ⟨by omega, rfl, rfl⟩, hp, Or.inr ⟨by omega, ha'⟩, Or.inr ⟨by omega, rfl⟩⟩
        · cases hb
    have hmz : nb_mz M r := by
      have h1 : nb_mz M ([(0, p)], M2) := by
        rcases hask with ⟨-, e, -⟩ | ⟨-, e⟩
        · rw [e]
          exact nb_mz_rf M _
        · exact nb_entr_mz (nb_run_mz nb_P n) e
      rcases hr0 with ⟨-, rfl⟩ | ⟨-, rfl⟩
      · exact nb_mz_tr h1 (nb_jk_mz M2 _)
      · exact h1
    obtain ⟨hm1, hm2⟩ := id hmz
    have hrun := vx_runSX (l := l) (e := e) (R := R) (below := below) (meth := meth) (locs := locs) (cells := nb_cz M - z0) (slots := nb_sz M - z1) (rest := rest) (g := F0 m pc ls ((([(19, x), (0, i), (5, o)] : List nb_V).map (nb_val E)).reverse ++ rest)) (n := 3) (index := 224) (H := H)
      (S := (⟨hx, rfl, rfl, hown, ht⟩ : CallFix p' m c c.code c.maxLocals s args nb_Ts RL)) (nb_l_led (E := E) hlt hn hdd hx0 hsc ho hlo hok hp hask hr0)
      (vx_cwSW 3 ht (fun w hw => by
        have hw' : w ∈ nb_Ts := by
          simp only [va_wsS, List.mem_append, List.mem_cons, List.not_mem_nil, or_false] at hw
          rcases hw with (rfl | rfl | rfl) | rfl
          · exact nb_in_Ts (j := 5215) (by decide +kernel)
          · exact nb_in_Ts (j := 5216) (by decide +kernel)
          · exact nb_in_Ts (j := 1000) (by decide +kernel)
          · exact nb_in_Ts (j := 5217) (by decide +kernel)
        exact ⟨hw', nb_Ts_good hw'⟩) rfl rfl rfl ⟨by decide +kernel, by decide +kernel, by decide +kernel⟩ ⟨by show 9 + 1 ≤ R.frames; omega, by show 8 + (4 + 11) + 900 ≤ R.locals; omega⟩)
      (As := ([(19, x), (0, i), (5, o)] : List nb_V).map (nb_val E))
      ⟨nb_pre_blind E M _, fun U hU hW => ⟨rfl, hS.warm hW, by rw [hU]; exact hH⟩⟩
      rfl rfl hls rfl (by simpa using hrest) hd (by omega)
    refine nb_after (a := r) (aa := (([(19, x), (0, i), (5, o)] : List nb_V).map (nb_val E)).toArray) (fun T hT X => ?_) hl' hmz hz kk
    rcases hrun T hT X with w | ⟨q, st₀, t, T', L, Ex, ce, h0, X', hL, e1, e2, w, -⟩
    · exact w
    · exact w.elim
