/-! SOUNDNESS of calls -/
theorem nb_wt_cat (E : nb_E) : ∀ st : List nb_V, ((st.map (nb_val E)).map fun v => v.category).sum = nb_wt st
  | [] => rfl
  | v :: st => by
    have ih := nb_wt_cat E st
    simp only [List.map_cons, List.sum_cons, nb_wt, ih, nb_val_cat]
theorem nb_Ts_good {w : Cond} (h : w ∈ nb_Ts) : (w.onTables && w.keeps) = true ∨ ∃ ty, w = .arrayClass ty := good_of_word (List.mem_filter.mp h).2
/-- a call goes well: from the arguments on the stack to what is answered on it -/
def nb_CS (l : Launch) (own lv : Nat) (last : Instr) (vs : List nb_V) (M : nb_M) (a : List nb_V × nb_M) : Prop :=
  ∀ (p : Program) (e : Env) (R : Room) (s : State) (m : MethodId) (args : Array Value) (below : List Frame) (meth : Method) (c : Code) (E : nb_E) (z0 z1 pc : Nat) (Q : State → Prop) (ls : Array Slot) (H : Heap) (locs : List Loc) (rest : List Value),
  p.tables.exec = Jvm.exec → ls.size = c.maxLocals → s.vm.findClass (nb_onm own) = some m.cls → nb_S E s → lv ≤ R.frames → 100 * lv ≤ R.locals → nb_cz a.2 - z0 ≤ R.cells ∧ nb_sz a.2 - z1 ≤ R.slots → z0 ≤ nb_cz M ∧ z1 ≤ nb_sz M → decode c.code pc = .ok (last, 3) → (rest.map fun v => v.category).sum ≤ 8 →
  (∀ v ∈ vs, nb_ok M v) → nb_H E M H → (∀ q ∈ locs, E.2.1 ≤ q.base) →
  (∀ (H1 : Heap) (locs1 : List Loc), (∀ v ∈ a.1, nb_ok a.2 v) → nb_H E a.2 H1 → (∀ q ∈ locs1, E.2.1 ≤ q.base) → W p l e R s m args below meth c H1 locs1 (nb_cz a.2 - z0) (nb_sz a.2 - z1) Q (F0 m (pc + 3) ls (a.1.map (nb_val E) ++ rest))) →
  W p l e R s m args below meth c H locs (nb_cz M - z0) (nb_sz M - z1) Q (F0 m pc ls ((vs.map (nb_val E)).reverse ++ rest))
section NBC
variable {p : Program} {l : Launch} {e : Env} {R : Room} {s : State} {m : MethodId} {args : Array Value} {below : List Frame} {meth : Method} {c : Code} {Q : State → Prop} {E : nb_E} {z0 z1 pc : Nat} {M : nb_M} {a : List nb_V × nb_M}
theorem nb_after {H : Heap} {locs : List Loc} {ls : Array Slot} {st0 rest : List Value} {aa : Array Value} (hr : va_Run p l e R s m args below meth c H locs (nb_cz M - z0) (nb_sz M - z1) (nb_cz a.2 - nb_cz M) (nb_sz a.2 - nb_sz M) (F0 m pc ls st0) rest (nb_Qc E a aa) (fun q => E.2.1 ≤ q)) (hl : ∀ q ∈ locs, E.2.1 ≤ q.base) (hm : nb_mz M a) (hz : z0 ≤ nb_cz M ∧ z1 ≤ nb_sz M)
    (kk : ∀ (H1 : Heap) (locs1 : List Loc), (∀ v ∈ a.1, nb_ok a.2 v) → nb_H E a.2 H1 → (∀ q ∈ locs1, E.2.1 ≤ q.base) → W p l e R s m args below meth c H1 locs1 (nb_cz a.2 - z0) (nb_sz a.2 - z1) Q (F0 m (pc + 3) ls (a.1.map (nb_val E) ++ rest))) :
    W p l e R s m args below meth c H locs (nb_cz M - z0) (nb_sz M - z1) Q (F0 m pc ls st0) := by
  intro T hT X
  obtain ⟨v, st₀, t, T', L, h0, X', hL, e1, e2, ⟨q1, q2, q3, q4⟩, st⟩ := hr T hT X
  have hv : v = a.1.head?.map (nb_val E) := by
    cases q1
    rfl
  have hst : v.toList = a.1.map (nb_val E) := by
    rw [hv]
    match a.1, q2 with
    | [], _ => rfl
    | [_], _ => rfl
    | _ :: _ :: _, q2 => simp at q2
  obtain ⟨hm1, hm2⟩ := hm
  rw [show nb_cz M - z0 + (nb_cz a.2 - nb_cz M) = nb_cz a.2 - z0 by omega, show nb_sz M - z1 + (nb_sz a.2 - nb_sz M) = nb_sz a.2 - z1 by omega] at X'
  obtain ⟨t2, a1, b1⟩ := kk T'.heap (locs ++ L) q3 (by rw [e1]; exact q4) (fun q hq => by
    rcases List.mem_append.mp hq with h | h
    · exact hl q h
    · exact hL q h) T' rfl X'
  rw [← hst] at a1
  exact ⟨t2, st t2 a1, b1⟩
end NBC
/-- a call's row: its callee is walked -/
def nb_CHv (own lv n cl : Nat) (X : nb_X) : Prop := nb_MH cl X ∧ X.2.2.2.2 < lv ∧ ∃ y, nb_nams[cl]? = some y ∧ X.1 < 10 ∧ 1 ≤ X.2.2.2.1 ∧ (parseMethodDescriptor y.desc).map (fun d => d.parameters.length) = some (X.2.2.2.1 - 1) ∧ Cond.methodLink (nb_onm own) n y ∈ nb_Ts ∧ Cond.instanceMethod y ∈ nb_Ts ∧ Cond.selects y.cls y y ∈ nb_Ts
def nb_CHi (own lv n cl : Nat) (X : nb_X) : Prop := nb_MH cl X ∧ X.2.2.2.2 < lv ∧ ∃ y, nb_nams[cl]? = some y ∧ X.1 < 10 ∧ 1 ≤ X.2.2.2.1 ∧ (parseMethodDescriptor y.desc).map (fun d => d.parameters.length) = some (X.2.2.2.1 - 1) ∧ Cond.instanceMethod y ∈ nb_Ts ∧ y.name = "<init>" ∧ nb_rets[cl]? = some none ∧ (Cond.methodLink (nb_onm own) n y ∈ nb_Ts ∨ ∃ host, Cond.methodLinkNest (nb_onm own) n y host ∈ lw_tbl)
def nb_CHs (own lv n cl : Nat) (X : nb_X) : Prop := nb_MH cl X ∧ X.2.2.2.2 < lv ∧ ∃ y, nb_nams[cl]? = some y ∧ (parseMethodDescriptor y.desc).map (fun d => d.parameters.length) = some X.2.2.2.1 ∧ Cond.methodLink (nb_onm own) n y ∈ nb_Ts ∧ Cond.static y ∈ nb_Ts
/-- the receiver's cell -/
theorem nb_recv {E : nb_E} {M : nb_M} {s : State} {H : Heap} {i : Nat} {w : Int} (hS : nb_S E s) (hH : nb_H E M H) (hi : i < 10) (hok : nb_ok M (11 + i, w)) (h0 : w ≠ 0) : nb_val E (11 + i, w) = .ref (nb_ad E w) ∧ ∃ cell : Cell, H[nb_ad E w]? = some cell ∧ cell.vm.isStatics = false ∧ s.vm.findClass (nb_onm i) = some cell.cls := by
  refine ⟨nb_val_ref E (by omega) h0, ?_⟩
  have hok' : nb_ok M ((8 + i) + 3, w) := by
    rw [show 8 + i + 3 = 11 + i by omega]
    exact hok
  have h1 : w ≠ 1 := by
    intro q
    rcases hok' with y | ⟨-, n', y⟩
    · exact h0 y
    · obtain ⟨-, n2, scr, g2, -⟩ := hH.2.2.2.2.2
      have y' : M.2.1[w.toNat]? = some (8 + i, n') := y
      rw [q, show ((1 : Int).toNat) = 1 from rfl, g2] at y'
      have := congrArg Prod.fst (Option.some.inj y')
      dsimp only at this
      omega
  obtain ⟨A, n', rfl, hA', hsh, -, -, ⟨cv, q1, q2, q3, -⟩, -⟩ := nb_cell_of hH hok' h0 h1
  refine ⟨cv, q1, by rw [q2]; rfl, ?_⟩
  rw [q3]
  have hcl : ∃ q, vwCl[i]? = some q ∧ q.1 = nb_onm i := by
    match i, hi with
    | 0, _ => exact ⟨_, rfl, rfl⟩
    | 1, _ => exact ⟨_, rfl, rfl⟩
    | 2, _ => exact ⟨_, rfl, rfl⟩
    | 3, _ => exact ⟨_, rfl, rfl⟩
    | 4, _ => exact ⟨_, rfl, rfl⟩
    | 5, _ => exact ⟨_, rfl, rfl⟩
    | 6, _ => exact ⟨_, rfl, rfl⟩
    | 7, _ => exact ⟨_, rfl, rfl⟩
    | 8, _ => exact ⟨_, rfl, rfl⟩
    | 9, _ => exact ⟨_, rfl, rfl⟩
  obtain ⟨q, hq, hn⟩ := hcl
  have := (hS.2.1 i q hq).2
  rw [hn] at this
  exact this.1
theorem nb_entr_fit {G : nb_G} {f : nb_C} {c : Nat} {X : nb_X} {vs : List nb_V} {M : nb_M} {r : List nb_V × nb_M} (h : nb_entr G f c X vs M = some r) : nb_mzC f → nb_mz M r := fun hf => nb_entr_mz hf h
section NBC2
variable {l : Launch} {n own lv idx cl : Nat} {X : nb_X} {M : nb_M} {a : List nb_V × nb_M}
theorem nb_cs_v {v : nb_V} {vs : List nb_V} (hn : nb_Sd l n) (hX : nb_P.2.2.2.2.1 cl = some X) (hC : nb_CHv own lv idx cl X) (ht : v.1 = 11 + X.1) (h0 : v.2 ≠ 0) (hlen : vs.length + 1 = X.2.2.2.1) (h : nb_entr nb_P (nb_run nb_P n) cl X (v :: vs) M = some a) : nb_CS l own lv (.invokevirtual idx) (v :: vs) M a := by
  intro p e R s m args below meth c E z0 z1 pc Q ls H locs rest hx hls hown hS hRf hRl hRc hz hd hrest hok hH hl kk
  obtain ⟨hMH, hlv, y, hy, hX10, hX1, hpar, w1, w2, w3⟩ := hC
  obtain ⟨y', cc', rt, B, m1, m2, m3, m4, m5, m6, m7, m8, m9, m10, m11, m12⟩ := id hMH
  cases hy.symm.trans m1
  have hmz : nb_mz M a := nb_entr_mz (nb_run_mz nb_P n) h
  have hmet := nb_met (E := E) hn hX hMH hy m2 m3 hok h
  obtain ⟨t, w⟩ := v
  dsimp only at ht h0
  subst ht
  obtain ⟨hval, cell, hc1, hc2, hc3⟩ := nb_recv hS hH hX10 (hok _ List.mem_cons_self) h0
  obtain ⟨hm1, hm2⟩ := id hmz
  have ht : ∀ w ∈ nb_Ts, w.before args s = true := hS.1.use
  have hrun := va_runV (l := l) (e := e) (R := R) (below := below) (meth := meth) (locs := locs) (cells := nb_cz M - z0) (slots := nb_sz M - z1) (rest := rest) (g := F0 m pc ls (((((11 + X.1, w) :: vs).map (nb_val E)).reverse) ++ rest)) (n := X.2.2.2.1 - 1) (index := idx)
    (S := (⟨hx, rfl, rfl, hown, ht⟩ : CallFix p m c c.code c.maxLocals s args nb_Ts (nb_onm own))) hmet
    (cwV (C := y.cls) (X.2.2.2.1 - 1) ht (fun w hw => by
      have hw' : w ∈ nb_Ts := by
        simp only [wsV, List.mem_append, List.mem_cons, List.not_mem_nil, or_false] at hw
        rcases hw with (rfl | rfl | rfl | rfl) | rfl
        · exact w1
        · exact w2
        · exact w3
        · exact m11
        · exact m4
      exact ⟨hw', nb_Ts_good hw'⟩) rfl rfl rfl ⟨rfl, m10.1, m10.2, hpar⟩ ⟨by show X.2.2.2.2 + 1 ≤ R.frames; omega, by show 8 + (X.2.1 + 11) + 100 * X.2.2.2.2 ≤ R.locals; omega⟩)
    (b := nb_ad E w) (As := vs.map (nb_val E)) (H := H)
    ⟨nb_pre_blind E M _, ⟨cell, hc1, hc2, by rw [m5]; exact hc3⟩, fun U hU hW => ⟨by rw [List.map_cons, hval], hS.warm hW, by rw [hU]; exact hH⟩⟩
    rfl (by simp; omega) hls (by show _ ++ rest = _; rw [List.map_cons, hval]; simp) (by simpa using hrest) hd (by omega)
  exact nb_after hrun hl hmz hz kk
theorem nb_cs_s {vs : List nb_V} (hn : nb_Sd l n) (hX : nb_P.2.2.2.2.1 cl = some X) (hC : nb_CHs own lv idx cl X) (hlen : vs.length = X.2.2.2.1) (h : nb_entr nb_P (nb_run nb_P n) cl X vs M = some a) : nb_CS l own lv (.invokestatic idx) vs M a := by
  intro p e R s m args below meth c E z0 z1 pc Q ls H locs rest hx hls hown hS hRf hRl hRc hz hd hrest hok hH hl kk
  obtain ⟨hMH, hlv, y, hy, hpar, w1, w2⟩ := hC
  obtain ⟨y', cc', rt, B, m1, m2, m3, m4, m5, m6, m7, m8, m9, m10, m11, m12⟩ := id hMH
  cases hy.symm.trans m1
  have hmz : nb_mz M a := nb_entr_mz (nb_run_mz nb_P n) h
  have hmet := nb_met (E := E) hn hX hMH hy m2 m3 hok h
  obtain ⟨hm1, hm2⟩ := id hmz
  have ht : ∀ w ∈ nb_Ts, w.before args s = true := hS.1.use
  have hrun := va_runS (l := l) (e := e) (R := R) (below := below) (meth := meth) (locs := locs) (cells := nb_cz M - z0) (slots := nb_sz M - z1) (rest := rest) (g := F0 m pc ls (((vs.map (nb_val E)).reverse) ++ rest)) (n := X.2.2.2.1) (index := idx)
    (S := (⟨hx, rfl, rfl, hown, ht⟩ : CallFix p m c c.code c.maxLocals s args nb_Ts (nb_onm own))) hmet
    (va_cwS X.2.2.2.1 ht (fun w hw => by
      have hw' : w ∈ nb_Ts := by
        simp only [va_wsS, List.mem_append, List.mem_cons, List.not_mem_nil, or_false] at hw
        rcases hw with (rfl | rfl | rfl) | rfl
        · exact w1
        · exact w2
        · exact m11
        · exact m4
      exact ⟨hw', nb_Ts_good hw'⟩) rfl rfl rfl ⟨m10.1, m10.2, hpar⟩ ⟨by show X.2.2.2.2 + 1 ≤ R.frames; omega, by show 8 + (X.2.1 + 11) + 100 * X.2.2.2.2 ≤ R.locals; omega⟩)
    (As := vs.map (nb_val E)) (H := H)
    ⟨nb_pre_blind E M _, fun U hU hW => ⟨rfl, hS.warm hW, by rw [hU]; exact hH⟩⟩
    rfl (by simp; omega) hls rfl (by simpa using hrest) hd (by omega)
  exact nb_after hrun hl hmz hz kk
theorem nb_cs_i {v : nb_V} {vs : List nb_V} (hn : nb_Sd l n) (hX : nb_P.2.2.2.2.1 cl = some X) (hC : nb_CHi own lv idx cl X) (ht : v.1 = 11 + X.1) (h0 : v.2 ≠ 0) (hlen : vs.length + 1 = X.2.2.2.1) (h : nb_entr nb_P (nb_run nb_P n) cl X (v :: vs) M = some a) : nb_CS l own lv (.invokespecial idx) (v :: vs) M a := by
  intro p e R s m args below meth c E z0 z1 pc Q ls H locs rest hx hls hown hS hRf hRl hRc hz hd hrest hok hH hl kk
  obtain ⟨hMH, hlv, y, hy, hX10, hX1, hpar, w2, hname, hnone, hlink⟩ := hC
  obtain ⟨y', cc', rt, B, m1, m2, m3, m4, m5, m6, m7, m8, m9, m10, m11, m12⟩ := id hMH
  cases hy.symm.trans m1
  cases hnone.symm.trans m3
  have hmz : nb_mz M a := nb_entr_mz (nb_run_mz nb_P n) h
  have hmet := nb_met (E := E) hn hX hMH hy m2 m3 hok h
  obtain ⟨t, w⟩ := v
  dsimp only at ht h0
  subst ht
  obtain ⟨hval, cell, hc1, hc2, hc3⟩ := nb_recv hS hH hX10 (hok _ List.mem_cons_self) h0
  obtain ⟨hm1, hm2⟩ := id hmz
  have ht : ∀ w ∈ nb_Ts, w.before args s = true := hS.1.use
  have hG : GoodIn nb_Ts [Cond.code y cc' X.2.1 none] := fun w hw => by
    have hw' : w ∈ nb_Ts := by
      rw [List.mem_singleton.mp hw]
      exact m4
    exact ⟨hw', nb_Ts_good hw'⟩
  have hR' : X.2.2.2.2 + 1 ≤ R.frames ∧ 8 + (X.2.1 + 11) + 100 * X.2.2.2.2 ≤ R.locals := ⟨by omega, by omega⟩
  have hpre : PreS s H (nb_pre E M ((11 + X.1, w) :: vs)) (.ref (nb_ad E w) :: vs.map (nb_val E)) := ⟨nb_pre_blind E M _, fun U hU hW => ⟨by rw [List.map_cons, hval], hS.warm hW, by rw [hU]; exact hH⟩⟩
  rcases hlink with hlink | ⟨host, hlink⟩
  · have hrun := va_runI (l := l) (e := e) (R := R) (below := below) (meth := meth) (locs := locs) (cells := nb_cz M - z0) (slots := nb_sz M - z1) (rest := rest) (g := F0 m pc ls (((((11 + X.1, w) :: vs).map (nb_val E)).reverse) ++ rest)) (n := X.2.2.2.1 - 1) (index := idx)
      (S := (⟨hx, rfl, rfl, hown, ht⟩ : CallFix p m c c.code c.maxLocals s args nb_Ts (nb_onm own))) hmet
      (cwI (X.2.2.2.1 - 1) ht hG rfl rfl rfl (ht _ m11) (ht _ hlink) (ht _ w2) hname ⟨m10.1, m10.2, hpar⟩ hR')
      (b := nb_ad E w) (As := vs.map (nb_val E)) (H := H) hpre
      rfl (by simp; omega) hls (by show _ ++ rest = _; rw [List.map_cons, hval]; simp) (by simpa using hrest) hd (by omega)
    exact nb_after hrun hl hmz hz kk
  · have hrun := va_runIN (l := l) (e := e) (R := R) (below := below) (meth := meth) (locs := locs) (cells := nb_cz M - z0) (slots := nb_sz M - z1) (rest := rest) (g := F0 m pc ls (((((11 + X.1, w) :: vs).map (nb_val E)).reverse) ++ rest)) (n := X.2.2.2.1 - 1) (index := idx) (host := host)
      (S := (⟨hx, rfl, rfl, hown, ht⟩ : CallFix p m c c.code c.maxLocals s args nb_Ts (nb_onm own))) hmet
      ⟨va_cnB (X.2.2.2.1 - 1) ht hG rfl rfl rfl (hS.1 _ hlink rfl) (ht _ m11) ⟨m10.1, m10.2, hpar⟩ hR', hname, ht _ w2⟩
      (b := nb_ad E w) (As := vs.map (nb_val E)) (H := H) hpre
      rfl (by simp; omega) hls (by show _ ++ rest = _; rw [List.map_cons, hval]; simp) (by simpa using hrest) hd (by omega)
    exact nb_after hrun hl hmz hz kk
end NBC2
