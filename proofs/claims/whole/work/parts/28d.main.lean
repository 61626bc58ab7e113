/-! SOUNDNESS of blocks, of runs -/
/-- calls that aren't walked: where they stand -/
def nb_PK (own lv : Nat) (last : Instr) (cl : Nat) : Prop := match cl with
  | 900 => ∃ idx, last = .invokespecial idx ∧ Cond.methodLink (nb_onm own) idx Lib.objectInit ∈ nb_Ts ∧ 1 ≤ lv
  | 901 => ∃ idx, last = .invokevirtual idx ∧ Cond.methodLink (nb_onm own) idx ⟨"java/lang/String", "length", "()I"⟩ ∈ nb_Ts ∧ 9 ≤ lv
  | 902 => ∃ idx, last = .invokevirtual idx ∧ Cond.methodLink (nb_onm own) idx ⟨"java/lang/String", "charAt", "(I)C"⟩ ∈ nb_Ts ∧ 9 ≤ lv
  | 903 => ∃ idx, last = .invokestatic idx ∧ Cond.methodLink (nb_onm own) idx ⟨"java/lang/System", "arraycopy", "(Ljava/lang/Object;ILjava/lang/Object;II)V"⟩ ∈ nb_Ts ∧ 2 ≤ lv
  | 904 => ∃ idx, own = 10 ∧ last = .invokestatic idx ∧ idx = 224 ∧ 11 ≤ lv
  | 905 => ∃ idx, last = .invokestatic idx ∧ Cond.methodLink (nb_onm own) idx Lib.Math.max.name ∈ nb_Ts ∧ 2 ≤ lv
  | 906 => ∃ idx, last = .invokestatic idx ∧ Cond.methodLink (nb_onm own) idx Lib.Math.min.name ∈ nb_Ts ∧ 2 ≤ lv
  | 907 => ∃ idx, last = .invokestatic idx ∧ Cond.methodLink (nb_onm own) idx Lib.Math.abs.name ∈ nb_Ts ∧ 2 ≤ lv
  | 999 => True
  | _ => False
def nb_CK (own lv : Nat) (last : Instr) (cl : Nat) : Prop := match nb_P.2.2.2.2.1 cl with
  | some X => (∃ idx, last = .invokevirtual idx ∧ nb_CHv own lv idx cl X) ∨ (∃ idx, last = .invokespecial idx ∧ nb_CHi own lv idx cl X) ∨ (∃ idx, last = .invokestatic idx ∧ nb_CHs own lv idx cl X)
  | none => nb_PK own lv last cl
def nb_isV : Instr → Bool
  | .invokestatic _ => false
  | _ => true
/-- the calls that aren't walked go well -/
def nb_PRok (l : Launch) (n : Nat) : Prop := ∀ (own lv : Nat) (last : Instr) (cl : Nat) (vs : List nb_V) (M : nb_M) (a : List nb_V × nb_M), nb_PK own lv last cl → (nb_isV last = true → ∀ (v : nb_V) (vs' : List nb_V), vs = v :: vs' → v.2 ≠ 0) → nb_prim nb_P (fun c' vs' M' => match nb_P.2.2.2.2.1 c' with
      | some X => nb_entr nb_P (nb_run nb_P n) c' X vs' M'
      | none => none) cl vs M = some a → nb_CS l own lv last vs M a
def nb_isC : Instr → Bool
  | .invokevirtual _ => true
  | .invokespecial _ => true
  | .invokestatic _ => true
  | _ => false
def nb_iniB (i : Nat) : Bool := match nb_nams[i]? with
  | some y => y.name == "<init>"
  | none => false
/-- a block's row -/
def nb_BK (i : Nat) (X : nb_X) (cc : ByteArray) (B : nb_B) : Prop := nb_bodyB cc X.1 (nb_iniB i) B.1 B.2.1 = true ∧ nb_terB i cc (nb_end B.1 B.2.1) B.2.2.1 B.2.2.2.1 B.2.2.2.2.1 = true ∧ (nb_isC B.2.2.1 = true → nb_CK X.1 X.2.2.2.2 B.2.2.1 B.2.2.2.2.2)
/-- the program's tables are right -/
def nb_TAB : Prop := ∀ (i : Nat) (X : nb_X), nb_P.2.2.2.2.1 i = some X → nb_TOK X.1 ∧ ∃ (cc : ByteArray) (rt : Option FieldType), nb_cods[i]? = some cc ∧ nb_rets[i]? = some rt ∧ nb_retok rt X.2.2.1 ∧ ∀ (k : Nat) (B : nb_B), nb_P.2.2.2.1 i k = some B → nb_BK i X cc B
def nb_MNok (l : Launch) : Prop := ∀ (p : Program) (e : Env) (R : Room) (s : State) (m : MethodId) (args : Array Value) (below : List Frame) (meth : Method) (c : Code) (Q : State → Prop) (E : nb_E) (z0 z1 own : Nat) (r : List nb_V × nb_M), p.tables.exec = Jvm.exec → s.vm.findClass (nb_onm own) = some m.cls → nb_S E s → nb_cz r.2 - z0 ≤ R.cells ∧ nb_sz r.2 - z1 ≤ R.slots → own < 14 → nb_MNA p l e R s m args below meth c Q c.code E z0 z1 own r
theorem nb_cal_cases {G : nb_G} {f : nb_C} {c : Nat} {vs : List nb_V} {M : nb_M} : (∀ X, G.2.2.2.2.1 c = some X → nb_cal G f c vs M = nb_entr G f c X vs M) ∧ (G.2.2.2.2.1 c = none → nb_cal G f c vs M = nb_prim G (fun c' vs' M' => match G.2.2.2.2.1 c' with
      | some X => nb_entr G f c' X vs' M'
      | none => none) c vs M) := by
  constructor
  · intro X h
    unfold nb_cal
    rw [h]
  · intro h
    unfold nb_cal
    rw [h]
    rfl
theorem nb_npar_of {G : nb_G} {c : Nat} {X : nb_X} (h : G.2.2.2.2.1 c = some X) : nb_npar G c = X.2.2.2.1 := by
  unfold nb_npar
  rw [h]
theorem nb_rcok_of {G : nb_G} {c t : Nat} {X : nb_X} (h : G.2.2.2.2.1 c = some X) (hr : nb_rcok G c t = true) : t = 11 + X.1 := by
  unfold nb_rcok at hr
  rw [h] at hr
  simpa using hr
section NBM
variable {p : Program} {l : Launch} {e : Env} {R : Room} {s : State} {m : MethodId} {args : Array Value} {below : List Frame} {meth : Method} {c : Code} {Q : State → Prop} {E : nb_E} {z0 z1 pc : Nat} {L st : List nb_V} {M : nb_M} {r : List nb_V × nb_M}
theorem nb_go_call {n own lv i t : Nat} {last : Instr} {vs D : List nb_V} {a : List nb_V × nb_M} {B' : nb_B} (hCS : nb_CS l own lv last vs M a) (hx : p.tables.exec = Jvm.exec) (hml : c.maxLocals = L.length) (hown : s.vm.findClass (nb_onm own) = some m.cls) (hS : nb_S E s) (hRf : lv ≤ R.frames) (hRl : 100 * lv ≤ R.locals) (hR : nb_cz r.2 - z0 ≤ R.cells ∧ nb_sz r.2 - z1 ≤ R.slots) (hz : z0 ≤ nb_cz M ∧ z1 ≤ nb_sz M) (hd : decode c.code pc = .ok (last, 3)) (hD : nb_wt D ≤ 8) (hst : st = vs.reverse ++ D) (hma : nb_mz M a) (hpa : nb_px M a) (hBt : B'.1 = pc + 3)
    (hrun : nb_run nb_P n i t L (a.1 ++ D) a.2 = some r) (hrec : nb_run nb_P n i t L (a.1 ++ D) a.2 = some r → z0 ≤ nb_cz a.2 ∧ z1 ≤ nb_sz a.2 → nb_Go p l e R s m args below meth c Q E z0 z1 B'.1 L (a.1 ++ D) a.2) : nb_Go p l e R s m args below meth c Q E z0 z1 pc L st M := by
  have hmr : nb_mz a.2 r := nb_run_mz nb_P n _ _ _ _ _ _ hrun
  obtain ⟨hm1, hm2⟩ := hma
  obtain ⟨hm3, hm4⟩ := hmr
  intro ls H locs hL hS0 hH hl
  subst hst
  have hgo := hCS p e R s m args below meth c E z0 z1 pc Q ls H locs (D.map (nb_val E)) hx (hL.1.trans hml.symm) hown hS hRf hRl ⟨by omega, by omega⟩ hz hd (by rw [nb_wt_cat]; exact hD) (fun v hv => hS0 v (List.mem_append_left _ (List.mem_reverse.mpr hv))) hH hl (fun H1 locs1 ok1 hH1 hl1 => by
    have := hrec hrun ⟨by omega, by omega⟩ ls H1 locs1 (nb_LR_mono (nb_px_get hpa) hL) (fun v hv => by
      rcases List.mem_append.mp hv with h | h
      · exact ok1 v h
      · exact nb_ok_mono (nb_px_get hpa) (hS0 v (List.mem_append_right _ h))) hH1 hl1
    rw [hBt, List.map_append] at this
    exact this)
  rw [List.map_append, List.map_reverse]
  exact hgo
set_option maxHeartbeats 1000000 in
theorem nb_inv_sound {n i t cl idx : Nat} {virt : Bool} {last : Instr} {X : nb_X} {B' : nb_B} (hn : nb_Sd l n) (hP : nb_PRok l n) (hkind : (last = .invokevirtual idx ∨ last = .invokespecial idx) ∧ virt = true ∨ last = .invokestatic idx ∧ virt = false) (hCK : nb_CK X.1 X.2.2.2.2 last cl) (hx : p.tables.exec = Jvm.exec) (hml : c.maxLocals = L.length) (hown : s.vm.findClass (nb_onm X.1) = some m.cls) (hS : nb_S E s) (hRf : X.2.2.2.2 ≤ R.frames) (hRl : 100 * X.2.2.2.2 ≤ R.locals) (hR : nb_cz r.2 - z0 ≤ R.cells ∧ nb_sz r.2 - z1 ≤ R.slots) (hz : z0 ≤ nb_cz M ∧ z1 ≤ nb_sz M) (hd : decode c.code pc = .ok (last, 3)) (hBt : B'.1 = pc + 3)
    (hrec : ∀ (st' : List nb_V) (M' : nb_M), nb_run nb_P n i t L st' M' = some r → z0 ≤ nb_cz M' ∧ z1 ≤ nb_sz M' → nb_Go p l e R s m args below meth c Q E z0 z1 B'.1 L st' M')
    (h : nb_inv nb_P (nb_run nb_P n) i t cl virt L st M = some r) : nb_Go p l e R s m args below meth c Q E z0 z1 pc L st M := by
  unfold nb_inv at h
  split at h
  · rename_i h1
    obtain ⟨hlen, hwt⟩ := h1
    have hst : ∀ T : List nb_V, (st.take (nb_npar nb_P cl)).reverse = T → st = T.reverse ++ st.drop (nb_npar nb_P cl) := by
      intro T hT
      rw [← hT, List.reverse_reverse, List.take_append_drop]
    have hTl : ∀ T : List nb_V, (st.take (nb_npar nb_P cl)).reverse = T → T.length = nb_npar nb_P cl := by
      intro T hT
      rw [← hT, List.length_reverse, List.length_take]
      omega
    have fin : ∀ (T : List nb_V) (a : List nb_V × nb_M), (st.take (nb_npar nb_P cl)).reverse = T → nb_cal nb_P (nb_run nb_P n) cl T M = some a → nb_run nb_P n i t L (a.1 ++ st.drop (nb_npar nb_P cl)) a.2 = some r → nb_CS l X.1 X.2.2.2.2 last T M a → nb_Go p l e R s m args below meth c Q E z0 z1 pc L st M := fun T a hT hc hr hCS =>
      nb_go_call (B' := B') hCS hx hml hown hS hRf hRl hR hz hd hwt (hst T hT) (nb_cal_mz (nb_run_mz nb_P n) hc) (nb_cal_px (nb_run_px nb_P n) hc) hBt hr (fun hr' hz' => hrec _ _ hr' hz')
    split at h
    · rename_i v vs hT
      split at h
      · cases h
      · rename_i h2
        split at h
        · cases h
        · rename_i h3
          obtain ⟨a, ha, hr⟩ := Option.bind_eq_some_iff.mp h
          refine fin _ a hT ha hr ?_
          have hl' := hTl _ hT
          unfold nb_CK at hCK
          split at hCK
          · rename_i X' hX'
            rw [(nb_cal_cases (G := nb_P)).1 X' hX'] at ha
            rw [nb_npar_of hX', List.length_cons] at hl'
            rcases hCK with ⟨idx', hlast, hCH⟩ | ⟨idx', hlast, hCH⟩ | ⟨idx', hlast, hCH⟩
            · have hvt : virt = true := by
                rcases hkind with ⟨-, q⟩ | ⟨q, -⟩
                · exact q
                · rw [q] at hlast
                  cases hlast
              have hrc : nb_rcok nb_P cl v.1 = true := by
                cases hq : nb_rcok nb_P cl v.1 with
                | true => rfl
                | false => exact absurd ⟨hvt, hq⟩ h2
              rw [hlast]
              exact nb_cs_v hn hX' hCH (nb_rcok_of hX' hrc) (fun q => h3 ⟨hvt, q⟩) hl' ha
            · have hvt : virt = true := by
                rcases hkind with ⟨-, q⟩ | ⟨q, -⟩
                · exact q
                · rw [q] at hlast
                  cases hlast
              have hrc : nb_rcok nb_P cl v.1 = true := by
                cases hq : nb_rcok nb_P cl v.1 with
                | true => rfl
                | false => exact absurd ⟨hvt, hq⟩ h2
              rw [hlast]
              exact nb_cs_i hn hX' hCH (nb_rcok_of hX' hrc) (fun q => h3 ⟨hvt, q⟩) hl' ha
            · rw [hlast]
              exact nb_cs_s hn hX' hCH hl' ha
          · rename_i hX'
            rw [(nb_cal_cases (G := nb_P)).2 hX'] at ha
            refine hP _ _ _ _ _ _ _ hCK (fun q v' vs' e => ?_) ha
            have hvt : virt = true := by
              rcases hkind with ⟨-, w⟩ | ⟨w, -⟩
              · exact w
              · rw [w] at q
                cases q
            have e' : v = v' := (List.cons.inj e).1
            rw [← e']
            exact fun w => h3 ⟨hvt, w⟩
    · rename_i hT
      obtain ⟨a, ha, hr⟩ := Option.bind_eq_some_iff.mp h
      refine fin _ a hT ha hr ?_
      have hl' := hTl _ hT
      unfold nb_CK at hCK
      split at hCK
      · rename_i X' hX'
        rw [(nb_cal_cases (G := nb_P)).1 X' hX'] at ha
        rw [nb_npar_of hX'] at hl'
        rcases hCK with ⟨idx', hlast, hCH⟩ | ⟨idx', hlast, hCH⟩ | ⟨idx', hlast, hCH⟩
        · have := hCH.2.2
          obtain ⟨y, -, -, q, -⟩ := this
          rw [List.length_nil] at hl'
          omega
        · have := hCH.2.2
          obtain ⟨y, -, -, q, -⟩ := this
          rw [List.length_nil] at hl'
          omega
        · rw [hlast]
          exact nb_cs_s hn hX' hCH hl' ha
      · rename_i hX'
        rw [(nb_cal_cases (G := nb_P)).2 hX'] at ha
        exact hP _ _ _ _ _ _ _ hCK (fun _ _ _ e => by cases e) ha
  · cases h
end NBM
theorem nb_fin_t {G : nb_G} {f : nb_C} {m ret : Nat} {i : Instr} {ts : List Nat} {cl : Nat} {b : Bool} {L st : List nb_V} {M : nb_M} {r : List nb_V × nb_M} (h : nb_fin G f m ret i ts cl b L st M = some r) : b = true ∧ nb_ter G f m ret i ts cl L st M = some r := by
  unfold nb_fin at h
  split at h
  · rename_i hb
    exact ⟨hb, h⟩
  · cases h
set_option maxHeartbeats 1000000 in
theorem nb_Sd_succ {l : Launch} {n : Nat} (hT : nb_TAB) (hMN : nb_MNok l) (hP : nb_PRok l n) (hn : nb_Sd l n) (hown14 : ∀ (i : Nat) (X : nb_X), nb_P.2.2.2.2.1 i = some X → X.1 < 14) : nb_Sd l (n + 1) := by
  intro i X k B L st M r hX hB hL h p e R s m args below meth c E z0 z1 hCx hR hz
  obtain ⟨hTK, cc, rt, hcc, hrt, hro, hBK⟩ := hT i X hX
  obtain ⟨hb1, hb2, hb3⟩ := hBK k B hB
  obtain ⟨y, cc', rt', n1, n2, n3, hx, hb, hml, hret, hlocks, hown, hSt, hname⟩ := hCx
  cases hcc.symm.trans n2
  cases hrt.symm.trans n3
  obtain ⟨hRf, hRl, hRc, hRs⟩ := hR
  have h0 : nb_blk nb_P (nb_run nb_P n) i k L st M = some r := h
  unfold nb_blk at h0
  rw [hX] at h0
  dsimp only at h0
  rw [hB] at h0
  dsimp only at h0
  have hini : nb_iniB i = true → meth.name = "<init>" := by
    intro q
    unfold nb_iniB at q
    rw [n1] at q
    exact hname (by simpa using q)
  refine nb_str_sound (ini := nb_iniB i) (nL := X.2.1) hx hb hown hSt hini hTK (by rw [← hb]; exact hMN p e R s m args below meth c _ E z0 z1 X.1 r hx hown hSt ⟨hRc, hRs⟩ (hown14 i X hX)) ⟨hRc, hRs⟩ (fun b' L' st' M' w => (nb_fin_t w).1) (fun b' L' st' M' w => nb_ter_mz (nb_run_mz nb_P n) (nb_fin_t w).2) B.2.1 B.1 true L st M hb1 hz hL h0 ?_
  intro b' L' st' M' w hz' hL'
  obtain ⟨-, w⟩ := nb_fin_t w
  refine nb_ter_sound (nL := X.2.1) hx hb hlocks hret hro hb2 hz' hL' ?_ ?_ w
  · intro t B' L2 st2 M2 hB' hf hz2 hL2
    exact hn i X t B' L2 st2 M2 r hX hB' hL2 hf p e R s m args below meth c E z0 z1 ⟨y, cc, rt, n1, n2, n3, hx, hb, hml, hret, hlocks, hown, hSt, hname⟩ ⟨hRf, hRl, hRc, hRs⟩ hz2
  · intro idx t virt hkind hts hinv
    have hdB : decode c.code (nb_end B.1 B.2.1) = .ok (B.2.2.1, 3) ∧ nb_atB i t ((nb_end B.1 B.2.1 : Nat) + 3) = true ∧ nb_isC B.2.2.1 = true := by
      rw [hts] at hb2
      rw [hb]
      rcases hkind with ⟨q | q, -⟩ | ⟨q, -⟩
      · rw [q] at hb2 ⊢
        simp only [nb_terB, Bool.and_eq_true, decide_eq_true_eq] at hb2
        exact ⟨hb2.1, hb2.2, rfl⟩
      · rw [q] at hb2 ⊢
        simp only [nb_terB, Bool.and_eq_true, decide_eq_true_eq] at hb2
        exact ⟨hb2.1, hb2.2, rfl⟩
      · rw [q] at hb2 ⊢
        simp only [nb_terB, Bool.and_eq_true, decide_eq_true_eq] at hb2
        exact ⟨hb2.1, hb2.2, rfl⟩
    obtain ⟨hd, hat, hisC⟩ := hdB
    obtain ⟨B', hB', hpc'⟩ := nb_atB_spec hat
    exact nb_inv_sound (B' := B') hn hP hkind (hb3 hisC) hx (hml.trans hL'.symm) hown hSt hRf hRl ⟨hRc, hRs⟩ hz' hd (by omega) (fun st2 M2 hf hz2 => hn i X t B' L' st2 M2 r hX hB' hL' hf p e R s m args below meth c E z0 z1 ⟨y, cc, rt, n1, n2, n3, hx, hb, hml, hret, hlocks, hown, hSt, hname⟩ ⟨hRf, hRl, hRc, hRs⟩ hz2) hinv
theorem nb_Sd_zero (l : Launch) : nb_Sd l 0 := fun _ _ _ _ _ _ _ _ _ _ _ h => by cases h
theorem nb_Sd_all {l : Launch} (hT : nb_TAB) (hMN : nb_MNok l) (hP : ∀ n, nb_Sd l n → nb_PRok l n) (hown14 : ∀ (i : Nat) (X : nb_X), nb_P.2.2.2.2.1 i = some X → X.1 < 14) : ∀ n, nb_Sd l n
  | 0 => nb_Sd_zero l
  | n + 1 => nb_Sd_succ hT hMN (hP n (nb_Sd_all hT hMN hP hown14 n)) (nb_Sd_all hT hMN hP hown14 n) hown14
