/-! SOUNDNESS of putfield, new, newarray, anewarray -/
theorem nb_ok_0 (M : nb_M) (t : Nat) : nb_ok M (t, 0) := by
  match t with
  | 0 => exact ⟨by decide, by decide⟩
  | 1 => exact ⟨by decide, by decide⟩
  | 2 => trivial
  | t + 3 => exact Or.inl rfl
theorem nb_val_ref' (E : nb_E) {t : Nat} (ht : 3 ≤ t) (w : Int) : nb_val E (t, w) = .null ∨ ∃ a, nb_val E (t, w) = .ref a := by
  match t, ht with
  | t + 3, _ =>
    show (if w = 0 then Value.null else Value.ref (nb_ad E w)) = .null ∨ ∃ a, (if w = 0 then Value.null else Value.ref (nb_ad E w)) = .ref a
    by_cases h : w = 0
    · exact Or.inl (if_pos h)
    · exact Or.inr ⟨_, if_neg h⟩
theorem nb_fit {E : nb_E} {ty : FieldType} {t : Nat} {z : Bool} {w : Int} (h : nb_tyok ty t z) (hz : z = true → w = 0 ∨ w = 1) : narrow ty (nb_val E (t, w)) = nb_val E (t, w) ∧ fits ty (nb_val E (t, w)) = true := by
  rcases h with ⟨rfl, -, rfl⟩ | ⟨rfl, hz', rfl⟩ | ⟨rfl, rfl⟩ | ⟨ht, h⟩
  · exact ⟨rfl, rfl⟩
  · rcases hz hz' with rfl | rfl
    · exact ⟨rfl, rfl⟩
    · exact ⟨rfl, rfl⟩
  · exact ⟨rfl, rfl⟩
  · rcases nb_val_ref' E ht w with q | ⟨a, q⟩ <;> rw [q] <;> rcases h with ⟨C, rfl⟩ | ⟨u, rfl⟩ <;> exact ⟨rfl, rfl⟩
theorem nb_dflt {E : nb_E} {ty : FieldType} {t : Nat} {z : Bool} (h : nb_tyok ty t z) : defaultValue ty = nb_val E (t, 0) := by
  rcases h with ⟨rfl, -, rfl⟩ | ⟨rfl, -, rfl⟩ | ⟨rfl, rfl⟩ | ⟨ht, h⟩
  · rfl
  · rfl
  · rfl
  · match t, ht with
    | t + 3, _ => rcases h with ⟨C, rfl⟩ | ⟨u, rfl⟩ <;> rfl
theorem nb_LR_mono {E : nb_E} {M M' : nb_M} {ls : Array Slot} {L : List nb_V} (h : ∀ (j : Nat) (q : Nat × Nat), M.2.1[j]? = some q → M'.2.1[j]? = some q) (hL : nb_LR E M ls L) : nb_LR E M' ls L := ⟨hL.1, hL.2.1, hL.2.2.1, fun v hv => nb_ok_mono h (hL.2.2.2 v hv)⟩
theorem nb_al_sub (M : nb_M) (k n : Nat) : ∀ (j : Nat) (q : Nat × Nat), M.2.1[j]? = some q → (nb_al M k n).2.1[j]? = some q := by
  intro j q hq
  have hl := (List.getElem?_eq_some_iff.mp hq).1
  show (M.2.1 ++ [(k, n)])[j]? = _
  rw [List.getElem?_append_left hl]
  exact hq
theorem nb_al_cz (M : nb_M) (k n : Nat) : nb_cz (nb_al M k n) = nb_cz M + 1 := by
  show (M.2.1 ++ [(k, n)]).length + M.2.2.1 = M.2.1.length + M.2.2.1 + 1
  simp
  omega
theorem nb_al_sz (M : nb_M) (k n : Nat) : nb_sz (nb_al M k n) = nb_sz M + n := by
  show ((M.2.1 ++ [(k, n)]).map (fun q => q.2)).sum + M.2.2.2 = (M.2.1.map (fun q => q.2)).sum + M.2.2.2 + n
  simp
  omega
theorem nb_ok_new (M : nb_M) (k n : Nat) (h2 : 2 ≤ M.2.1.length) : nb_ok (nb_al M k n) (3 + k, nb_nx M) := by
  rw [Nat.add_comm 3 k]
  refine Or.inr ⟨?_, n, ?_⟩
  · show (1 : Int) ≤ (M.2.1.length : Int)
    omega
  · show (M.2.1 ++ [(k, n)])[((M.2.1.length : Int)).toNat]? = _
    simp
def nb_NOK (own n : Nat) (q : Nat × Nat) : Prop := ∃ (C : String) (T : u_T) (N : Nat) (tyf : Nat → FieldType), 8 ≤ q.1 ∧ q.1 < 18 ∧ vwCl[q.1 - 8]? = some (C, T, N) ∧ q.2 = N ∧ N < 100 ∧ Cond.classLink (nb_onm own) n C ∈ nb_Ts ∧ Cond.instantiable C N ∈ nb_Ts ∧ Cond.initialized C ∈ nb_Ts ∧ (∀ w ∈ u_ws C T N, w ∈ nb_Ts) ∧ ∀ j, j < N → parseFieldDescriptor (T j).2.2.1 = some (tyf j) ∧ ∃ z, nb_tyok (tyf j) (nb_tag q.1 j) z
section NBM
variable {p : Program} {l : Launch} {e : Env} {R : Room} {s : State} {m : MethodId} {args : Array Value} {below : List Frame} {meth : Method} {c : Code} {Q : State → Prop} {cc : ByteArray} {E : nb_E} {z0 z1 own pc : Nat} {L st : List nb_V} {M : nb_M} {k : nb_K} {b : Bool} {r : List nb_V × nb_M}
theorem nb_s_putf {n : Nat} (hx : p.tables.exec = Jvm.exec) (hb : c.code = cc) (hown : s.vm.findClass (nb_onm own) = some m.cls) (hSt : nb_S E s) (hF : ∀ f, nb_P.1 own n = some f → nb_FOK own n f) (hfin : ∀ (f : nb_F) (C : String) (T : u_T) (N : Nat), nb_P.1 own n = some f → vwCl[f.1]? = some (C, T, N) → (T f.2.1).2.2.2 = true → meth.name = "<init>" ∧ (T f.2.1).1 = nb_onm own) (hd : decode cc pc = .ok (.putfield n, 3))
    (h : nb_putf (nb_P.1 own n) b L st M k = some r) (hkb : ∀ b' L' st' M', k b' L' st' M' = some r → b' = true) (hk : ∀ b' L' st' M', k b' L' st' M' = some r → nb_Go p l e R s m args below meth c Q E z0 z1 (pc + 3) L' st' M') : nb_Go p l e R s m args below meth c Q E z0 z1 pc L st M := by
  unfold nb_putf at h
  cases hf : nb_P.1 own n with
  | none => rw [hf] at h; cases h
  | some f =>
    rw [hf] at h
    dsimp only at h
    match st, h with
    | [], h1 => cases h1
    | [_], h1 => cases h1
    | (t1, w) :: (t, a) :: st, h1 =>
      dsimp only at h1
      split at h1
      · rename_i hc
        obtain ⟨hc1, hc2⟩ := hc
        obtain ⟨C, T, N, ty, f1, f2, f3, f4, f5, f6, f7⟩ := hF f hf
        have hz := hkb _ _ _ _ h1
        simp only [Bool.and_eq_true, Bool.not_eq_true', decide_eq_false_iff_not, Bool.or_eq_true, decide_eq_true_eq] at hz
        obtain ⟨-, ha0, hzz⟩ := hz
        intro ls H locs hL hS0 hH hl
        obtain ⟨hw, hS1⟩ := List.forall_mem_cons.mp hS0
        obtain ⟨hv, hS2⟩ := List.forall_mem_cons.mp hS1
        have hv' : nb_ok M ((8 + f.1) + 3, a) := by
          rw [show (8 + f.1) + 3 = t by omega]
          exact hv
        have ha1 : a ≠ 1 := by
          intro q
          rcases hv' with w | ⟨-, n', w⟩
          · exact ha0 w
          · obtain ⟨-, n2, scr, g2, -⟩ := hH.2.2.2.2.2
            have w' : M.2.1[a.toNat]? = some (8 + f.1, n') := w
            rw [q, show ((1 : Int).toNat) = 1 from rfl, g2] at w'
            have := congrArg Prod.fst (Option.some.inj w')
            dsimp only at this
            omega
        obtain ⟨A, n', rfl, hA, hsh, -, -, ⟨cell, q1, q2, q3, -, q5, q6⟩, -⟩ := nb_cell_of hH hv' ha0 ha1
        have hKn := hSt.2.1 f.1 _ f1
        obtain ⟨hSl, hfc, kC, hkC, hkind⟩ := hKn
        obtain ⟨cf, kf, fi, fd, hi, hsl⟩ := hSl f.2.1 f2
        obtain ⟨hap, hN⟩ := hSt.2.2.2.2.2 f.1 _ f1
        have hn' : n' = N := by
          rw [q5 (by omega), show 8 + f.1 - 8 = f.1 by omega, ← hN]
        have hval : (nb_val E (t, (A : Int))) = .ref (nb_ad E (A : Int)) := nb_val_ref E (by omega) ha0
        show W p l e R s m args below meth c H locs _ _ Q (F0 m pc ls (nb_val E (t1, w) :: nb_val E (t, (A : Int)) :: st.map (nb_val E)))
        rw [hval, hc2]
        have hfit := nb_fit (E := E) (w := w) f7 (fun q => by
          rcases hzz with y | y
          · rw [q] at y; cases y
          · exact y)
        have hslot : fd.slot = nb_slot E (8 + f.1) f.2.1 := by rw [hsl, nb_slot8]
        have hlt : fd.slot < cell.slots.size := by
          rw [hslot]
          exact (Array.getElem?_eq_some_iff.mp (q6 f.2.1 (by omega)).1).1
        have hst := (u_facts hfc hkC (u_lays (hSt.1.use (args := args)) f5 f2) hi).1
        have hgo : ∀ H' : Heap, H'[nb_ad E (A : Int)]? = some (cell.setSlot fd.slot (nb_val E (f.2.2.1, w))) → H'.size = H.size → (∀ q, q ≠ nb_ad E (A : Int) → H'[q]? = H[q]?) → W p l e R s m args below meth c H' (locs ++ [⟨nb_ad E (A : Int), fd.slot⟩]) (nb_cz M - z0) (nb_sz M - z1) Q (F0 m (pc + 3) ls (st.map (nb_val E))) := by
          intro H' e1 e2 e3
          have hnew : nb_H E (nb_wr M (A : Int) (f.2.1 : Int) w) H' := nb_H_wr hH hA hsh (by omega) (fun x y hx hy hxy => by rw [nb_slot8, nb_slot8]; exact hap x y (by rw [← hn']; exact hx) (by rw [← hn']; exact hy) hxy) q1 (by rw [f3, ← hc2]; exact hw) (by rw [← hslot, f3]; exact e1) e2 e3
          refine hk _ _ _ _ h1 ls H' _ hL hS2 hnew (fun q hq => ?_)
          rcases List.mem_append.mp hq with hq | hq
          · exact hl q hq
          · rw [List.mem_singleton.mp hq]
            show E.2.1 ≤ nb_ad E (A : Int)
            rw [nb_ad2 E hA]
            omega
        have hlay := hSt.1.use (args := args) _ (f5 _ (u_in_lay f2))
        by_cases hfn : (T f.2.1).2.2.2 = true
        · unfold u_lay at hlay
          rw [if_pos hfn] at hlay
          obtain ⟨hin2, hdecl⟩ := hfin f C T N hf f1 hfn
          have hcf : m.cls = cf := by
            obtain ⟨_, _, c', _, _, _, -, -, hf', -, -, -, hown2, -⟩ := Cond.laysFinal_spec hlay
            have e1 : c' = cf := by have := hi.symm.trans hf'; simp at this; exact this.1.symm
            rw [hdecl] at hown2
            rw [← e1]
            exact Option.some.inj (hown.symm.trans hown2)
          have h6 := u_fits hfc hkC hkind (Or.inr hlay) hi f6 hfit.1 hfit.2
          exact W.putFinK hx hb hown (hSt.1.use _ f4) hi hst hcf hin2 (by rw [q3]; exact h6) q1 q2 hlt rfl rfl hd hgo
        · unfold u_lay at hlay
          rw [if_neg hfn] at hlay
          have h6 := u_store hfc hkC hkind hlay hi f6 hfit.1 hfit.2
          exact W.putK hx hb (f := fd) ⟨hown, hSt.1.use _ f4, ⟨_, _, _, hi⟩, hst⟩ (by rw [q3]; exact h6) q1 q2 hlt rfl rfl hd hgo
      · cases h1
theorem nb_s_new {n : Nat} (hx : p.tables.exec = Jvm.exec) (hb : c.code = cc) (hown : s.vm.findClass (nb_onm own) = some m.cls) (hSt : nb_S E s) (hN : ∀ q, nb_P.2.2.1 own n = some q → nb_NOK own n q) (hd : decode cc pc = .ok (.new n, 3)) (hR : nb_cz r.2 - z0 ≤ R.cells ∧ nb_sz r.2 - z1 ≤ R.slots) (hz : z0 ≤ nb_cz M ∧ z1 ≤ nb_sz M)
    (h : nb_newc (nb_P.2.2.1 own n) b L st M k = some r) (hkb : ∀ b' L' st' M', k b' L' st' M' = some r → b' = true) (hkz : ∀ b' L' st' M', k b' L' st' M' = some r → nb_cz M' ≤ nb_cz r.2 ∧ nb_sz M' ≤ nb_sz r.2) (hk : ∀ b' L' st' M', k b' L' st' M' = some r → nb_Go p l e R s m args below meth c Q E z0 z1 (pc + 3) L' st' M') : nb_Go p l e R s m args below meth c Q E z0 z1 pc L st M := by
  unfold nb_newc at h
  cases hq : nb_P.2.2.1 own n with
  | none => rw [hq] at h; cases h
  | some q =>
    rw [hq] at h
    dsimp only at h
    split at h
    · rename_i h8
      unfold nb_new at h
      obtain ⟨C, T, N, tyf, n1, n2, n3, n4, n4b, n5, n6, n7, n8, n9⟩ := hN q hq
      have hb' := hkb _ _ _ _ h
      have hzz := hkz _ _ _ _ h
      rw [nb_al_cz, nb_al_sz] at hzz
      simp only [Bool.and_eq_true, decide_eq_true_eq] at hb'
      intro ls H locs hL hS0 hH hl
      have hKn := hSt.2.1 (q.1 - 8) _ n3
      rw [show 8 + (q.1 - 8) = q.1 by omega] at hKn
      refine W.newcK hx hb hown (hSt.1.use _ n5) (hSt.1.use _ n6) (hSt.1.use _ n7) (g := F0 m pc ls (st.map (nb_val E))) rfl hd (by omega) (by omega) hKn.2.1 rfl fun H1 kC hkC e1 e2 e3 => ?_
      have hborn := u_born tyf (hSt.1.use (args := args)) n8 hKn hkC e1 (fun j hj => (n9 j hj).1)
      obtain ⟨cell, d1, d2, d3, d4⟩ := hborn
      obtain ⟨hnew, hnx⟩ := nb_H_al (k := q.1) (n := q.2) hH hb'.2 n2 (by omega) d1 e2 e3 d3 d2 (fun w => by omega) (fun w => by rw [n4]; exact (hSt.2.2.2.2.2 _ _ n3).2) (fun i hi => by
        rw [show q.1 = 8 + (q.1 - 8) by omega, nb_slot8, show 8 + (q.1 - 8) = q.1 by omega, d4 i (by omega)]
        obtain ⟨z, hty⟩ := (n9 i (by omega)).2
        exact congrArg some (nb_dflt hty))
      have hval : nb_val E (3 + q.1, nb_nx M) = .ref H.size := by
        rw [nb_val_ref E (by omega) (by unfold nb_nx; have := hH.1; omega), hnx]
      have hgo := hk _ _ _ _ h ls H1 locs (nb_LR_mono (nb_al_sub M _ _) hL) (List.forall_mem_cons.mpr ⟨nb_ok_new M q.1 q.2 hH.1, fun v hv => nb_ok_mono (nb_al_sub M _ _) (hS0 v hv)⟩) hnew hl
      rw [nb_al_cz, nb_al_sz, List.map_cons, hval, show nb_cz M + 1 - z0 = nb_cz M - z0 + 1 by omega, show nb_sz M + q.2 - z1 = nb_sz M - z1 + N by omega] at hgo
      exact hgo
    · cases h
/-- an array of kind kd, by a row that makes it -/
theorem nb_s_newa {kd d : Nat} (hSt : nb_S E s) (hk8 : kd < 8) (hty : ∀ i, defaultValue (nb_aty kd) = nb_val E (nb_tag kd i, 0)) (hR : nb_cz r.2 - z0 ≤ R.cells ∧ nb_sz r.2 - z1 ≤ R.slots) (hz : z0 ≤ nb_cz M ∧ z1 ≤ nb_sz M)
    (row : ∀ (ls : Array Slot) (H : Heap) (locs : List Loc) (rest : List Value) (n : Int), -2147483648 ≤ n ∧ n < 2147483648 → 0 ≤ n → n ≤ 100000 → nb_cz M - z0 + 1 ≤ R.cells → nb_sz M - z1 + n.toNat ≤ R.slots → (∀ cA : ClassId, s.vm.findClass ("[" ++ (nb_aty kd).toString) = some cA → W p l e R s m args below meth c (H.push { cls := cA, slots := Array.replicate n.toNat (defaultValue (nb_aty kd)), vm := .none }) locs (nb_cz M - z0 + 1) (nb_sz M - z1 + n.toNat) Q (F0 m (pc + d) ls (.ref H.size :: rest))) → W p l e R s m args below meth c H locs (nb_cz M - z0) (nb_sz M - z1) Q (F0 m pc ls (.int (Int32.ofInt n) :: rest)))
    (h : nb_newa kd b L st M k = some r) (hkb : ∀ b' L' st' M', k b' L' st' M' = some r → b' = true) (hkz : ∀ b' L' st' M', k b' L' st' M' = some r → nb_cz M' ≤ nb_cz r.2 ∧ nb_sz M' ≤ nb_sz r.2) (hk : ∀ b' L' st' M', k b' L' st' M' = some r → nb_Go p l e R s m args below meth c Q E z0 z1 (pc + d) L' st' M') : nb_Go p l e R s m args below meth c Q E z0 z1 pc L st M := by
  unfold nb_newa at h
  match st, h with
  | [], h1 => cases h1
  | (t, n) :: st, h1 =>
    dsimp only at h1
    split at h1
    · rename_i hc
      have hb' := hkb _ _ _ _ h1
      have hzz := hkz _ _ _ _ h1
      rw [nb_al_cz, nb_al_sz] at hzz
      simp only [Bool.and_eq_true, decide_eq_true_eq] at hb'
      obtain ⟨-, hj, hn0, hn1⟩ := hb'
      intro ls H locs hL hS0 hH hl
      obtain ⟨hv, hS1⟩ := List.forall_mem_cons.mp hS0
      subst hc
      refine row ls H locs _ n hv hn0 hn1 (by omega) (by omega) (fun cA hcA => ?_)
      obtain ⟨kA, comp, kc, g1, g2, g3, g4, -⟩ := hSt.2.2.1 kd hk8
      have hcE : cA = E.2.2.2.1 kd := Option.some.inj (hcA.symm.trans g4)
      have e1 : (H.push ({ cls := cA, slots := Array.replicate n.toNat (defaultValue (nb_aty kd)), vm := .none } : Cell))[H.size]? = some { cls := cA, slots := Array.replicate n.toNat (defaultValue (nb_aty kd)), vm := .none } := by simp
      have e3 : ∀ q, q < H.size → (H.push ({ cls := cA, slots := Array.replicate n.toNat (defaultValue (nb_aty kd)), vm := .none } : Cell))[q]? = H[q]? := fun q hq => by
        rw [Array.getElem?_push, if_neg (Nat.ne_of_lt hq)]
      obtain ⟨hnew, hnx⟩ := nb_H_al (k := kd) (n := n.toNat) hH hj (by omega) (by omega) e1 (by simp) e3 rfl hcE (fun _ => by simp) (fun w => by omega) (fun i hi => by
        rw [nb_slot0 E hk8]
        rw [← hty i]
        simp [hi])
      have hval : nb_val E (3 + kd, nb_nx M) = .ref H.size := by
        rw [nb_val_ref E (by omega) (by unfold nb_nx; have := hH.1; omega), hnx]
      have hgo := hk _ _ _ _ h1 ls _ locs (nb_LR_mono (nb_al_sub M _ _) hL) (List.forall_mem_cons.mpr ⟨nb_ok_new M kd n.toNat hH.1, fun v hv => nb_ok_mono (nb_al_sub M _ _) (hS1 v hv)⟩) hnew hl
      rw [nb_al_cz, nb_al_sz, List.map_cons, hval, show nb_cz M + 1 - z0 = nb_cz M - z0 + 1 by omega, show nb_sz M + n.toNat - z1 = nb_sz M - z1 + n.toNat by omega] at hgo
      exact hgo
    · cases h1
theorem nb_s_newarray {kd : Nat} {atype : ArrayType} (hx : p.tables.exec = Jvm.exec) (hb : c.code = cc) (hat : newarray.typeOf atype = nb_aty kd) (hw : Cond.arrayClass (nb_aty kd) ∈ nb_Ts) (hcb : componentBytes (nb_aty kd) ≤ 8) (hSt : nb_S E s) (hk8 : kd < 8) (hty : ∀ i, defaultValue (nb_aty kd) = nb_val E (nb_tag kd i, 0)) (hd : decode cc pc = .ok (.newarray atype, 2)) (hR : nb_cz r.2 - z0 ≤ R.cells ∧ nb_sz r.2 - z1 ≤ R.slots) (hz : z0 ≤ nb_cz M ∧ z1 ≤ nb_sz M)
    (h : nb_newa kd b L st M k = some r) (hkb : ∀ b' L' st' M', k b' L' st' M' = some r → b' = true) (hkz : ∀ b' L' st' M', k b' L' st' M' = some r → nb_cz M' ≤ nb_cz r.2 ∧ nb_sz M' ≤ nb_sz r.2) (hk : ∀ b' L' st' M', k b' L' st' M' = some r → nb_Go p l e R s m args below meth c Q E z0 z1 (pc + 2) L' st' M') : nb_Go p l e R s m args below meth c Q E z0 z1 pc L st M := by
  refine nb_s_newa hSt hk8 hty hR hz (fun ls H locs rest n hn hn0 hn1 hc1 hc2 kk => ?_) h hkb hkz hk
  have hcl := nb_clamp hn
  have hneg : ¬ Int32.ofInt n < 0 := fun q => by
    have := (nb_lt32 (y := 0) hn (by decide)).mp q
    omega
  refine W.newa hx hb (atype := atype) (by rw [hat]; exact hSt.1.use _ hw) (g := F0 m pc ls (.int (Int32.ofInt n) :: rest)) rfl hd rfl hneg ?_ hc1 (by rw [hcl]; exact hc2) (fun cA kA comp h1 h2 h3 => ?_)
  · rw [hat, hcl]
    have : n.toNat * componentBytes (nb_aty kd) ≤ 100000 * 8 := Nat.mul_le_mul (by omega) hcb
    omega
  · rw [hcl, hat]
    rw [hat] at h1
    exact kk cA h1
theorem nb_s_anewarray {kd n : Nat} {C : String} (hx : p.tables.exec = Jvm.exec) (hb : c.code = cc) (hown : s.vm.findClass (nb_onm own) = some m.cls) (hat : nb_aty kd = .object C) (hw : Cond.classLink (nb_onm own) n C ∈ nb_Ts) (hw2 : Cond.arrayOver (.object C) ∈ lw_tbl) (hSt : nb_S E s) (hk8 : kd < 8) (hty : ∀ i, defaultValue (nb_aty kd) = nb_val E (nb_tag kd i, 0)) (hd : decode cc pc = .ok (.anewarray n, 3)) (hR : nb_cz r.2 - z0 ≤ R.cells ∧ nb_sz r.2 - z1 ≤ R.slots) (hz : z0 ≤ nb_cz M ∧ z1 ≤ nb_sz M)
    (h : nb_newa kd b L st M k = some r) (hkb : ∀ b' L' st' M', k b' L' st' M' = some r → b' = true) (hkz : ∀ b' L' st' M', k b' L' st' M' = some r → nb_cz M' ≤ nb_cz r.2 ∧ nb_sz M' ≤ nb_sz r.2) (hk : ∀ b' L' st' M', k b' L' st' M' = some r → nb_Go p l e R s m args below meth c Q E z0 z1 (pc + 3) L' st' M') : nb_Go p l e R s m args below meth c Q E z0 z1 pc L st M := by
  refine nb_s_newa hSt hk8 hty hR hz (fun ls H locs rest v hn hn0 hn1 hc1 hc2 kk => ?_) h hkb hkz hk
  have hcl := nb_clamp hn
  have hneg : ¬ Int32.ofInt v < 0 := fun q => by
    have := (nb_lt32 (y := 0) hn (by decide)).mp q
    omega
  have hov : (Cond.arrayOver (.object C)).before args s = true := Cond.arrayOver_alike (Vm.Alike.refl s.vm) (hSt.1 _ hw2 rfl)
  refine W.anew hx hb hown (hSt.1.use _ hw) hov (g := F0 m pc ls (.int (Int32.ofInt v) :: rest)) rfl hd rfl hneg (by rw [hcl]; omega) hc1 (by rw [hcl]; exact hc2) (fun cA kA comp h1 h2 h3 h4 => ?_)
  rw [hcl]
  have h5 := kk cA (by rw [hat]; exact h1)
  rw [hat] at h5
  exact h5
end NBM
