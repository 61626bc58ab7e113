/-! SOUNDNESS of instructions that read and write cells -/
def nb_Ts : List Cond := lw_tbl.filter goodWord
theorem nb_T.use {s : State} {args : Array Value} (h : nb_T s) : ∀ w ∈ nb_Ts, w.before args s = true := by
  intro w hw
  obtain ⟨h1, h2⟩ := List.mem_filter.mp hw
  refine word_at (State.WarmedH.refl s) (good_of_word h2) (h w h1 ?_)
  unfold nb_stw
  split
  · rfl
  · rfl
  · exact h2
theorem nb_cell_of {E : nb_E} {M : nb_M} {H : Heap} (hH : nb_H E M H) {k : Nat} {a : Int} (hok : nb_ok M (k + 3, a)) (h0 : a ≠ 0) (h1 : a ≠ 1) : ∃ A n : Nat, a = (A : Int) ∧ 2 ≤ A ∧ M.2.1[A]? = some (k, n) ∧ k < 18 ∧ n < 2147483648 ∧ nb_cell E M H A k n ∧ nb_ln M a = (n : Int) := by
  rcases hok with hz | ⟨hp, n, hn⟩
  · exact absurd hz h0
  · have ha : a = (a.toNat : Int) := by
      have : (1 : Int) ≤ a := hp
      omega
    have h2 : 2 ≤ a.toNat := by
      have : (1 : Int) ≤ a := hp
      omega
    obtain ⟨g1, g2, g3⟩ := hH.2.2.2.1 a.toNat k n h2 hn
    refine ⟨a.toNat, n, ha, h2, hn, g1, g2, g3, ?_⟩
    have hn' : M.2.1[a.toNat]? = some (k, n) := hn
    unfold nb_ln
    rw [hn']
/-- a field's row of the program's table: its class, its place, its word among the tables', its type -/
def nb_tyok (ty : FieldType) (t : Nat) (z : Bool) : Prop := (t = 0 ∧ z = false ∧ ty = .int) ∨ (t = 0 ∧ z = true ∧ ty = .boolean) ∨ (t = 1 ∧ ty = .long) ∨ (3 ≤ t ∧ ((∃ C, ty = .object C) ∨ ∃ u, ty = .array u))
def nb_FOK (own n : Nat) (f : nb_F) : Prop := ∃ (C : String) (T : u_T) (N : Nat) (ty : FieldType), vwCl[f.1]? = some (C, T, N) ∧ f.2.1 < N ∧ nb_tag (8 + f.1) f.2.1 = f.2.2.1 ∧ (Cond.fieldLink (nb_onm own) n (T f.2.1).1 (T f.2.1).2.1 (T f.2.1).2.2.1) ∈ nb_Ts ∧ (∀ w ∈ u_ws C T N, w ∈ nb_Ts) ∧ parseFieldDescriptor (T f.2.1).2.2.1 = some ty ∧ nb_tyok ty f.2.2.1 f.2.2.2
theorem nb_slot8 (E : nb_E) (i j : Nat) : nb_slot E (8 + i) j = E.2.2.2.2.1 i j := by
  unfold nb_slot
  rw [if_neg (by omega), show 8 + i - 8 = i by omega]
theorem nb_slot0 (E : nb_E) {k : Nat} (h : k < 8) (j : Nat) : nb_slot E k j = j := if_pos h
section NBH
variable {p : Program} {l : Launch} {e : Env} {R : Room} {s : State} {m : MethodId} {args : Array Value} {below : List Frame} {meth : Method} {c : Code} {Q : State → Prop} {cc : ByteArray} {E : nb_E} {z0 z1 own pc : Nat} {L st : List nb_V} {M : nb_M} {k : nb_K} {b : Bool} {r : List nb_V × nb_M}
theorem nb_s_getf {n : Nat} (hx : p.tables.exec = Jvm.exec) (hb : c.code = cc) (hown : s.vm.findClass (nb_onm own) = some m.cls) (hSt : nb_S E s) (hF : ∀ f, nb_P.1 own n = some f → nb_FOK own n f) (hd : decode cc pc = .ok (.getfield n, 3))
    (h : nb_getf (nb_P.1 own n) b L st M k = some r) (hkb : ∀ b' L' st' M', k b' L' st' M' = some r → b' = true) (hk : ∀ b' L' st' M', k b' L' st' M' = some r → nb_Go p l e R s m args below meth c Q E z0 z1 (pc + 3) L' st' M') : nb_Go p l e R s m args below meth c Q E z0 z1 pc L st M := by
  unfold nb_getf at h
  cases hf : nb_P.1 own n with
  | none => rw [hf] at h; cases h
  | some f =>
    rw [hf] at h
    dsimp only at h
    match st, h with
    | [], h1 => cases h1
    | (t, a) :: st, h1 =>
      dsimp only at h1
      split at h1
      · rename_i hc
        obtain ⟨C, T, N, ty, f1, f2, f3, f4, f5, -, -⟩ := hF f hf
        have hz := hkb _ _ _ _ h1
        simp only [Bool.and_eq_true, Bool.not_eq_true', decide_eq_false_iff_not] at hz
        intro ls H locs hL hS hH hl
        obtain ⟨hv, hS⟩ := List.forall_mem_cons.mp hS
        have hv' : nb_ok M ((8 + f.1) + 3, a) := by
          rw [show (8 + f.1) + 3 = t by omega]
          exact hv
        have ha1 : a ≠ 1 := by
          intro q
          rcases hv' with w | ⟨-, n', w⟩
          · exact hz.2 w
          · obtain ⟨-, n2, scr, g2, -⟩ := hH.2.2.2.2.2
            have w' : M.2.1[a.toNat]? = some (8 + f.1, n') := w
            rw [q, show ((1 : Int).toNat) = 1 from rfl, g2] at w'
            have := congrArg Prod.fst (Option.some.inj w')
            dsimp only at this
            omega
        obtain ⟨A, n', rfl, hA, hsh, -, -, ⟨cell, q1, q2, q3, -, q5, q6⟩, -⟩ := nb_cell_of hH hv' hz.2 ha1
        have hKn := hSt.2.1 f.1 _ f1
        obtain ⟨hSl, hfc, kC, hkC, hkind⟩ := hKn
        obtain ⟨cf, kf, fi, fd, hi, hsl⟩ := hSl f.2.1 f2
        have hN := (hSt.2.2.2.2.2 f.1 _ f1).2
        have hn' : f.2.1 < n' := by
          rw [q5 (by omega), show 8 + f.1 - 8 = f.1 by omega, ← hN]
          exact f2
        have hval : (nb_val E (t, (A : Int))) = .ref (nb_ad E (A : Int)) := nb_val_ref E (by omega) hz.2
        show W p l e R s m args below meth c H locs _ _ Q (F0 m pc ls (nb_val E (t, (A : Int)) :: st.map (nb_val E)))
        rw [hval]
        obtain ⟨g1, g2⟩ := q6 f.2.1 hn'
        rw [f3] at g1 g2
        refine W.getf hx hb hown (hSt.1.use _ f4) hi (u_facts hfc hkC (u_lays (hSt.1.use) f5 f2) hi).1 q1 (by rw [q2]; exact fun q => by cases q) (v := nb_val E (f.2.2.1, M.1 (A : Int) (f.2.1 : Int))) ?_ rfl rfl hd ?_
        · rw [hsl, ← nb_slot8 E f.1 f.2.1]
          exact g1
        · exact hk _ _ _ _ h1 ls H locs hL (List.forall_mem_cons.mpr ⟨g2, hS⟩) hH hl
      · cases h1
end NBH
