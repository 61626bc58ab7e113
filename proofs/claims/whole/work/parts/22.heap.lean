/-! SOUNDNESS of instructions that read and write cells -/
def nb_Ts : List Cond := lw_tbl.filter goodWord
theorem nb_T.use {s : State} {args : Array Value} (h : nb_T s) : ∀ w ∈ nb_Ts, w.before args s = true := by
  intro w hw
  obtain ⟨h1, h2⟩ := List.mem_filter.mp hw
  refine word_at (State.WarmedH.refl s) (good_of_word h2) (h w h1 ?_)
  unfold nb_stw
  split
  all_goals first | rfl | exact h2
theorem nb_cell_of {E : nb_E} {M : nb_M} {H : Heap} (hH : nb_H E M H) {k : Nat} {a : Int} (hok : nb_ok M (k + 3, a)) (h0 : a ≠ 0) (h1 : a ≠ 1) : ∃ A n : Nat, a = (A : Int) ∧ 2 ≤ A ∧ M.2.1[A]? = some (k, n) ∧ k < 18 ∧ n < 2147483648 ∧ nb_cell E M H A k n ∧ nb_ln M a = (n : Int) := by
  rcases hok with hz | ⟨hp, n, hn⟩
  · exact absurd hz h0
  · have ha : a = (a.toNat : Int) := by
      have : (1 : Int) ≤ a := hp
      omega
    have h2 : 2 ≤ a.toNat := by
      have : (1 : Int) ≤ a := hp
      omega
    obtain ⟨g1, g2, g3⟩ := hH.2.2.2.1 a.toNat k n h2 hn
    refine ⟨a.toNat, n, ha, h2, hn, g1, g2, g3, ?_⟩
    have hn' : M.2.1[a.toNat]? = some (k, n) := hn
    unfold nb_ln
    rw [hn']
/-- a field's row of the program's table: its class, its place, its word among the tables', its type -/
def nb_tyok (ty : FieldType) (t : Nat) (z : Bool) : Prop := (t = 0 ∧ z = false ∧ ty = .int) ∨ (t = 0 ∧ z = true ∧ ty = .boolean) ∨ (t = 1 ∧ ty = .long) ∨ (3 ≤ t ∧ ((∃ C, ty = .object C) ∨ ∃ u, ty = .array u))
def nb_FOK (own n : Nat) (f : nb_F) : Prop := ∃ (C : String) (T : u_T) (N : Nat) (ty : FieldType), vwCl[f.1]? = some (C, T, N) ∧ f.2.1 < N ∧ nb_tag (8 + f.1) f.2.1 = f.2.2.1 ∧ (Cond.fieldLink (nb_onm own) n (T f.2.1).1 (T f.2.1).2.1 (T f.2.1).2.2.1) ∈ nb_Ts ∧ (∀ w ∈ u_ws C T N, w ∈ nb_Ts) ∧ parseFieldDescriptor (T f.2.1).2.2.1 = some ty ∧ nb_tyok ty f.2.2.1 f.2.2.2
theorem nb_slot8 (E : nb_E) (i j : Nat) : nb_slot E (8 + i) j = E.2.2.2.2.1 i j := by
  unfold nb_slot
  rw [if_neg (by omega), show 8 + i - 8 = i by omega]
theorem nb_slot0 (E : nb_E) {k : Nat} (h : k < 8) (j : Nat) : nb_slot E k j = j := if_pos h
section NBH
variable {p : Program} {l : Launch} {e : Env} {R : Room} {s : State} {m : MethodId} {args : Array Value} {below : List Frame} {meth : Method} {c : Code} {Q : State → Prop} {cc : ByteArray} {E : nb_E} {z0 z1 own pc : Nat} {L st : List nb_V} {M : nb_M} {k : nb_K} {b : Bool} {r : List nb_V × nb_M}
theorem nb_s_getf {n : Nat} (hx : p.tables.exec = Jvm.exec) (hb : c.code = cc) (hown : s.vm.findClass (nb_onm own) = some m.cls) (hSt : nb_S E s) (hF : ∀ f, nb_P.1 own n = some f → nb_FOK own n f) (hd : decode cc pc = .ok (.getfield n, 3))
    (h : nb_getf (nb_P.1 own n) b L st M k = some r) (hkb : ∀ b' L' st' M', k b' L' st' M' = some r → b' = true) (hk : ∀ b' L' st' M', k b' L' st' M' = some r → nb_Go p l e R s m args below meth c Q E z0 z1 (pc + 3) L' st' M') : nb_Go p l e R s m args below meth c Q E z0 z1 pc L st M := by
  unfold nb_getf at h
  cases hf : nb_P.1 own n with
  | none => rw [hf] at h; cases h
  | some f =>
    rw [hf] at h
    dsimp only at h
    match st, h with
    | [], h1 => cases h1
    | (t, a) :: st, h1 =>
      dsimp only at h1
      split at h1
      · rename_i hc
        obtain ⟨C, T, N, ty, f1, f2, f3, f4, f5, -, -⟩ := hF f hf
        have hz := hkb _ _ _ _ h1
        simp only [Bool.and_eq_true, Bool.not_eq_true', decide_eq_false_iff_not] at hz
        intro ls H locs hL hS0 hH hl
        obtain ⟨hv, hS1⟩ := List.forall_mem_cons.mp hS0
        have hv' : nb_ok M ((8 + f.1) + 3, a) := by
          rw [show (8 + f.1) + 3 = t by omega]
          exact hv
        have ha1 : a ≠ 1 := by
          intro q
          rcases hv' with w | ⟨-, n', w⟩
          · exact hz.2 w
          · obtain ⟨-, n2, scr, g2, -⟩ := hH.2.2.2.2.2
            have w' : M.2.1[a.toNat]? = some (8 + f.1, n') := w
            rw [q, show ((1 : Int).toNat) = 1 from rfl, g2] at w'
            have := congrArg Prod.fst (Option.some.inj w')
            dsimp only at this
            omega
        obtain ⟨A, n', rfl, hA, hsh, -, -, ⟨cell, q1, q2, q3, -, q5, q6⟩, -⟩ := nb_cell_of hH hv' hz.2 ha1
        have hKn := hSt.2.1 f.1 _ f1
        obtain ⟨hSl, hfc, kC, hkC, hkind⟩ := hKn
        obtain ⟨cf, kf, fi, fd, hi, hsl⟩ := hSl f.2.1 f2
        have hN := (hSt.2.2.2.2.2 f.1 _ f1).2
        have hn' : f.2.1 < n' := by
          rw [q5 (by omega), show 8 + f.1 - 8 = f.1 by omega, ← hN]
          exact f2
        have hval : (nb_val E (t, (A : Int))) = .ref (nb_ad E (A : Int)) := nb_val_ref E (by omega) hz.2
        show W p l e R s m args below meth c H locs _ _ Q (F0 m pc ls (nb_val E (t, (A : Int)) :: st.map (nb_val E)))
        rw [hval]
        obtain ⟨g1, g2⟩ := q6 f.2.1 hn'
        rw [f3] at g1 g2
        refine W.getf hx hb hown (hSt.1.use _ f4) hi (u_facts hfc hkC (u_lays (hSt.1.use (args := args)) f5 f2) hi).1 q1 (by rw [q2]; exact fun q => by cases q) (v := nb_val E (f.2.2.1, M.1 (A : Int) (f.2.1 : Int))) ?_ rfl rfl hd ?_
        · rw [hsl, ← nb_slot8 E f.1 f.2.1]
          exact g1
        · exact hk _ _ _ _ h1 ls H locs hL (List.forall_mem_cons.mpr ⟨g2, hS1⟩) hH hl
      · cases h1
theorem nb_isArr {a : Cell} {kd : Nat} (hSt : nb_S E s) (hk8 : kd < 8) (h1 : a.vm = .none) (h2 : a.cls = E.2.2.2.1 kd) : s.isArrayOf a (nb_aty kd) := by
  obtain ⟨kA, comp, kc, g1, g2, -⟩ := hSt.2.2.1 kd hk8
  exact ⟨fun q => by (rw [h1]; exact fun w => by (cases w)), kA, by (rw [h2]; exact g1), comp, g2⟩
theorem nb_idx {i : Int} {n : Nat} (hok : -2147483648 ≤ i ∧ i < 2147483648) (h0 : 0 ≤ i) (h1 : i < (n : Int)) : ¬ (Int32.ofInt i < 0 ∨ n ≤ (Int32.ofInt i).toNatClampNeg) ∧ (Int32.ofInt i).toNatClampNeg = i.toNat ∧ i.toNat < n := by
  have h2 := nb_clamp hok
  refine ⟨?_, h2, by omega⟩
  rintro (q | q)
  · have := (nb_lt32 (y := 0) hok (by decide)).mp q
    omega
  · rw [h2] at q
    omega
theorem nb_s_ald {kd r0 : Nat} (hSt : nb_S E s) (hk8 : kd < 8) (hr : ∀ i, nb_tag kd i = r0)
    (row : ∀ (ls : Array Slot) (H : Heap) (locs : List Loc) (rest : List Value) (a : Addr) (cell : Cell) (j : Int32) (v : Value), H[a]? = some cell → s.isArrayOf cell (nb_aty kd) → cell.vm ≠ .unknown → ¬ (j < 0 ∨ cell.slots.size ≤ j.toNatClampNeg) → cell.slots[j.toNatClampNeg]? = some v → W p l e R s m args below meth c H locs (nb_cz M - z0) (nb_sz M - z1) Q (F0 m (pc + 1) ls (v :: rest)) → W p l e R s m args below meth c H locs (nb_cz M - z0) (nb_sz M - z1) Q (F0 m pc ls (.int j :: .ref a :: rest)))
    (h : nb_ald kd r0 b L st M k = some r) (hkb : ∀ b' L' st' M', k b' L' st' M' = some r → b' = true) (hk : ∀ b' L' st' M', k b' L' st' M' = some r → nb_Go p l e R s m args below meth c Q E z0 z1 (pc + 1) L' st' M') : nb_Go p l e R s m args below meth c Q E z0 z1 pc L st M := by
  unfold nb_ald at h
  match st, h with
  | [], h1 => cases h1
  | [_], h1 => cases h1
  | (t1, i) :: (t2, a) :: st, h1 =>
    dsimp only at h1
    split at h1
    · rename_i hc
      obtain ⟨hc1, hc2⟩ := hc
      have hz := hkb _ _ _ _ h1
      simp only [Bool.and_eq_true, Bool.not_eq_true', decide_eq_false_iff_not, decide_eq_true_eq] at hz
      obtain ⟨-, ha0, hi0, hi1⟩ := hz
      intro ls H locs hL hS0 hH hl
      obtain ⟨hvi, hS1⟩ := List.forall_mem_cons.mp hS0
      obtain ⟨hva, hS2⟩ := List.forall_mem_cons.mp hS1
      subst hc1
      have hva' : nb_ok M (kd + 3, a) := by
        rw [show kd + 3 = t2 by omega]
        exact hva
      have hvi' : -2147483648 ≤ i ∧ i < 2147483648 := hvi
      have hval : nb_val E (t2, a) = .ref (nb_ad E a) := nb_val_ref E (by omega) ha0
      show W p l e R s m args below meth c H locs _ _ Q (F0 m pc ls (.int (Int32.ofInt i) :: nb_val E (t2, a) :: st.map (nb_val E)))
      rw [hval]
      by_cases ha1 : a = 1
      · subst ha1
        obtain ⟨g0, n, scr, g2, g3, g4, g5, g6, g7⟩ := hH.2.2.2.2.2
        have hkd : kd = 0 := by
          rcases hva' with w | ⟨-, n', w⟩
          · exact absurd w ha0
          · have w' : M.2.1[1]? = some (kd, n') := w
            rw [g2] at w'
            exact (congrArg Prod.fst (Option.some.inj w')).symm
        subst hkd
        have hln : nb_ln M 1 = (n : Int) := by
          unfold nb_ln
          rw [show ((1 : Int).toNat) = 1 from rfl, g2]
        rw [hln] at hi1
        obtain ⟨x1, x2, x3⟩ := nb_idx hvi' hi0 hi1
        obtain ⟨y1, y2⟩ := g7 i.toNat x3
        have hii : ((i.toNat : Nat) : Int) = i := by omega
        rw [hii] at y1 y2
        have had : nb_ad E 1 = E.1 := if_pos rfl
        rw [had]
        refine row ls H locs _ E.1 scr (Int32.ofInt i) _ (by rw [hH.2.2.1 _ g0]; exact g4) (hSt.2.2.2.1 scr g4) g5 (by rw [g6]; exact x1) (by rw [x2]; exact y1) ?_
        have hr0 : r0 = 0 := (hr 0).symm
        subst hr0
        exact hk _ _ _ _ h1 ls H locs hL (List.forall_mem_cons.mpr ⟨y2, hS2⟩) hH hl
      · obtain ⟨A, n, rfl, hA, hsh, -, -, ⟨cell, q1, q2, q3, q4, -, q6⟩, hln⟩ := nb_cell_of hH hva' ha0 ha1
        rw [hln] at hi1
        obtain ⟨x1, x2, x3⟩ := nb_idx hvi' hi0 hi1
        obtain ⟨y1, y2⟩ := q6 i.toNat x3
        have hii : ((i.toNat : Nat) : Int) = i := by omega
        rw [hii, hr] at y1 y2
        rw [nb_slot0 E hk8] at y1
        refine row ls H locs _ _ cell (Int32.ofInt i) _ q1 (nb_isArr hSt hk8 q2 q3) (by rw [q2]; exact fun q => by cases q) (by rw [q4 hk8]; exact x1) (by rw [x2]; exact y1) ?_
        exact hk _ _ _ _ h1 ls H locs hL (List.forall_mem_cons.mpr ⟨y2, hS2⟩) hH hl
    · cases h1
theorem nb_s_ast {kd t0 : Nat} {f : Int → Int} (hSt : nb_S E s) (hk8 : kd < 8) (hr : ∀ i, nb_tag kd i = t0) (hf : ∀ w, nb_ok M (t0, w) → nb_ok M (t0, f w))
    (row : ∀ (ls : Array Slot) (H : Heap) (locs : List Loc) (rest : List Value) (a : Addr) (cell : Cell) (j : Int32) (w : Int), b = true → st.head? = some (t0, w) → nb_H E M H → nb_ok M (t0, w) → H[a]? = some cell → cell.vm = .none → cell.cls = E.2.2.2.1 kd → s.isArrayOf cell (nb_aty kd) → ¬ (j < 0 ∨ cell.slots.size ≤ j.toNatClampNeg) → (∀ H' : Heap, H'[a]? = some (cell.setSlot j.toNatClampNeg (nb_val E (t0, f w))) → H'.size = H.size → (∀ q, q ≠ a → H'[q]? = H[q]?) → W p l e R s m args below meth c H' (locs ++ [⟨a, j.toNatClampNeg⟩]) (nb_cz M - z0) (nb_sz M - z1) Q (F0 m (pc + 1) ls rest)) → W p l e R s m args below meth c H locs (nb_cz M - z0) (nb_sz M - z1) Q (F0 m pc ls (nb_val E (t0, w) :: .int j :: .ref a :: rest)))
    (h : nb_ast kd t0 f b L st M k = some r) (hkb : ∀ b' L' st' M', k b' L' st' M' = some r → b' = true) (hk : ∀ b' L' st' M', k b' L' st' M' = some r → nb_Go p l e R s m args below meth c Q E z0 z1 (pc + 1) L' st' M') : nb_Go p l e R s m args below meth c Q E z0 z1 pc L st M := by
  unfold nb_ast at h
  match st, h with
  | [], h1 => cases h1
  | [_], h1 => cases h1
  | [_, _], h1 => cases h1
  | (t1, w) :: (t2, i) :: (t3, a) :: st, h1 =>
    dsimp only at h1
    split at h1
    · rename_i hc
      obtain ⟨hc1, hc2, hc3⟩ := hc
      have hz := hkb _ _ _ _ h1
      simp only [Bool.and_eq_true, Bool.not_eq_true', decide_eq_false_iff_not, decide_eq_true_eq] at hz
      obtain ⟨hbt, ha0, ha1, hi0, hi1⟩ := hz
      intro ls H locs hL hS0 hH hl
      obtain ⟨hvw, hS1⟩ := List.forall_mem_cons.mp hS0
      obtain ⟨hvi, hS2⟩ := List.forall_mem_cons.mp hS1
      obtain ⟨hva, hS3⟩ := List.forall_mem_cons.mp hS2
      subst hc1
      subst hc2
      have hva' : nb_ok M (kd + 3, a) := by
        rw [show kd + 3 = t3 by omega]
        exact hva
      have hvi' : -2147483648 ≤ i ∧ i < 2147483648 := hvi
      have hval : nb_val E (t3, a) = .ref (nb_ad E a) := nb_val_ref E (by omega) ha0
      show W p l e R s m args below meth c H locs _ _ Q (F0 m pc ls (nb_val E (t1, w) :: .int (Int32.ofInt i) :: nb_val E (t3, a) :: st.map (nb_val E)))
      rw [hval]
      obtain ⟨A, n, rfl, hA, hsh, -, -, ⟨cell, q1, q2, q3, q4, q5, q6⟩, hln⟩ := nb_cell_of hH hva' ha0 ha1
      rw [hln] at hi1
      obtain ⟨x1, x2, x3⟩ := nb_idx hvi' hi0 hi1
      have hii : ((i.toNat : Nat) : Int) = i := by omega
      refine row ls H locs _ _ cell (Int32.ofInt i) w hbt rfl hH hvw q1 q2 q3 (nb_isArr hSt hk8 q2 q3) (by rw [q4 hk8]; exact x1) (fun H' e1 e2 e3 => ?_)
      rw [x2] at e1 ⊢
      have hnew : nb_H E (nb_wr M (A : Int) ((i.toNat : Nat) : Int) (f w)) H' := nb_H_wr hH hA hsh x3 (fun x y _ _ hxy => by rw [nb_slot0 E hk8, nb_slot0 E hk8]; exact hxy) q1 (by rw [hr]; exact hf w hvw) (by rw [nb_slot0 E hk8, hr]; exact e1) e2 e3
      rw [hii] at hnew
      refine hk _ _ _ _ h1 ls H' _ hL hS3 hnew (fun q hq => ?_)
      rcases List.mem_append.mp hq with hq | hq
      · exact hl q hq
      · rw [List.mem_singleton.mp hq]
        show E.2.1 ≤ nb_ad E (A : Int)
        rw [nb_ad2 E hA]
        omega
    · cases h1
theorem nb_s_alen (hx : p.tables.exec = Jvm.exec) (hb : c.code = cc) (hSt : nb_S E s) (hd : decode cc pc = .ok (.arraylength, 1))
    (h : nb_alen b L st M k = some r) (hkb : ∀ b' L' st' M', k b' L' st' M' = some r → b' = true) (hk : ∀ b' L' st' M', k b' L' st' M' = some r → nb_Go p l e R s m args below meth c Q E z0 z1 (pc + 1) L' st' M') : nb_Go p l e R s m args below meth c Q E z0 z1 pc L st M := by
  unfold nb_alen at h
  match st, h with
  | [], h1 => cases h1
  | (t, a) :: st, h1 =>
    dsimp only at h1
    split at h1
    · rename_i hc
      have hz := hkb _ _ _ _ h1
      simp only [Bool.and_eq_true, Bool.not_eq_true', decide_eq_false_iff_not] at hz
      obtain ⟨-, ha0⟩ := hz
      intro ls H locs hL hS0 hH hl
      obtain ⟨hva, hS1⟩ := List.forall_mem_cons.mp hS0
      have hva' : nb_ok M ((t - 3) + 3, a) := by
        rw [show t - 3 + 3 = t by omega]
        exact hva
      have hval : nb_val E (t, a) = .ref (nb_ad E a) := nb_val_ref E (by omega) ha0
      show W p l e R s m args below meth c H locs _ _ Q (F0 m pc ls (nb_val E (t, a) :: st.map (nb_val E)))
      rw [hval]
      by_cases ha1 : a = 1
      · subst ha1
        obtain ⟨g0, n, scr, g2, g3, g4, g5, g6, g7⟩ := hH.2.2.2.2.2
        have hln : nb_ln M 1 = (n : Int) := by
          unfold nb_ln
          rw [show ((1 : Int).toNat) = 1 from rfl, g2]
        have had : nb_ad E 1 = E.1 := if_pos rfl
        rw [had]
        rw [hln] at h1
        refine W.alen (n := Int32.ofInt (n : Int)) hx hb (by rw [hH.2.2.1 _ g0]; exact g4) (hSt.2.2.2.1 scr g4) (by rw [g6]; rfl) rfl rfl hd ?_
        exact hk _ _ _ _ h1 ls H locs hL (List.forall_mem_cons.mpr ⟨⟨by omega, by omega⟩, hS1⟩) hH hl
      · obtain ⟨A, n, rfl, hA, hsh, -, hn, ⟨cell, q1, q2, q3, q4, -, q6⟩, hln⟩ := nb_cell_of hH hva' ha0 ha1
        rw [hln] at h1
        refine W.alen (n := Int32.ofInt (n : Int)) hx hb q1 (nb_isArr hSt (by omega) q2 q3) (by rw [q4 (by omega)]; rfl) rfl rfl hd ?_
        exact hk _ _ _ _ h1 ls H locs hL (List.forall_mem_cons.mpr ⟨⟨by omega, by omega⟩, hS1⟩) hH hl
    · cases h1
end NBH
