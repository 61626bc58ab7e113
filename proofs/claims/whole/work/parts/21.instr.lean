/-! SOUNDNESS of single instructions that leave the heap as it is -/
/-- words that hold on as the tables get warmer -/
def nb_stw : Cond → Bool
  | .methodLinkNest _ _ _ _ => true
  | .arrayOver (.object _) => true
  | .arrayOver (.array _) => true
  | .castable _ _ => true
  | .declares _ => true
  | w => goodWord w
theorem nb_stw_warm {w : Cond} (h : nb_stw w = true) {s U : State} (hW : s.WarmedH U.vm) (hb : w.before #[] s = true) : w.before #[] U = true := by
  unfold nb_stw at h
  split at h
  · exact va_Nw.warmM hW hb
  · exact Cond.arrayOver_alike hW.alike hb
  · exact nb_over_alike hW.alike hb
  · exact va_Nw.warmC hW hb
  · exact va_Nw.warmD hW hb
  · exact word_at hW (good_of_word h) hb
def nb_T (U : State) : Prop := ∀ w ∈ lw_tbl, nb_stw w = true → w.before #[] U = true
def nb_aty : Nat → FieldType
  | 0 => .int
  | 1 => .byte
  | 2 => .long
  | 3 => .boolean
  | 4 => .object RX0
  | 5 => .object RX5
  | 6 => .object RX4
  | _ => .array .int
def nb_arK (E : nb_E) (U : State) (k : Nat) : Prop := ∃ (kA : Class) (comp : ClassId) (kc : Class), U.vm.classes[E.2.2.2.1 k]? = some kA ∧ kA.kind = .array comp (nb_aty k) ∧ (4 ≤ k → U.vm.classes[comp]? = some kc) ∧ U.vm.findClass ("[" ++ (nb_aty k).toString) = some (E.2.2.2.1 k) ∧ (4 ≤ k → comp = E.2.2.2.1 (nb_comp k))
/-- what the tables say, at every state of a run -/
def nb_S (E : nb_E) (U : State) : Prop := nb_T U ∧ (∀ (i : Nat) (q : vw_C), vwCl[i]? = some q → u_Kn U q.1 q.2.1 q.2.2 (E.2.2.2.1 (8 + i)) (E.2.2.2.2.1 i)) ∧ (∀ k, k < 8 → nb_arK E U k) ∧ (∀ scr, E.2.2.1[E.1]? = some scr → U.isArrayOf scr .int) ∧ ((∀ (own n : Nat) (k : Int), nb_P.2.1 own n = some (2, k) → ∃ tx, vk_R (nb_onm own) n tx (E.2.2.2.2.2 k.toNat) U) ∧ nb_J E U) ∧ ∀ (i : Nat) (q : vw_C), vwCl[i]? = some q → (∀ x y, x < q.2.2 → y < q.2.2 → x ≠ y → E.2.2.2.2.1 i x ≠ E.2.2.2.2.1 i y) ∧ q.2.2 = (nb_fts.getD i []).length
def nb_cz (M : nb_M) : Nat := M.2.1.length + M.2.2.1
def nb_sz (M : nb_M) : Nat := (M.2.1.map (fun q => q.2)).sum + M.2.2.2
section NBI
variable {p : Program} {l : Launch} {e : Env} {R : Room} {s : State} {m : MethodId} {args : Array Value} {below : List Frame} {meth : Method} {c : Code} {Q : State → Prop} {cc : ByteArray} {E : nb_E} {z0 z1 own pc : Nat} {L st : List nb_V} {M : nb_M} {k : nb_K} {b : Bool} {r : List nb_V × nb_M}
/-- the machine comes to its end from here -/
def nb_Go (p : Program) (l : Launch) (e : Env) (R : Room) (s : State) (m : MethodId) (args : Array Value) (below : List Frame) (meth : Method) (c : Code) (Q : State → Prop) (E : nb_E) (z0 z1 pc : Nat) (L st : List nb_V) (M : nb_M) : Prop :=
  ∀ (ls : Array Slot) (H : Heap) (locs : List Loc), nb_LR E M ls L → (∀ v ∈ st, nb_ok M v) → nb_H E M H → (∀ q ∈ locs, E.2.1 ≤ q.base) → W p l e R s m args below meth c H locs (nb_cz M - z0) (nb_sz M - z1) Q (F0 m pc ls (st.map (nb_val E)))
theorem nb_ok_i (M : nb_M) (v : Int32) : nb_ok M (0, v.toInt) := nb_r32 v
theorem nb_ok_l (M : nb_M) (v : Int64) : nb_ok M (1, v.toInt) := nb_r64 v
theorem nb_val_i (E : nb_E) (v : Int32) : nb_val E (0, v.toInt) = .int v := congrArg Value.int (nb_o32 v)
theorem nb_val_l (E : nb_E) (v : Int64) : nb_val E (1, v.toInt) = .long v := congrArg Value.long (nb_o64 v)
theorem nb_s_push {n : Nat} {v : nb_V} (hv : nb_ok M v) (row : ∀ (ls : Array Slot) (H : Heap) (locs : List Loc) (rest : List Value), W p l e R s m args below meth c H locs (nb_cz M - z0) (nb_sz M - z1) Q (F0 m (pc + n) ls (nb_val E v :: rest)) → W p l e R s m args below meth c H locs (nb_cz M - z0) (nb_sz M - z1) Q (F0 m pc ls rest))
    (h : nb_Go p l e R s m args below meth c Q E z0 z1 (pc + n) L (v :: st) M) : nb_Go p l e R s m args below meth c Q E z0 z1 pc L st M := by
  intro ls H locs hL hS hH hl
  exact row ls H locs _ (h ls H locs hL (List.forall_mem_cons.mpr ⟨hv, hS⟩) hH hl)
theorem nb_s_load {n d lo hi : Nat} (row : ∀ (ls : Array Slot) (H : Heap) (locs : List Loc) (rest : List Value) (v : nb_V), lo ≤ v.1 → v.1 ≤ hi → ls[n]? = some (.val (nb_val E v)) → W p l e R s m args below meth c H locs (nb_cz M - z0) (nb_sz M - z1) Q (F0 m (pc + d) ls (nb_val E v :: rest)) → W p l e R s m args below meth c H locs (nb_cz M - z0) (nb_sz M - z1) Q (F0 m pc ls rest)) (h9 : hi < 90)
    (h : nb_load lo hi n b L st M k = some r) (hk : ∀ b' L' st' M', k b' L' st' M' = some r → nb_Go p l e R s m args below meth c Q E z0 z1 (pc + d) L' st' M') : nb_Go p l e R s m args below meth c Q E z0 z1 pc L st M := by
  unfold nb_load at h
  cases hv : L[n]? with
  | none => rw [hv] at h; cases h
  | some v =>
    rw [hv] at h
    dsimp only at h
    split at h
    · rename_i hc
      intro ls H locs hL hS hH hl
      exact row ls H locs _ v hc.1 hc.2 (hL.2.2.1 n v hv (by omega)) (hk _ _ _ _ h ls H locs hL (List.forall_mem_cons.mpr ⟨hL.2.2.2 v (List.mem_of_getElem? hv), hS⟩) hH hl)
    · cases h
theorem nb_s_store {n d lo hi : Nat} (row : ∀ (ls : Array Slot) (H : Heap) (locs : List Loc) (rest : List Value) (v : nb_V), lo ≤ v.1 → v.1 ≤ hi → v.1 ≠ 1 → lv_has ls L.length (nb_asc E L) → n < L.length → (∀ ls' : Array Slot, lv_has ls' L.length ((n, nb_val E v) :: (nb_asc E L).filter (fun q => !(q.1 == n) && !(q.1 + 1 == n && q.2.category == 2))) → W p l e R s m args below meth c H locs (nb_cz M - z0) (nb_sz M - z1) Q (F0 m (pc + d) ls' rest)) → W p l e R s m args below meth c H locs (nb_cz M - z0) (nb_sz M - z1) Q (F0 m pc ls (nb_val E v :: rest)))
    (h : nb_store lo hi n b L st M k = some r) (hk : ∀ b' L' st' M', k b' L' st' M' = some r → nb_Go p l e R s m args below meth c Q E z0 z1 (pc + d) L' st' M') : nb_Go p l e R s m args below meth c Q E z0 z1 pc L st M := by
  unfold nb_store at h
  match st, h with
  | [], h1 => cases h1
  | v :: st, h1 =>
    dsimp only at h1
    split at h1
    · rename_i hc
      intro ls H locs hL hS hH hl
      obtain ⟨hv, hS⟩ := List.forall_mem_cons.mp hS
      exact row ls H locs _ v hc.1 hc.2.1 hc.2.2.1 hL.has hc.2.2.2 (fun ls' h' => hk _ _ _ _ h1 ls' H locs (nb_LR_put hL hc.2.2.2 hv h') hS hH hl)
    · cases h1
theorem nb_s_lstore {n d : Nat} (row : ∀ (ls : Array Slot) (H : Heap) (locs : List Loc) (rest : List Value) (w : Int), lv_has ls L.length (nb_asc E L) → n + 1 < L.length → (∀ ls' : Array Slot, lv_has ls' L.length ((n, nb_val E (1, w)) :: (nb_asc E L).filter (fun q => !(q.1 == n) && (!(q.1 == n + 1) && !(q.1 + 1 == n && q.2.category == 2)))) → W p l e R s m args below meth c H locs (nb_cz M - z0) (nb_sz M - z1) Q (F0 m (pc + d) ls' rest)) → W p l e R s m args below meth c H locs (nb_cz M - z0) (nb_sz M - z1) Q (F0 m pc ls (nb_val E (1, w) :: rest)))
    (h : nb_lstore n b L st M k = some r) (hk : ∀ b' L' st' M', k b' L' st' M' = some r → nb_Go p l e R s m args below meth c Q E z0 z1 (pc + d) L' st' M') : nb_Go p l e R s m args below meth c Q E z0 z1 pc L st M := by
  unfold nb_lstore at h
  match st, h with
  | [], h1 => cases h1
  | (t, w) :: st, h1 =>
    dsimp only at h1
    split at h1
    · rename_i hc
      obtain ⟨rfl, hn⟩ := hc
      intro ls H locs hL hS hH hl
      obtain ⟨hv, hS⟩ := List.forall_mem_cons.mp hS
      exact row ls H locs _ w hL.has hn (fun ls' h' => hk _ _ _ _ h1 ls' H locs (nb_LR_put2 hL hn hv h') hS hH hl)
    · cases h1
theorem nb_s_iinc {n : Nat} {d : Int} (hx : p.tables.exec = Jvm.exec) (hb : c.code = cc) (hd : decode cc pc = .ok (.iinc n d, 3))
    (h : nb_iinc n d b L st M k = some r) (hk : ∀ b' L' st' M', k b' L' st' M' = some r → nb_Go p l e R s m args below meth c Q E z0 z1 (pc + 3) L' st' M') : nb_Go p l e R s m args below meth c Q E z0 z1 pc L st M := by
  unfold nb_iinc at h
  cases hv : L[n]? with
  | none => rw [hv] at h; cases h
  | some v =>
    obtain ⟨t, w⟩ := v
    rw [hv] at h
    dsimp only at h
    split at h
    · rename_i hc
      obtain ⟨rfl, hn⟩ := hc
      intro ls H locs hL hS hH hl
      obtain ⟨j, hj⟩ := List.getElem?_of_mem (nb_asc_mem (E := E) hv (show (0 : Nat) < 90 by decide))
      refine lv_iinc (v := Int32.ofInt w + Int32.ofInt d) hx hb hd hL.has (k := j) hj rfl hn rfl (fun ls' h' => ?_)
      have h2 : Value.int (Int32.ofInt w + Int32.ofInt d) = nb_val E (0, nb_add w d) := (nb_val_i E _).symm
      rw [h2] at h'
      exact hk _ _ _ _ h ls' H locs (nb_LR_put hL hn (nb_ok_i M _) h') hS hH hl
    · cases h
theorem nb_s_un {t r0 : Nat} {f : Int → Int} (row : ∀ (ls : Array Slot) (H : Heap) (locs : List Loc) (rest : List Value) (x : Int), nb_ok M (t, x) → W p l e R s m args below meth c H locs (nb_cz M - z0) (nb_sz M - z1) Q (F0 m (pc + 1) ls (nb_val E (r0, f x) :: rest)) → W p l e R s m args below meth c H locs (nb_cz M - z0) (nb_sz M - z1) Q (F0 m pc ls (nb_val E (t, x) :: rest))) (hok : ∀ x, nb_ok M (r0, f x))
    (h : nb_un t r0 f b L st M k = some r) (hk : ∀ b' L' st' M', k b' L' st' M' = some r → nb_Go p l e R s m args below meth c Q E z0 z1 (pc + 1) L' st' M') : nb_Go p l e R s m args below meth c Q E z0 z1 pc L st M := by
  unfold nb_un at h
  match st, h with
  | [], h1 => cases h1
  | (t', x) :: st, h1 =>
    dsimp only at h1
    split at h1
    · rename_i hc
      subst hc
      intro ls H locs hL hS hH hl
      obtain ⟨hv, hS⟩ := List.forall_mem_cons.mp hS
      exact row ls H locs _ x hv (hk _ _ _ _ h1 ls H locs hL (List.forall_mem_cons.mpr ⟨hok x, hS⟩) hH hl)
    · cases h1
theorem nb_s_bin {tx ty r0 : Nat} {f : Int → Int → Int} (row : ∀ (ls : Array Slot) (H : Heap) (locs : List Loc) (rest : List Value) (x y : Int), nb_ok M (tx, x) → nb_ok M (ty, y) → W p l e R s m args below meth c H locs (nb_cz M - z0) (nb_sz M - z1) Q (F0 m (pc + 1) ls (nb_val E (r0, f x y) :: rest)) → W p l e R s m args below meth c H locs (nb_cz M - z0) (nb_sz M - z1) Q (F0 m pc ls (nb_val E (ty, y) :: nb_val E (tx, x) :: rest))) (hok : ∀ x y, nb_ok M (r0, f x y))
    (h : nb_bin tx ty r0 f b L st M k = some r) (hk : ∀ b' L' st' M', k b' L' st' M' = some r → nb_Go p l e R s m args below meth c Q E z0 z1 (pc + 1) L' st' M') : nb_Go p l e R s m args below meth c Q E z0 z1 pc L st M := by
  unfold nb_bin at h
  match st, h with
  | [], h1 => cases h1
  | [_], h1 => cases h1
  | (t1, y) :: (t2, x) :: st, h1 =>
    dsimp only at h1
    split at h1
    · rename_i hc
      obtain ⟨rfl, rfl⟩ := hc
      intro ls H locs hL hS hH hl
      obtain ⟨hy, hS⟩ := List.forall_mem_cons.mp hS
      obtain ⟨hx, hS⟩ := List.forall_mem_cons.mp hS
      exact row ls H locs _ x y hx hy (hk _ _ _ _ h1 ls H locs hL (List.forall_mem_cons.mpr ⟨hok x y, hS⟩) hH hl)
    · cases h1
theorem nb_s_binz {f : Int → Int → Int} (row : ∀ (ls : Array Slot) (H : Heap) (locs : List Loc) (rest : List Value) (x y : Int), ¬ Int32.ofInt y = 0 → W p l e R s m args below meth c H locs (nb_cz M - z0) (nb_sz M - z1) Q (F0 m (pc + 1) ls (nb_val E (0, f x y) :: rest)) → W p l e R s m args below meth c H locs (nb_cz M - z0) (nb_sz M - z1) Q (F0 m pc ls (nb_val E (0, y) :: nb_val E (0, x) :: rest))) (hok : ∀ x y, nb_ok M (0, f x y))
    (h : nb_binz f b L st M k = some r) (hkb : ∀ b' L' st' M', k b' L' st' M' = some r → b' = true) (hk : ∀ b' L' st' M', k b' L' st' M' = some r → nb_Go p l e R s m args below meth c Q E z0 z1 (pc + 1) L' st' M') : nb_Go p l e R s m args below meth c Q E z0 z1 pc L st M := by
  unfold nb_binz at h
  match st, h with
  | [], h1 => cases h1
  | [_], h1 => cases h1
  | (t1, y) :: (t2, x) :: st, h1 =>
    dsimp only at h1
    split at h1
    · rename_i hc
      obtain ⟨rfl, rfl⟩ := hc
      intro ls H locs hL hS hH hl
      obtain ⟨hy, hS⟩ := List.forall_mem_cons.mp hS
      obtain ⟨hx, hS⟩ := List.forall_mem_cons.mp hS
      have hz := hkb _ _ _ _ h1
      simp only [Bool.and_eq_true, Bool.not_eq_true', decide_eq_false_iff_not] at hz
      have hy0 : ¬ Int32.ofInt y = 0 := fun q => hz.2 ((nb_eq32 (y := 0) hy (by decide)).mp q)
      exact row ls H locs _ x y hy0 (hk _ _ _ _ h1 ls H locs hL (List.forall_mem_cons.mpr ⟨hok x y, hS⟩) hH hl)
    · cases h1
end NBI
