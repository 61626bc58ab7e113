/-! SOUNDNESS of every instruction of a straight stretch -/
def nb_finB (own n : Nat) (ini : Bool) : Bool := match nb_P.1 own n with
  | some f => (match vwCl[f.1]? with
    | some q => !(q.2.1 f.2.1).2.2.2 || (ini && decide ((q.2.1 f.2.1).1 = nb_onm own))
    | none => false)
  | none => true
/-- where an array of arrays is made -/
def nb_mnB (own n : Nat) : Bool := (own == 1 && n == 21) || ((own == 3 && n == 15) || (own == 8 && n == 63))
def nb_iokB (own : Nat) (ini : Bool) (i : Instr) (len : Nat) : Bool := match i with
  | .iconst n => len == 1 && (decide (-1 ≤ n) && decide (n ≤ 5))
  | .bipush n => len == 2 && (decide (-128 ≤ n) && decide (n < 128))
  | .sipush n => len == 3 && (decide (-32768 ≤ n) && decide (n < 32768))
  | .ldc _ => len == 2
  | .ldc_w _ => len == 3
  | .ldc2_w _ => len == 3
  | .iload _ => len == 2
  | .lload _ => len == 2
  | .aload _ => len == 2
  | .istore _ => len == 2
  | .lstore _ => len == 2
  | .astore _ => len == 2
  | .iinc _ _ => len == 3
  | .getfield _ => len == 3
  | .putfield n => len == 3 && nb_finB own n ini
  | .new _ => len == 3
  | .newarray _ => len == 2
  | .anewarray _ => len == 3
  | .multianewarray n _ => len == 4 && nb_mnB own n
  | _ => len == 1
def nb_COK (own n : Nat) (v : nb_V) : Prop := (v.1 = 0 → Cond.constant (nb_onm own) n (Int32.ofInt v.2) ∈ nb_Ts ∧ -2147483648 ≤ v.2 ∧ v.2 < 2147483648) ∧ (v.1 = 1 → Cond.constantLong (nb_onm own) n (Int64.ofInt v.2) ∈ nb_Ts ∧ -9223372036854775808 ≤ v.2 ∧ v.2 < 9223372036854775808)
def nb_AOK (own n : Nat) (q : Nat × Nat) : Prop := nb_over q.1 ≤ 6 → ∃ C, nb_aty (nb_over q.1) = .object C ∧ Cond.classLink (nb_onm own) n C ∈ nb_Ts ∧ Cond.arrayOver (.object C) ∈ lw_tbl
theorem nb_val_ref2 (E : nb_E) {t : Nat} (ht : 2 ≤ t) (w : Int) : nb_val E (t, w) = .null ∨ ∃ a, nb_val E (t, w) = .ref a := by
  match t, ht with
  | 2, _ => exact Or.inr ⟨_, rfl⟩
  | t + 3, _ => exact nb_val_ref' E (by omega) w
theorem nb_i8 {n : Int} (h1 : -128 ≤ n) (h2 : n < 128) : (Int8.ofInt n).toInt32 = Int32.ofInt n := by
  apply Int32.toInt_inj.mp
  rw [Int8.toInt_toInt32, Int8.toInt_ofInt_of_le (by omega) (by omega), nb_i32 (by omega)]
theorem nb_i16 {n : Int} (h1 : -32768 ≤ n) (h2 : n < 32768) : (Int16.ofInt n).toInt32 = Int32.ofInt n := by
  apply Int32.toInt_inj.mp
  rw [Int16.toInt_toInt32, Int16.toInt_ofInt_of_le (by omega) (by omega), nb_i32 (by omega)]
theorem nb_lcmp_val {x y : Int} (hx : -9223372036854775808 ≤ x ∧ x < 9223372036854775808) (hy : -9223372036854775808 ≤ y ∧ y < 9223372036854775808) : lg_cmp (Int64.ofInt x) (Int64.ofInt y) = Int32.ofInt (nb_lcmp x y) := by
  unfold lg_cmp nb_lcmp
  simp only [gt_iff_lt, Int64.lt_iff_toInt_lt, ← Int64.toInt_inj, nb_i64 hx, nb_i64 hy]
  by_cases h1 : y < x
  · rw [if_pos h1, if_neg (by omega), if_neg (by omega)]
    rfl
  · rw [if_neg h1]
    by_cases h2 : x = y
    · rw [if_pos h2, if_neg (by omega), if_pos h2]
      rfl
    · rw [if_neg h2, if_pos (by omega)]
      rfl
theorem nb_lcmp_ok {M : nb_M} (x y : Int) : nb_ok M (0, nb_lcmp x y) := by
  have h : nb_lcmp x y = -1 ∨ nb_lcmp x y = 0 ∨ nb_lcmp x y = 1 := by
    unfold nb_lcmp
    by_cases h1 : x < y
    · exact Or.inl (if_pos h1)
    · rw [if_neg h1]
      by_cases h2 : x = y
      · exact Or.inr (Or.inl (if_pos h2))
      · exact Or.inr (Or.inr (if_neg h2))
  show -2147483648 ≤ nb_lcmp x y ∧ nb_lcmp x y < 2147483648
  omega
section NBD
variable {p : Program} {l : Launch} {e : Env} {R : Room} {s : State} {m : MethodId} {args : Array Value} {below : List Frame} {meth : Method} {c : Code} {Q : State → Prop} {cc : ByteArray} {E : nb_E} {z0 z1 own pc : Nat} {L st : List nb_V} {M : nb_M} {k : nb_K} {b : Bool} {r : List nb_V × nb_M}
theorem nb_w_ldcS (hx : p.tables.exec = Jvm.exec) (hb : c.code = cc) {own tx : String} {index q : Nat} {H : Heap} {locs : List Loc} {cells slots : Nat} {ls : Array Slot} {rest : List Value} (hown : s.vm.findClass own = some m.cls) (hZ : vk_R own index tx q s) (hdg : decode cc pc = .ok (.ldc_w index, 3))
    (k : W p l e R s m args below meth c H locs cells slots Q (F0 m (pc + 3) ls (.ref q :: rest))) : W p l e R s m args below meth c H locs cells slots Q (F0 m pc ls rest) := by
  intro T hT X
  obtain ⟨t, a1, b1⟩ := k T hT X
  exact ⟨t, X.ldcStringW hx hown (text := tx) (a := q) hZ.1 hZ.2 (g := F0 m pc ls rest) rfl (by rw [hb]; exact hdg) t a1, b1⟩
theorem nb_s_ldc {n d : Nat} (hSt : nb_S E s) (hC : ∀ v, nb_P.2.1 own n = some v → nb_COK own n v)
    (rowI : ∀ (ls : Array Slot) (H : Heap) (locs : List Loc) (rest : List Value) (v : Int32), Cond.constant (nb_onm own) n v ∈ nb_Ts → W p l e R s m args below meth c H locs (nb_cz M - z0) (nb_sz M - z1) Q (F0 m (pc + d) ls (.int v :: rest)) → W p l e R s m args below meth c H locs (nb_cz M - z0) (nb_sz M - z1) Q (F0 m pc ls rest))
    (rowS : ∀ (ls : Array Slot) (H : Heap) (locs : List Loc) (rest : List Value) (tx : String) (q : Nat), vk_R (nb_onm own) n tx q s → W p l e R s m args below meth c H locs (nb_cz M - z0) (nb_sz M - z1) Q (F0 m (pc + d) ls (.ref q :: rest)) → W p l e R s m args below meth c H locs (nb_cz M - z0) (nb_sz M - z1) Q (F0 m pc ls rest))
    (h : nb_ldc (nb_P.2.1 own n) b L st M k = some r) (hk : ∀ b' L' st' M', k b' L' st' M' = some r → nb_Go p l e R s m args below meth c Q E z0 z1 (pc + d) L' st' M') : nb_Go p l e R s m args below meth c Q E z0 z1 pc L st M := by
  unfold nb_ldc at h
  cases hv : nb_P.2.1 own n with
  | none => rw [hv] at h; cases h
  | some v =>
    obtain ⟨t, w⟩ := v
    rw [hv] at h
    dsimp only at h
    split at h
    · rename_i hc
      rcases hc with hc | hc
      · subst hc
        obtain ⟨g1, g2⟩ := (hC _ hv).1 rfl
        exact nb_s_push (v := (0, w)) g2 (fun ls H locs rest kk => rowI ls H locs rest _ g1 kk) (hk _ _ _ _ h)
      · subst hc
        obtain ⟨tx, g⟩ := hSt.2.2.2.2.1.1 own n w hv
        exact nb_s_push (v := (2, w)) trivial (fun ls H locs rest kk => rowS ls H locs rest tx _ g kk) (hk _ _ _ _ h)
    · cases h
/-- the row of 'new int[n][m]' -/
def nb_MNA (p : Program) (l : Launch) (e : Env) (R : Room) (s : State) (m : MethodId) (args : Array Value) (below : List Frame) (meth : Method) (c : Code) (Q : State → Prop) (cc : ByteArray) (E : nb_E) (z0 z1 own : Nat) (r : List nb_V × nb_M) : Prop :=
  ∀ (pc n : Nat) (L st : List nb_V) (M : nb_M) (k : nb_K) (b : Bool), nb_mnB own n = true → decode cc pc = .ok (.multianewarray n 2, 4) → z0 ≤ nb_cz M ∧ z1 ≤ nb_sz M → nb_newm b L st M k = some r → (∀ b' L' st' M', k b' L' st' M' = some r → b' = true) → (∀ b' L' st' M', k b' L' st' M' = some r → nb_cz M' ≤ nb_cz r.2 ∧ nb_sz M' ≤ nb_sz r.2) → (∀ b' L' st' M', k b' L' st' M' = some r → nb_Go p l e R s m args below meth c Q E z0 z1 (pc + 4) L' st' M') → nb_Go p l e R s m args below meth c Q E z0 z1 pc L st M
set_option maxHeartbeats 4000000 in
theorem nb_sx_sound {i : Instr} {len : Nat} {ini : Bool} (hx : p.tables.exec = Jvm.exec) (hb : c.code = cc) (hown : s.vm.findClass (nb_onm own) = some m.cls) (hSt : nb_S E s) (hini : ini = true → meth.name = "<init>")
    (hF : ∀ n f, nb_P.1 own n = some f → nb_FOK own n f) (hC : ∀ n v, nb_P.2.1 own n = some v → nb_COK own n v) (hN : ∀ n q, nb_P.2.2.1 own n = some q → nb_NOK own n q ∧ nb_AOK own n q) (hA : ∀ kd, kd < 4 → Cond.arrayClass (nb_aty kd) ∈ nb_Ts) (hMN : nb_MNA p l e R s m args below meth c Q cc E z0 z1 own r)
    (hd : decode cc pc = .ok (i, len)) (hi : nb_iokB own ini i len = true) (hR : nb_cz r.2 - z0 ≤ R.cells ∧ nb_sz r.2 - z1 ≤ R.slots) (hz : z0 ≤ nb_cz M ∧ z1 ≤ nb_sz M)
    (h : nb_sx nb_P own i b L st M k = some r) (hkb : ∀ b' L' st' M', k b' L' st' M' = some r → b' = true) (hkz : ∀ b' L' st' M', k b' L' st' M' = some r → nb_cz M' ≤ nb_cz r.2 ∧ nb_sz M' ≤ nb_sz r.2) (hk : ∀ b' L' st' M', k b' L' st' M' = some r → nb_Go p l e R s m args below meth c Q E z0 z1 (pc + len) L' st' M') : nb_Go p l e R s m args below meth c Q E z0 z1 pc L st M := by
  have hal : ∀ (ls : Array Slot) (rest : List Value) (v : nb_V) (d : Nat) (H : Heap) (locs : List Loc) (cells slots : Nat), (∀ a : Nat, nb_val E v = .ref a → W p l e R s m args below meth c H locs cells slots Q (F0 m pc ls rest)) → (nb_val E v = .null → W p l e R s m args below meth c H locs cells slots Q (F0 m pc ls rest)) → 2 ≤ v.1 → W p l e R s m args below meth c H locs cells slots Q (F0 m pc ls rest) := by
    intro ls rest v d H locs cells slots h1 h2 hv
    rcases nb_val_ref2 E hv v.2 with q | ⟨a, q⟩
    · exact h2 q
    · exact h1 a q
  cases i
  case iconst n =>
    simp only [nb_iokB, Bool.and_eq_true, beq_iff_eq, decide_eq_true_eq] at hi
    obtain ⟨rfl, h1, h2⟩ := hi
    exact nb_s_push (v := (0, n)) ⟨by omega, by omega⟩ (fun ls H locs rest kk => lv_iconst hx hb hd rfl kk) (hk _ _ _ _ h)
  case bipush n =>
    simp only [nb_iokB, Bool.and_eq_true, beq_iff_eq, decide_eq_true_eq] at hi
    obtain ⟨rfl, h1, h2⟩ := hi
    exact nb_s_push (v := (0, n)) ⟨by omega, by omega⟩ (fun ls H locs rest kk => lv_bipush hx hb hd (nb_i8 h1 h2) kk) (hk _ _ _ _ h)
  case sipush n =>
    simp only [nb_iokB, Bool.and_eq_true, beq_iff_eq, decide_eq_true_eq] at hi
    obtain ⟨rfl, h1, h2⟩ := hi
    exact nb_s_push (v := (0, n)) ⟨by omega, by omega⟩ (fun ls H locs rest kk => lv_sipush hx hb hd (nb_i16 h1 h2) kk) (hk _ _ _ _ h)
  case lconst n =>
    obtain rfl : len = 1 := by simpa [nb_iokB] using hi
    exact nb_s_push (v := (1, ((n : Nat) : Int))) ⟨by have := n.2; omega, by have := n.2; omega⟩ (fun ls H locs rest kk => lv_lconst hx hb hd rfl kk) (hk _ _ _ _ h)
  case ldc n =>
    obtain rfl : len = 2 := by simpa [nb_iokB] using hi
    exact nb_s_ldc hSt (hC n) (fun ls H locs rest v g kk => lv_ldc hx hb hown (hSt.1.use _ g) hd kk) (fun ls H locs rest tx q g kk => va_ldcS hx hb hown g hd kk) h hk
  case ldc_w n =>
    obtain rfl : len = 3 := by simpa [nb_iokB] using hi
    exact nb_s_ldc hSt (hC n) (fun ls H locs rest v g kk => lv_ldcw hx hb hown (hSt.1.use _ g) hd kk) (fun ls H locs rest tx q g kk => nb_w_ldcS hx hb hown g hd kk) h hk
  case ldc2_w n =>
    obtain rfl : len = 3 := by simpa [nb_iokB] using hi
    have h' : nb_cst 1 (nb_P.2.1 own n) b L st M k = some r := h
    unfold nb_cst at h'
    cases hv : nb_P.2.1 own n with
    | none => rw [hv] at h'; cases h'
    | some v =>
      obtain ⟨t, w⟩ := v
      rw [hv] at h'
      dsimp only at h'
      split at h'
      · rename_i hc
        subst hc
        obtain ⟨g1, g2⟩ := (hC n _ hv).2 rfl
        exact nb_s_push (v := (1, w)) g2 (fun ls H locs rest kk => lv_ldc2 hx hb hown (hSt.1.use _ g1) hd kk) (hk _ _ _ _ h')
      · cases h'
  case iload n =>
    obtain rfl : len = 2 := by simpa [nb_iokB] using hi
    exact nb_s_load (fun ls H locs rest v h1 h2 hv kk => by
      obtain ⟨t, w⟩ := v
      obtain rfl : t = 0 := by dsimp only at h2; omega
      exact lv_iload hx hb hd hv kk) (by decide) h hk
  case iload_n n =>
    obtain rfl : len = 1 := by simpa [nb_iokB] using hi
    exact nb_s_load (fun ls H locs rest v h1 h2 hv kk => by
      obtain ⟨t, w⟩ := v
      obtain rfl : t = 0 := by dsimp only at h2; omega
      exact lv_iload_n hx hb hd rfl hv kk) (by decide) h hk
  case lload n =>
    obtain rfl : len = 2 := by simpa [nb_iokB] using hi
    exact nb_s_load (fun ls H locs rest v h1 h2 hv kk => by
      obtain ⟨t, w⟩ := v
      obtain rfl : t = 1 := by dsimp only at h1 h2; omega
      exact lv_lload hx hb hd hv kk) (by decide) h hk
  case lload_n n =>
    obtain rfl : len = 1 := by simpa [nb_iokB] using hi
    exact nb_s_load (fun ls H locs rest v h1 h2 hv kk => by
      obtain ⟨t, w⟩ := v
      obtain rfl : t = 1 := by dsimp only at h1 h2; omega
      exact lv_lload_n hx hb hd rfl hv kk) (by decide) h hk
  case aload n =>
    obtain rfl : len = 2 := by simpa [nb_iokB] using hi
    exact nb_s_load (fun ls H locs rest v h1 h2 hv kk => hal ls rest v 2 H locs _ _ (fun a q => by rw [q] at hv kk; exact lv_aload hx hb hd hv kk) (fun q => by rw [q] at hv kk; exact lv_aloadN hx hb hd hv kk) h1) (by decide) h hk
  case aload_n n =>
    obtain rfl : len = 1 := by simpa [nb_iokB] using hi
    exact nb_s_load (fun ls H locs rest v h1 h2 hv kk => hal ls rest v 1 H locs _ _ (fun a q => by rw [q] at hv kk; exact lv_aload_n hx hb hd rfl hv kk) (fun q => by rw [q] at hv kk; exact lv_aload_nN hx hb hd rfl hv kk) h1) (by decide) h hk
  case istore n =>
    obtain rfl : len = 2 := by simpa [nb_iokB] using hi
    exact nb_s_store (fun ls H locs rest v h1 h2 h3 hL hn kk => by
      obtain ⟨t, w⟩ := v
      obtain rfl : t = 0 := by dsimp only at h2; omega
      exact lv_istore hx hb hd hL hn rfl kk) h hk
  case istore_n n =>
    obtain rfl : len = 1 := by simpa [nb_iokB] using hi
    exact nb_s_store (fun ls H locs rest v h1 h2 h3 hL hn kk => by
      obtain ⟨t, w⟩ := v
      obtain rfl : t = 0 := by dsimp only at h2; omega
      exact lv_istore_n hx hb hd rfl hL hn rfl kk) h hk
  case lstore n =>
    obtain rfl : len = 2 := by simpa [nb_iokB] using hi
    exact nb_s_lstore (fun ls H locs rest w hL hn kk => lv_lstore hx hb hd hL hn rfl kk) h hk
  case lstore_n n =>
    obtain rfl : len = 1 := by simpa [nb_iokB] using hi
    exact nb_s_lstore (fun ls H locs rest w hL hn kk => lv_lstore_n hx hb hd rfl hL hn rfl kk) h hk
  case astore n =>
    obtain rfl : len = 2 := by simpa [nb_iokB] using hi
    exact nb_s_store (fun ls H locs rest v h1 h2 h3 hL hn kk => by
      rcases nb_val_ref2 E h1 v.2 with q | ⟨a, q⟩
      · rw [show nb_val E v = _ from q] at kk ⊢
        exact lv_astoreN hx hb hd hL hn rfl kk
      · rw [show nb_val E v = _ from q] at kk ⊢
        exact lv_astore hx hb hd hL hn rfl kk) h hk
  case astore_n n =>
    obtain rfl : len = 1 := by simpa [nb_iokB] using hi
    exact nb_s_store (fun ls H locs rest v h1 h2 h3 hL hn kk => by
      rcases nb_val_ref2 E h1 v.2 with q | ⟨a, q⟩
      · rw [show nb_val E v = _ from q] at kk ⊢
        exact lv_astore_nN hx hb hd rfl hL hn rfl kk
      · rw [show nb_val E v = _ from q] at kk ⊢
        exact lv_astore_n hx hb hd rfl hL hn rfl kk) h hk
  case iinc n d =>
    obtain rfl : len = 3 := by simpa [nb_iokB] using hi
    exact nb_s_iinc hx hb hd h hk
  case iadd =>
    obtain rfl : len = 1 := by simpa [nb_iokB] using hi
    exact nb_s_bin (tx := 0) (ty := 0) (r0 := 0) (f := nb_add) (fun ls H locs rest x y _ _ kk => lv_iadd hx hb hd (by rw [show nb_val E (0, nb_add x y) = _ from nb_val_i E _] at kk; exact kk)) (fun x y => nb_ok_i M _) h hk
  case isub =>
    obtain rfl : len = 1 := by simpa [nb_iokB] using hi
    exact nb_s_bin (tx := 0) (ty := 0) (r0 := 0) (f := nb_sub) (fun ls H locs rest x y _ _ kk => lv_isub hx hb hd (by rw [show nb_val E (0, nb_sub x y) = _ from nb_val_i E _] at kk; exact kk)) (fun x y => nb_ok_i M _) h hk
  case imul =>
    obtain rfl : len = 1 := by simpa [nb_iokB] using hi
    exact nb_s_bin (tx := 0) (ty := 0) (r0 := 0) (f := nb_mul) (fun ls H locs rest x y _ _ kk => lv_imul hx hb hd (by rw [show nb_val E (0, nb_mul x y) = _ from nb_val_i E _] at kk; exact kk)) (fun x y => nb_ok_i M _) h hk
  case iand =>
    obtain rfl : len = 1 := by simpa [nb_iokB] using hi
    exact nb_s_bin (tx := 0) (ty := 0) (r0 := 0) (f := nb_and) (fun ls H locs rest x y _ _ kk => lv_iand hx hb hd (by rw [show nb_val E (0, nb_and x y) = _ from nb_val_i E _] at kk; exact kk)) (fun x y => nb_ok_i M _) h hk
  case ior =>
    obtain rfl : len = 1 := by simpa [nb_iokB] using hi
    exact nb_s_bin (tx := 0) (ty := 0) (r0 := 0) (f := nb_or) (fun ls H locs rest x y _ _ kk => lv_ior hx hb hd (by rw [show nb_val E (0, nb_or x y) = _ from nb_val_i E _] at kk; exact kk)) (fun x y => nb_ok_i M _) h hk
  case ixor =>
    obtain rfl : len = 1 := by simpa [nb_iokB] using hi
    exact nb_s_bin (tx := 0) (ty := 0) (r0 := 0) (f := nb_xor) (fun ls H locs rest x y _ _ kk => lv_ixor hx hb hd (by rw [show nb_val E (0, nb_xor x y) = _ from nb_val_i E _] at kk; exact kk)) (fun x y => nb_ok_i M _) h hk
  case ishl =>
    obtain rfl : len = 1 := by simpa [nb_iokB] using hi
    exact nb_s_bin (tx := 0) (ty := 0) (r0 := 0) (f := nb_shl) (fun ls H locs rest x y _ _ kk => lv_ishl hx hb hd (by rw [show nb_val E (0, nb_shl x y) = _ from nb_val_i E _] at kk; exact kk)) (fun x y => nb_ok_i M _) h hk
  case ishr =>
    obtain rfl : len = 1 := by simpa [nb_iokB] using hi
    exact nb_s_bin (tx := 0) (ty := 0) (r0 := 0) (f := nb_shr) (fun ls H locs rest x y _ _ kk => lv_ishr hx hb hd (by rw [show nb_val E (0, nb_shr x y) = _ from nb_val_i E _] at kk; exact kk)) (fun x y => nb_ok_i M _) h hk
  case iushr =>
    obtain rfl : len = 1 := by simpa [nb_iokB] using hi
    exact nb_s_bin (tx := 0) (ty := 0) (r0 := 0) (f := nb_ushr) (fun ls H locs rest x y _ _ kk => lv_iushr hx hb hd rfl (by rw [show nb_val E (0, nb_ushr x y) = _ from nb_val_i E _] at kk; exact kk)) (fun x y => nb_ok_i M _) h hk
  case ineg =>
    obtain rfl : len = 1 := by simpa [nb_iokB] using hi
    exact nb_s_un (t := 0) (r0 := 0) (f := nb_neg) (fun ls H locs rest x _ kk => lv_ineg hx hb hd (by rw [show nb_val E (0, nb_neg x) = _ from nb_val_i E _] at kk; exact kk)) (fun x => nb_ok_i M _) h hk
  case i2b =>
    obtain rfl : len = 1 := by simpa [nb_iokB] using hi
    exact nb_s_un (t := 0) (r0 := 0) (f := nb_i2b) (fun ls H locs rest x _ kk => lv_i2b hx hb hd rfl (by rw [show nb_val E (0, nb_i2b x) = _ from nb_val_i E _] at kk; exact kk)) (fun x => nb_ok_i M _) h hk
  case i2l =>
    obtain rfl : len = 1 := by simpa [nb_iokB] using hi
    exact nb_s_un (t := 0) (r0 := 1) (f := nb_i2l) (fun ls H locs rest x _ kk => lv_i2l hx hb hd rfl (by rw [show nb_val E (1, nb_i2l x) = _ from nb_val_l E _] at kk; exact kk)) (fun x => nb_ok_l M _) h hk
  case l2i =>
    obtain rfl : len = 1 := by simpa [nb_iokB] using hi
    exact nb_s_un (t := 1) (r0 := 0) (f := nb_l2i) (fun ls H locs rest x _ kk => lv_l2i hx hb hd rfl (by rw [show nb_val E (0, nb_l2i x) = _ from nb_val_i E _] at kk; exact kk)) (fun x => nb_ok_i M _) h hk
  case ladd =>
    obtain rfl : len = 1 := by simpa [nb_iokB] using hi
    exact nb_s_bin (tx := 1) (ty := 1) (r0 := 1) (f := nb_ladd) (fun ls H locs rest x y _ _ kk => lv_ladd hx hb hd (by rw [show nb_val E (1, nb_ladd x y) = _ from nb_val_l E _] at kk; exact kk)) (fun x y => nb_ok_l M _) h hk
  case lsub =>
    obtain rfl : len = 1 := by simpa [nb_iokB] using hi
    exact nb_s_bin (tx := 1) (ty := 1) (r0 := 1) (f := nb_lsub) (fun ls H locs rest x y _ _ kk => lv_lsub hx hb hd (by rw [show nb_val E (1, nb_lsub x y) = _ from nb_val_l E _] at kk; exact kk)) (fun x y => nb_ok_l M _) h hk
  case lmul =>
    obtain rfl : len = 1 := by simpa [nb_iokB] using hi
    exact nb_s_bin (tx := 1) (ty := 1) (r0 := 1) (f := nb_lmul) (fun ls H locs rest x y _ _ kk => lv_lmul hx hb hd (by rw [show nb_val E (1, nb_lmul x y) = _ from nb_val_l E _] at kk; exact kk)) (fun x y => nb_ok_l M _) h hk
  case lor =>
    obtain rfl : len = 1 := by simpa [nb_iokB] using hi
    exact nb_s_bin (tx := 1) (ty := 1) (r0 := 1) (f := nb_lor) (fun ls H locs rest x y _ _ kk => lv_lor hx hb hd (by rw [show nb_val E (1, nb_lor x y) = _ from nb_val_l E _] at kk; exact kk)) (fun x y => nb_ok_l M _) h hk
  case lshl =>
    obtain rfl : len = 1 := by simpa [nb_iokB] using hi
    exact nb_s_bin (tx := 1) (ty := 0) (r0 := 1) (f := nb_lshl) (fun ls H locs rest x y _ _ kk => lv_lshl hx hb hd rfl (by rw [show nb_val E (1, nb_lshl x y) = _ from nb_val_l E _] at kk; exact kk)) (fun x y => nb_ok_l M _) h hk
  case lcmp =>
    obtain rfl : len = 1 := by simpa [nb_iokB] using hi
    exact nb_s_bin (tx := 1) (ty := 1) (r0 := 0) (f := nb_lcmp) (fun ls H locs rest x y ox oy kk => W.lcmp hx hb hd (by rw [nb_lcmp_val ox oy]; exact kk)) (fun x y => nb_lcmp_ok x y) h hk
  case idiv =>
    obtain rfl : len = 1 := by simpa [nb_iokB] using hi
    exact nb_s_binz (f := nb_div) (fun ls H locs rest x y hy kk => lv_idiv hx hb hd hy (by rw [show nb_val E (0, nb_div x y) = _ from nb_val_i E _] at kk; exact kk)) (fun x y => nb_ok_i M _) h hkb hk
  case irem =>
    obtain rfl : len = 1 := by simpa [nb_iokB] using hi
    exact nb_s_binz (f := nb_rem) (fun ls H locs rest x y hy kk => lv_irem hx hb hd hy (by rw [show nb_val E (0, nb_rem x y) = _ from nb_val_i E _] at kk; exact kk)) (fun x y => nb_ok_i M _) h hkb hk
  case dup =>
    obtain rfl : len = 1 := by simpa [nb_iokB] using hi
    have h' : nb_dup b L st M k = some r := h
    unfold nb_dup at h'
    match st, h' with
    | [], h1 => cases h1
    | v :: st, h1 =>
      dsimp only at h1
      split at h1
      · rename_i hc
        intro ls H locs hL hS0 hH hl
        exact lv_dup hx hb hd (by rw [nb_val_cat, if_neg hc]) (hk _ _ _ _ h1 ls H locs hL (List.forall_mem_cons.mpr ⟨hS0 v List.mem_cons_self, hS0⟩) hH hl)
      · cases h1
  case dup2 =>
    obtain rfl : len = 1 := by simpa [nb_iokB] using hi
    have h' : nb_dup2 b L st M k = some r := h
    unfold nb_dup2 at h'
    match st, h' with
    | [], h1 => cases h1
    | [_], h1 => cases h1
    | v :: w :: st, h1 =>
      dsimp only at h1
      split at h1
      · rename_i hc
        intro ls H locs hL hS0 hH hl
        exact lv_dup2_11 hx hb hd (by rw [nb_val_cat, if_neg hc.1]) (by rw [nb_val_cat, if_neg hc.2]) (hk _ _ _ _ h1 ls H locs hL (List.forall_mem_cons.mpr ⟨hS0 v List.mem_cons_self, List.forall_mem_cons.mpr ⟨hS0 w (List.mem_cons_of_mem _ List.mem_cons_self), hS0⟩⟩) hH hl)
      · cases h1
  case pop =>
    obtain rfl : len = 1 := by simpa [nb_iokB] using hi
    have h' : nb_pop b L st M k = some r := h
    unfold nb_pop at h'
    match st, h' with
    | [], h1 => cases h1
    | v :: st, h1 =>
      dsimp only at h1
      split at h1
      · rename_i hc
        intro ls H locs hL hS0 hH hl
        exact lv_pop hx hb hd (by rw [nb_val_cat, if_neg hc]) (hk _ _ _ _ h1 ls H locs hL (fun u hu => hS0 u (List.mem_cons_of_mem _ hu)) hH hl)
      · cases h1
  case iaload =>
    obtain rfl : len = 1 := by simpa [nb_iokB] using hi
    exact nb_s_ald hSt (by decide) (fun i => rfl) (fun ls H locs rest a cell j v h1 h2 h3 h4 h5 kk => W.iald hx hb h1 h2 h3 h4 h5 rfl rfl hd kk) h hkb hk
  case laload =>
    obtain rfl : len = 1 := by simpa [nb_iokB] using hi
    exact nb_s_ald hSt (by decide) (fun i => rfl) (fun ls H locs rest a cell j v h1 h2 h3 h4 h5 kk => W.lald hx hb h1 h2 h3 h4 h5 rfl rfl hd kk) h hkb hk
  case baload =>
    obtain rfl : len = 1 := by simpa [nb_iokB] using hi
    have h' : nb_bald b L st M k = some r := h
    unfold nb_bald at h'
    split at h'
    · split at h'
      · exact nb_s_ald (kd := 1) hSt (by decide) (fun i => rfl) (fun ls H locs rest a cell j v h1 h2 h3 h4 h5 kk => W.bald hx hb h1 h2 h3 h4 h5 rfl rfl hd kk) h' hkb hk
      · exact nb_s_ald (kd := 3) hSt (by decide) (fun i => rfl) (fun ls H locs rest a cell j v h1 h2 h3 h4 h5 kk => W.zald hx hb h1 h2 h3 h4 h5 rfl rfl hd kk) h' hkb hk
    · cases h'
  case aaload =>
    obtain rfl : len = 1 := by simpa [nb_iokB] using hi
    have h' : nb_aald b L st M k = some r := h
    unfold nb_aald at h'
    split at h'
    · rename_i u a w
      split at h'
      · rename_i hc
        have hcase : a.1 - 3 = 4 ∨ a.1 - 3 = 5 ∨ a.1 - 3 = 6 ∨ a.1 - 3 = 7 := by omega
        exact nb_s_ald hSt (by omega) (fun i => by rcases hcase with q | q | q | q <;> rw [q] <;> rfl) (fun ls H locs rest a' cell j v h1 h2 h3 h4 h5 kk => W.aald hx hb h1 h2 (by rcases hcase with q | q | q | q <;> rw [q] <;> rfl) h3 h4 h5 rfl rfl hd kk) h' hkb hk
      · cases h'
    · cases h'
  case iastore =>
    obtain rfl : len = 1 := by simpa [nb_iokB] using hi
    exact nb_s_ast (kd := 0) (t0 := 0) (f := fun x => x) hSt (by decide) (fun i => rfl) (fun w q => q) (fun ls H locs rest a cell j w _ _ _ _ h1 h2 h3 h4 h5 kk => W.iast hx hb h1 h4 (by rw [h2]; exact fun q => by cases q) h5 rfl rfl hd kk) h hkb hk
  case lastore =>
    obtain rfl : len = 1 := by simpa [nb_iokB] using hi
    exact nb_s_ast (kd := 2) (t0 := 1) (f := fun x => x) hSt (by decide) (fun i => rfl) (fun w q => q) (fun ls H locs rest a cell j w _ _ _ _ h1 h2 h3 h4 h5 kk => W.last hx hb h1 h4 (by rw [h2]; exact fun q => by cases q) h5 rfl rfl hd kk) h hkb hk
  case bastore =>
    obtain rfl : len = 1 := by simpa [nb_iokB] using hi
    have h' : nb_bast b L st M k = some r := h
    unfold nb_bast at h'
    split at h'
    · split at h'
      · exact nb_s_ast (kd := 1) (t0 := 0) (f := nb_i2b) hSt (by decide) (fun i => rfl) (fun w q => nb_ok_i M _) (fun ls H locs rest a cell j w _ _ _ _ h1 h2 h3 h4 h5 kk => W.bast hx hb h1 h4 (by rw [h2]; exact fun q => by cases q) h5 rfl rfl hd (fun H' e1 e2 e3 => kk H' (by rw [show nb_val E (0, nb_i2b w) = _ from nb_val_i E _]; exact e1) e2 e3)) h' hkb hk
      · exact nb_s_ast (kd := 3) (t0 := 0) (f := nb_i2z) hSt (by decide) (fun i => rfl) (fun w q => nb_ok_i M _) (fun ls H locs rest a cell j w _ _ _ _ h1 h2 h3 h4 h5 kk => W.zast hx hb h1 h4 (by rw [h2]; exact fun q => by cases q) h5 rfl rfl hd (fun H' e1 e2 e3 => kk H' (by rw [show nb_val E (0, nb_i2z w) = _ from nb_val_i E _]; exact e1) e2 e3)) h' hkb hk
    · cases h'
  case aastore =>
    obtain rfl : len = 1 := by simpa [nb_iokB] using hi
    have h' : nb_aast b L st M k = some r := h
    unfold nb_aast at h'
    split at h'
    · rename_i v u a w
      split at h'
      · rename_i hc
        have hcase : a.1 - 3 = 4 ∨ a.1 - 3 = 5 ∨ a.1 - 3 = 6 := by omega
        have hk8 : a.1 - 3 < 8 := by omega
        refine nb_s_ast hSt hk8 (fun i => by rcases hcase with q | q | q <;> rw [q] <;> rfl) (fun w q => q) (fun ls H locs rest a' cell j w hbt hhd hH hw h1 h2 h3 h4 h5 kk => ?_) h' hkb hk
        have hw0 : w ≠ 0 := by
          have e1 : v = (3 + nb_comp (a.1 - 3), w) := Option.some.inj hhd
          simp only [Bool.and_eq_true, Bool.not_eq_true', decide_eq_false_iff_not] at hbt
          rw [e1] at hbt
          exact hbt.2
        have hw' : nb_ok M (nb_comp (a.1 - 3) + 3, w) := by
          rw [Nat.add_comm]
          exact hw
        have hcg : 8 ≤ nb_comp (a.1 - 3) := by rcases hcase with q | q | q <;> rw [q] <;> decide
        have hw1 : w ≠ 1 := by
          intro q
          rcases hw' with y | ⟨-, n', y⟩
          · exact hw0 y
          · obtain ⟨-, n2, scr, g2, -⟩ := hH.2.2.2.2.2
            have y' : M.2.1[w.toNat]? = some (nb_comp (a.1 - 3), n') := y
            rw [q, show ((1 : Int).toNat) = 1 from rfl, g2] at y'
            have := congrArg Prod.fst (Option.some.inj y')
            dsimp only at this
            omega
        obtain ⟨A, n', rfl, hA', hsh, -, -, ⟨cv, q1, q2, q3, -⟩, -⟩ := nb_cell_of hH hw' hw0 hw1
        obtain ⟨kA, comp, kc, g1, g2, g3, g4, g5⟩ := hSt.2.2.1 _ hk8
        have g5 := g5 (by omega)
        have g3 := g3 (by omega)
        have hval : nb_val E (3 + nb_comp (a.1 - 3), (A : Int)) = .ref (nb_ad E (A : Int)) := nb_val_ref E (by omega) hw0
        rw [hval] at kk ⊢
        refine W.aast hx hb h1 (fun q => by rw [h2]; exact fun y => by cases y) (by rw [h2]; exact fun y => by cases y) (k := kA) (kv := kc) (kcomp := kc) (comp := comp) (t := nb_aty (a.1 - 3)) (by rw [h3]; exact g1) g2 (by rcases hcase with q | q | q <;> rw [q] <;> rfl) g3 ?_ q1 (fun q => by rw [q2]; exact fun y => by cases y) (by rw [q3, ← g5]; exact g3) (by rw [q3, ← g5]; exact va_asg _ _) rfl rfl hd kk
        refine ⟨fun q => h5 (Or.inl q), ?_⟩
        rcases Nat.lt_or_ge j.toNatClampNeg cell.slots.size with q | q
        · exact q
        · exact absurd (Or.inr q) h5
      · cases h'
    · cases h'
  case arraylength =>
    obtain rfl : len = 1 := by simpa [nb_iokB] using hi
    exact nb_s_alen hx hb hSt hd h hkb hk
  case getfield n =>
    obtain rfl : len = 3 := by simpa [nb_iokB] using hi
    exact nb_s_getf hx hb hown hSt (hF n) hd h hkb hk
  case putfield n =>
    simp only [nb_iokB, Bool.and_eq_true, beq_iff_eq] at hi
    obtain ⟨rfl, hfb⟩ := hi
    refine nb_s_putf hx hb hown hSt (hF n) (fun f C T N hf hcl hfn => ?_) hd h hkb hk
    unfold nb_finB at hfb
    rw [hf] at hfb
    dsimp only at hfb
    rw [hcl] at hfb
    dsimp only at hfb
    rw [hfn] at hfb
    simp only [Bool.not_true, Bool.false_or, Bool.and_eq_true, decide_eq_true_eq] at hfb
    exact ⟨hini hfb.1, hfb.2⟩
  case new n =>
    obtain rfl : len = 3 := by simpa [nb_iokB] using hi
    exact nb_s_new hx hb hown hSt (fun q hq => (hN n q hq).1) hd hR hz h hkb hkz hk
  case newarray a =>
    obtain rfl : len = 2 := by simpa [nb_iokB] using hi
    cases a
    case int => exact nb_s_newarray (kd := 0) hx hb rfl (hA 0 (by decide)) (by decide) hSt (by decide) (fun i => rfl) hd hR hz h hkb hkz hk
    case byte => exact nb_s_newarray (kd := 1) hx hb rfl (hA 1 (by decide)) (by decide) hSt (by decide) (fun i => rfl) hd hR hz h hkb hkz hk
    case long => exact nb_s_newarray (kd := 2) hx hb rfl (hA 2 (by decide)) (by decide) hSt (by decide) (fun i => rfl) hd hR hz h hkb hkz hk
    case boolean => exact nb_s_newarray (kd := 3) hx hb rfl (hA 3 (by decide)) (by decide) hSt (by decide) (fun i => rfl) hd hR hz h hkb hkz hk
    all_goals exact absurd h (by intro q; cases q)
  case anewarray n =>
    obtain rfl : len = 3 := by simpa [nb_iokB] using hi
    have h' : nb_newr (nb_P.2.2.1 own n) b L st M k = some r := h
    unfold nb_newr at h'
    cases hq : nb_P.2.2.1 own n with
    | none => rw [hq] at h'; cases h'
    | some q =>
      rw [hq] at h'
      dsimp only at h'
      split at h'
      · rename_i hc
        obtain ⟨C, g1, g2, g3⟩ := (hN n q hq).2 hc
        have hcase : nb_over q.1 = 4 ∨ nb_over q.1 = 5 ∨ nb_over q.1 = 6 := by
          unfold nb_over at hc ⊢
          split <;> simp_all
        exact nb_s_anewarray hx hb hown g1 g2 g3 hSt (by omega) (fun i => by rcases hcase with y | y | y <;> rw [y] <;> rfl) hd hR hz h' hkb hkz hk
      · cases h'
  case multianewarray n d =>
    simp only [nb_iokB, Bool.and_eq_true, beq_iff_eq] at hi
    obtain ⟨rfl, hmn⟩ := hi
    match d, h, hd with
    | 0, h, _ => exact absurd h (by intro q; cases q)
    | 1, h, _ => exact absurd h (by intro q; cases q)
    | 2, h, hd => exact hMN pc n L st M k b hmn hd hz h hkb hkz hk
    | d + 3, h, _ => exact absurd h (by intro q; cases q)
  all_goals exact absurd h (by intro q; cases q)
end NBD
