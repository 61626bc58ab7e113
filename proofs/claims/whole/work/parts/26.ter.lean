/-! SOUNDNESS of a block's end, calls apart -/
def nb_atB (i t : Nat) (q : Int) : Bool := match nb_P.2.2.2.1 i t with
  | some B => decide ((B.1 : Int) = q)
  | none => false
def nb_atL (i pc : Nat) : List Nat → List Int → Bool
  | [], [] => true
  | t :: ts, o :: os => nb_atB i t ((pc : Int) + o) && nb_atL i pc ts os
  | _, _ => false
def nb_terB (i : Nat) (cc : ByteArray) (pc : Nat) (last : Instr) (len : Nat) (ts : List Nat) : Bool := match last, ts with
  | .nop, [t] => nb_atB i t (pc : Int)
  | .goto o, [t] => decide (decode cc pc = .ok (.goto o, 3)) && nb_atB i t ((pc : Int) + o)
  | .ifCond q o, [t, f] => decide (decode cc pc = .ok (.ifCond q o, 3)) && (nb_atB i t ((pc : Int) + o) && nb_atB i f ((pc : Int) + 3))
  | .if_icmp q o, [t, f] => decide (decode cc pc = .ok (.if_icmp q o, 3)) && (nb_atB i t ((pc : Int) + o) && nb_atB i f ((pc : Int) + 3))
  | .tableswitch d lo hi offs, t :: ts => decide (decode cc pc = .ok (.tableswitch d lo hi offs, len)) && (nb_atB i t ((pc : Int) + d) && (nb_atL i pc ts offs.toList && decide (hi + 1 = lo + (ts.length : Int))))
  | .lookupswitch d ks, t :: ts => decide (decode cc pc = .ok (.lookupswitch d ks, len)) && (nb_atB i t ((pc : Int) + d) && (nb_atL i pc ts (ks.toList.map (fun q => q.2)) && (ks.toList.zip (ks.toList.drop 1)).all (fun (a, next) => a.1 < next.1)))
  | .ireturn, [] => decide (decode cc pc = .ok (.ireturn, 1))
  | .lreturn, [] => decide (decode cc pc = .ok (.lreturn, 1))
  | .areturn, [] => decide (decode cc pc = .ok (.areturn, 1))
  | .return_, [] => decide (decode cc pc = .ok (.return_, 1))
  | .invokevirtual n, [t] => decide (decode cc pc = .ok (.invokevirtual n, 3)) && nb_atB i t ((pc : Int) + 3)
  | .invokespecial n, [t] => decide (decode cc pc = .ok (.invokespecial n, 3)) && nb_atB i t ((pc : Int) + 3)
  | .invokestatic n, [t] => decide (decode cc pc = .ok (.invokestatic n, 3)) && nb_atB i t ((pc : Int) + 3)
  | _, _ => false
theorem nb_atB_spec {i t : Nat} {q : Int} (h : nb_atB i t q = true) : ∃ B, nb_P.2.2.2.1 i t = some B ∧ (B.1 : Int) = q := by
  unfold nb_atB at h
  split at h
  · rename_i B hB
    exact ⟨B, hB, of_decide_eq_true h⟩
  · cases h
theorem nb_ifs {P : Prop} {_ : Decidable P} {a b : nb_A} {r : List nb_V × nb_M} (h : (if P then a else b) = some r) : (P → a = some r) ∧ (¬ P → b = some r) := by
  split at h
  · rename_i h1
    exact ⟨fun _ => h, fun q => absurd h1 q⟩
  · rename_i h1
    exact ⟨fun q => absurd q h1, fun _ => h⟩
theorem nb_swt_spec {f : Nat → nb_A} {x : Int} {d : Nat} {r : List nb_V × nb_M} : ∀ (ts : List Nat) (lo : Int), nb_swt f x d lo ts = some r → (∃ (j : Nat) (t : Nat), ts[j]? = some t ∧ x = lo + (j : Int) ∧ f t = some r) ∨ ((x < lo ∨ lo + (ts.length : Int) ≤ x) ∧ f d = some r)
  | [], lo, h => Or.inr ⟨by simp; omega, h⟩
  | t :: ts, lo, h => by
    unfold nb_swt at h
    obtain ⟨h1, h2⟩ := nb_ifs h
    by_cases hx : x = lo
    · exact Or.inl ⟨0, t, rfl, by simp [hx], h1 hx⟩
    · rcases nb_swt_spec ts (lo + 1) (h2 hx) with ⟨j, t', g1, g2, g3⟩ | ⟨g1, g2⟩
      · exact Or.inl ⟨j + 1, t', g1, by rw [g2]; simp; omega, g3⟩
      · refine Or.inr ⟨?_, g2⟩
        simp only [List.length_cons]
        rcases g1 with g1 | g1
        · left
          omega
        · right
          omega
theorem nb_atL_spec {i pc : Nat} : ∀ (ts : List Nat) (os : List Int), nb_atL i pc ts os = true → ts.length = os.length ∧ ∀ (j t : Nat), ts[j]? = some t → ∃ o, os[j]? = some o ∧ nb_atB i t ((pc : Int) + o) = true
  | [], [], _ => ⟨rfl, fun j t h => by simp at h⟩
  | [], _ :: _, h => by cases h
  | _ :: _, [], h => by cases h
  | t :: ts, o :: os, h => by
    simp only [nb_atL, Bool.and_eq_true] at h
    obtain ⟨g1, g2⟩ := nb_atL_spec ts os h.2
    refine ⟨by simp [g1], fun j t' hj => ?_⟩
    cases j with
    | zero =>
      simp at hj
      subst hj
      exact ⟨o, rfl, h.1⟩
    | succ j => exact g2 j t' (by simpa using hj)
/-- the first key that x is -/
theorem nb_lsw_spec {f : Nat → nb_A} {x : Int} {d i pc : Nat} {dflt : Int} {r : List nb_V × nb_M} (hdf : nb_atB i d ((pc : Int) + dflt) = true) : ∀ (ks : List (Int × Int)) (ts : List Nat), nb_atL i pc ts (ks.map (fun q => q.2)) = true → nb_lsw f x d ks ts = some r → ∃ t, nb_atB i t ((pc : Int) + Op.lookupswitch.offset ks dflt x) = true ∧ f t = some r
  | [], [], _, h => ⟨d, hdf, h⟩
  | [], _ :: _, hl, _ => by cases hl
  | _ :: _, [], hl, _ => by cases hl
  | k :: ks, t :: ts, hl, h => by
    obtain ⟨k1, k2⟩ := k
    simp only [nb_atL, List.map_cons, Bool.and_eq_true] at hl
    unfold nb_lsw at h
    obtain ⟨h1, h2⟩ := nb_ifs h
    unfold Op.lookupswitch.offset
    by_cases hx : x = k1
    · refine ⟨t, ?_, h1 hx⟩
      first | (rw [if_pos hx]; exact hl.1) | (rw [if_pos hx.symm]; exact hl.1) | (simp only [hx, beq_self_eq_true, if_true]; exact hl.1)
    · have hx' : ¬ k1 = x := fun q => hx q.symm
      first | rw [if_neg hx] | rw [if_neg hx'] | simp only [hx, hx', beq_iff_eq, if_false]
      exact nb_lsw_spec hdf ks ts hl.2 (h2 hx)
/-- what a method leaves behind -/
def nb_Qc (E : nb_E) (r : List nb_V × nb_M) : Array Value → State → Outcome → State → Prop := fun _ _ o t => o = .returned (r.1.head?.map (nb_val E)) ∧ r.1.length ≤ 1 ∧ (∀ v ∈ r.1, nb_ok r.2 v) ∧ nb_H E r.2 t.heap
def nb_retok (rt : Option FieldType) (ret : Nat) : Prop := (ret = 0 ∧ rt = none) ∨ (ret = 1 ∧ rt = some .int) ∨ (ret = 2 ∧ rt = some .boolean) ∨ (ret = 3 ∧ rt = some .long) ∨ (ret = 4 ∧ ((∃ C, rt = some (.object C)) ∨ ∃ u, rt = some (.array u)))
section NBT
variable {p : Program} {l : Launch} {e : Env} {R : Room} {s : State} {m : MethodId} {args : Array Value} {below : List Frame} {meth : Method} {c : Code} {cc : ByteArray} {E : nb_E} {z0 z1 : Nat} {r : List nb_V × nb_M}
theorem nb_w_zret {Qc : Array Value → State → Outcome → State → Prop} {free : Addr → Prop} {v w : Int32} {ty : FieldType} {H : Heap} {locs : List Loc} {cells slots : Nat} (hexec : p.tables.exec = Jvm.exec) (hb : c.code = cc) (hr : meth.sig.returnType = some ty) (hn : narrow ty (.int v) = .int w)
    (hq : ∀ t : State, t.heap = H → s.WarmedH t.vm → Qc args s (.returned (some (.int w))) t) (hf : ∀ q ∈ locs, free q.base)
    {pc : Nat} {ls : Array Slot} (hdg : decode cc pc = .ok (.ireturn, 1)) (hlocks : meth.locks = false) : W p l e R s m args below meth c H locs cells slots (MQ below Qc args s cells slots free) (F0 m pc ls [.int v]) := by
  intro T hT X
  have hlocks : meth.locks = false := hlocks
  obtain ⟨fs, hret, hrun, hended, hW, hframe⟩ := X.leave (v := some (.int w)) (fun h => by rw [hr] at h; cases h)
  have hmeth' : T.vm.method? m = some meth := X.method'
  refine ⟨T.setFrames fs, ?_, .returned (some (.int w)), hrun, hended, hq _ hT hW, locs, ⟨⟨_, rfl⟩, hW, hframe⟩, hf⟩
  jvm_step X.here [X.here.top, hexec, hb, hdg, hmeth', hr, hn]
  (try refine ⟨rfl, ?_⟩); (try refine ⟨rfl, ?_⟩)
  first | (intro acts; rw [hret _ acts rfl rfl rfl]) | rw [hret _ _ rfl rfl rfl]
  exact Steps.refl _
set_option maxHeartbeats 4000000 in
theorem nb_ter_sound {i pc ret cl nL len : Nat} {last : Instr} {ts : List Nat} {L st : List nb_V} {M : nb_M} {f : nb_C} (hx : p.tables.exec = Jvm.exec) (hb : c.code = cc) (hlocks : meth.locks = false) {rt : Option FieldType} (hrt : meth.sig.returnType = rt) (hro : nb_retok rt ret) (hB : nb_terB i cc pc last len ts = true) (hz : z0 ≤ nb_cz M ∧ z1 ≤ nb_sz M) (hLn : L.length = nL)
    (hrec : ∀ (t : Nat) (B : nb_B) (L' st' : List nb_V) (M' : nb_M), nb_P.2.2.2.1 i t = some B → f i t L' st' M' = some r → z0 ≤ nb_cz M' ∧ z1 ≤ nb_sz M' → L'.length = nL → nb_Go p l e R s m args below meth c (MQ below (nb_Qc E r) args s (nb_cz r.2 - z0) (nb_sz r.2 - z1) (fun q => E.2.1 ≤ q)) E z0 z1 B.1 L' st' M')
    (hinv : ∀ (n t : Nat) (virt : Bool), (last = .invokevirtual n ∨ last = .invokespecial n) ∧ virt = true ∨ last = .invokestatic n ∧ virt = false → ts = [t] → nb_inv nb_P f i t cl virt L st M = some r → nb_Go p l e R s m args below meth c (MQ below (nb_Qc E r) args s (nb_cz r.2 - z0) (nb_sz r.2 - z1) (fun q => E.2.1 ≤ q)) E z0 z1 pc L st M)
    (h : nb_ter nb_P f i ret last ts cl L st M = some r) : nb_Go p l e R s m args below meth c (MQ below (nb_Qc E r) args s (nb_cz r.2 - z0) (nb_sz r.2 - z1) (fun q => E.2.1 ≤ q)) E z0 z1 pc L st M := by
  have go : ∀ {t : Nat} {q : Int} {pc' : Nat} {st' : List nb_V} {ls : Array Slot} {H : Heap} {locs : List Loc}, nb_atB i t q = true → q = (pc' : Int) → f i t L st' M = some r → nb_LR E M ls L → (∀ v ∈ st', nb_ok M v) → nb_H E M H → (∀ q ∈ locs, E.2.1 ≤ q.base) → W p l e R s m args below meth c H locs (nb_cz M - z0) (nb_sz M - z1) (MQ below (nb_Qc E r) args s (nb_cz r.2 - z0) (nb_sz r.2 - z1) (fun q => E.2.1 ≤ q)) (F0 m pc' ls (st'.map (nb_val E))) := by
    intro t q pc' st' ls H locs ha hq hf hL hS hH hl
    obtain ⟨B, g1, g2⟩ := nb_atB_spec ha
    have : B.1 = pc' := by omega
    subst this
    exact hrec t B L st' M g1 hf hz hLn ls H locs hL hS hH hl
  have tgt : ∀ {t : Nat} {q : Int}, nb_atB i t q = true → ∃ pc' : Nat, q = (pc' : Int) := fun ha => by
    obtain ⟨B, g1, g2⟩ := nb_atB_spec ha
    exact ⟨B.1, g2.symm⟩
  have z32 : -2147483648 ≤ (0 : Int) ∧ (0 : Int) < 2147483648 := by decide
  unfold nb_ter at h
  split at h
  · rename_i t st'
    intro ls H locs hL hS hH hl
    exact go hB rfl h hL hS hH hl
  · rename_i o t st'
    simp only [nb_terB, Bool.and_eq_true, decide_eq_true_eq] at hB
    obtain ⟨hd, ha⟩ := hB
    obtain ⟨pc', hp⟩ := tgt ha
    intro ls H locs hL hS hH hl
    exact lv_goto hx hb hd hp (go ha hp h hL hS hH hl)
  · rename_i o t f' x st'
    simp only [nb_terB, Bool.and_eq_true, decide_eq_true_eq] at hB
    obtain ⟨hd, ha, hf⟩ := hB
    obtain ⟨pc', hp⟩ := tgt ha
    obtain ⟨h1, h2⟩ := nb_ifs h
    intro ls H locs hL hS0 hH hl
    obtain ⟨hv, hS1⟩ := List.forall_mem_cons.mp hS0
    exact lv_if_eq hx hb hd hp (fun q => go ha hp (h1 ((nb_eq32 hv z32).mp q)) hL hS1 hH hl) (fun q => go hf rfl (h2 (fun w => q ((nb_eq32 hv z32).mpr w))) hL hS1 hH hl)
  · rename_i o t f' x st'
    simp only [nb_terB, Bool.and_eq_true, decide_eq_true_eq] at hB
    obtain ⟨hd, ha, hf⟩ := hB
    obtain ⟨pc', hp⟩ := tgt ha
    obtain ⟨h1, h2⟩ := nb_ifs h
    intro ls H locs hL hS0 hH hl
    obtain ⟨hv, hS1⟩ := List.forall_mem_cons.mp hS0
    exact lv_if_ne hx hb hd hp (fun q => go ha hp (h2 (fun w => q ((nb_eq32 hv z32).mpr w))) hL hS1 hH hl) (fun q => go hf rfl (h1 ((nb_eq32 hv z32).mp q)) hL hS1 hH hl)
  · rename_i o t f' x st'
    simp only [nb_terB, Bool.and_eq_true, decide_eq_true_eq] at hB
    obtain ⟨hd, ha, hf⟩ := hB
    obtain ⟨pc', hp⟩ := tgt ha
    obtain ⟨h1, h2⟩ := nb_ifs h
    intro ls H locs hL hS0 hH hl
    obtain ⟨hv, hS1⟩ := List.forall_mem_cons.mp hS0
    exact lv_if_lt hx hb hd hp (fun q => go ha hp (h1 ((nb_lt32 hv z32).mp q)) hL hS1 hH hl) (fun q => go hf rfl (h2 (fun w => q ((nb_lt32 hv z32).mpr w))) hL hS1 hH hl)
  · rename_i o t f' x st'
    simp only [nb_terB, Bool.and_eq_true, decide_eq_true_eq] at hB
    obtain ⟨hd, ha, hf⟩ := hB
    obtain ⟨pc', hp⟩ := tgt ha
    obtain ⟨h1, h2⟩ := nb_ifs h
    intro ls H locs hL hS0 hH hl
    obtain ⟨hv, hS1⟩ := List.forall_mem_cons.mp hS0
    exact lv_if_ge hx hb hd hp (fun q => go ha hp (h2 (fun w => absurd ((nb_le32 z32 hv).mp q) (by have : x < 0 := w; omega))) hL hS1 hH hl) (fun q => go hf rfl (h1 (Classical.byContradiction fun w => q ((nb_le32 z32 hv).mpr (by omega)))) hL hS1 hH hl)
  · rename_i o t f' x st'
    simp only [nb_terB, Bool.and_eq_true, decide_eq_true_eq] at hB
    obtain ⟨hd, ha, hf⟩ := hB
    obtain ⟨pc', hp⟩ := tgt ha
    obtain ⟨h1, h2⟩ := nb_ifs h
    intro ls H locs hL hS0 hH hl
    obtain ⟨hv, hS1⟩ := List.forall_mem_cons.mp hS0
    exact lv_if_gt hx hb hd hp (fun q => go ha hp (h1 ((nb_lt32 z32 hv).mp q)) hL hS1 hH hl) (fun q => go hf rfl (h2 (fun w => q ((nb_lt32 z32 hv).mpr w))) hL hS1 hH hl)
  · rename_i o t f' x st'
    simp only [nb_terB, Bool.and_eq_true, decide_eq_true_eq] at hB
    obtain ⟨hd, ha, hf⟩ := hB
    obtain ⟨pc', hp⟩ := tgt ha
    obtain ⟨h1, h2⟩ := nb_ifs h
    intro ls H locs hL hS0 hH hl
    obtain ⟨hv, hS1⟩ := List.forall_mem_cons.mp hS0
    exact lv_if_le hx hb hd hp (fun q => go ha hp (h2 (fun w => absurd ((nb_le32 hv z32).mp q) (by have : 0 < x := w; omega))) hL hS1 hH hl) (fun q => go hf rfl (h1 (Classical.byContradiction fun w => q ((nb_le32 hv z32).mpr (by omega)))) hL hS1 hH hl)
  · rename_i o t f' y x st'
    simp only [nb_terB, Bool.and_eq_true, decide_eq_true_eq] at hB
    obtain ⟨hd, ha, hf⟩ := hB
    obtain ⟨pc', hp⟩ := tgt ha
    obtain ⟨h1, h2⟩ := nb_ifs h
    intro ls H locs hL hS0 hH hl
    obtain ⟨hvy, hS1⟩ := List.forall_mem_cons.mp hS0
    obtain ⟨hvx, hS2⟩ := List.forall_mem_cons.mp hS1
    exact lv_icmp_eq hx hb hd hp (fun q => go ha hp (h1 ((nb_eq32 hvx hvy).mp q)) hL hS2 hH hl) (fun q => go hf rfl (h2 (fun w => q ((nb_eq32 hvx hvy).mpr w))) hL hS2 hH hl)
  · rename_i o t f' y x st'
    simp only [nb_terB, Bool.and_eq_true, decide_eq_true_eq] at hB
    obtain ⟨hd, ha, hf⟩ := hB
    obtain ⟨pc', hp⟩ := tgt ha
    obtain ⟨h1, h2⟩ := nb_ifs h
    intro ls H locs hL hS0 hH hl
    obtain ⟨hvy, hS1⟩ := List.forall_mem_cons.mp hS0
    obtain ⟨hvx, hS2⟩ := List.forall_mem_cons.mp hS1
    exact lv_icmp_ne hx hb hd hp (fun q => go ha hp (h2 (fun w => q ((nb_eq32 hvx hvy).mpr w))) hL hS2 hH hl) (fun q => go hf rfl (h1 ((nb_eq32 hvx hvy).mp q)) hL hS2 hH hl)
  · rename_i o t f' y x st'
    simp only [nb_terB, Bool.and_eq_true, decide_eq_true_eq] at hB
    obtain ⟨hd, ha, hf⟩ := hB
    obtain ⟨pc', hp⟩ := tgt ha
    obtain ⟨h1, h2⟩ := nb_ifs h
    intro ls H locs hL hS0 hH hl
    obtain ⟨hvy, hS1⟩ := List.forall_mem_cons.mp hS0
    obtain ⟨hvx, hS2⟩ := List.forall_mem_cons.mp hS1
    exact lv_icmp_lt hx hb hd hp (fun q => go ha hp (h1 ((nb_lt32 hvx hvy).mp q)) hL hS2 hH hl) (fun q => go hf rfl (h2 (fun w => q ((nb_lt32 hvx hvy).mpr w))) hL hS2 hH hl)
  · rename_i o t f' y x st'
    simp only [nb_terB, Bool.and_eq_true, decide_eq_true_eq] at hB
    obtain ⟨hd, ha, hf⟩ := hB
    obtain ⟨pc', hp⟩ := tgt ha
    obtain ⟨h1, h2⟩ := nb_ifs h
    intro ls H locs hL hS0 hH hl
    obtain ⟨hvy, hS1⟩ := List.forall_mem_cons.mp hS0
    obtain ⟨hvx, hS2⟩ := List.forall_mem_cons.mp hS1
    exact lv_icmp_ge hx hb hd hp (fun q => go ha hp (h2 (fun w => absurd ((nb_le32 hvy hvx).mp q) (by have : x < y := w; omega))) hL hS2 hH hl) (fun q => go hf rfl (h1 (Classical.byContradiction fun w => q ((nb_le32 hvy hvx).mpr (by omega)))) hL hS2 hH hl)
  · rename_i o t f' y x st'
    simp only [nb_terB, Bool.and_eq_true, decide_eq_true_eq] at hB
    obtain ⟨hd, ha, hf⟩ := hB
    obtain ⟨pc', hp⟩ := tgt ha
    obtain ⟨h1, h2⟩ := nb_ifs h
    intro ls H locs hL hS0 hH hl
    obtain ⟨hvy, hS1⟩ := List.forall_mem_cons.mp hS0
    obtain ⟨hvx, hS2⟩ := List.forall_mem_cons.mp hS1
    exact lv_icmp_gt hx hb hd hp (fun q => go ha hp (h1 ((nb_lt32 hvy hvx).mp q)) hL hS2 hH hl) (fun q => go hf rfl (h2 (fun w => q ((nb_lt32 hvy hvx).mpr w))) hL hS2 hH hl)
  · rename_i o t f' y x st'
    simp only [nb_terB, Bool.and_eq_true, decide_eq_true_eq] at hB
    obtain ⟨hd, ha, hf⟩ := hB
    obtain ⟨pc', hp⟩ := tgt ha
    obtain ⟨h1, h2⟩ := nb_ifs h
    intro ls H locs hL hS0 hH hl
    obtain ⟨hvy, hS1⟩ := List.forall_mem_cons.mp hS0
    obtain ⟨hvx, hS2⟩ := List.forall_mem_cons.mp hS1
    exact lv_icmp_le hx hb hd hp (fun q => go ha hp (h2 (fun w => absurd ((nb_le32 hvx hvy).mp q) (by have : y < x := w; omega))) hL hS2 hH hl) (fun q => go hf rfl (h1 (Classical.byContradiction fun w => q ((nb_le32 hvx hvy).mpr (by omega)))) hL hS2 hH hl)
  · rename_i d lo hi offs t ts' x st'
    simp only [nb_terB, Bool.and_eq_true, decide_eq_true_eq] at hB
    obtain ⟨hd, ha, hal, hhi⟩ := hB
    obtain ⟨pc', hp⟩ := tgt ha
    obtain ⟨hlen, hat⟩ := nb_atL_spec _ _ hal
    intro ls H locs hL hS0 hH hl
    obtain ⟨hv, hS1⟩ := List.forall_mem_cons.mp hS0
    have hxi : (Int32.ofInt x).toInt = x := nb_i32 hv
    rcases nb_swt_spec _ _ h with ⟨j, t', g1, g2, g3⟩ | ⟨g1, g2⟩
    · obtain ⟨o, k1, k2⟩ := hat j t' g1
      obtain ⟨pc2, hp2⟩ := tgt k2
      have hj : j < ts'.length := (List.getElem?_eq_some_iff.mp g1).1
      exact lv_tableIn hx hb hd (by rw [hxi]; omega) (by rw [hxi]; omega) (off := o) (by rw [hxi, show (x - lo).toNat = j by omega, ← Array.getElem?_toList]; exact k1) hp2 (go k2 hp2 g3 hL hS1 hH hl)
    · exact lv_tableOut hx hb hd (by rw [hxi]; omega) hp (go ha hp g2 hL hS1 hH hl)
  · rename_i d ks t ts' x st'
    simp only [nb_terB, Bool.and_eq_true, decide_eq_true_eq] at hB
    obtain ⟨hd, ha, hal, hsort⟩ := hB
    intro ls H locs hL hS0 hH hl
    obtain ⟨hv, hS1⟩ := List.forall_mem_cons.mp hS0
    have hxi : (Int32.ofInt x).toInt = x := nb_i32 hv
    obtain ⟨t', g1, g2⟩ := nb_lsw_spec ha _ _ hal h
    obtain ⟨pc2, hp2⟩ := tgt g1
    exact lv_lookup hx hb hd hsort (off := Op.lookupswitch.offset ks.toList d x) (by rw [hxi]) hp2 (go g1 hp2 g2 hL hS1 hH hl)
  · rename_i x
    simp only [nb_terB, decide_eq_true_eq] at hB
    intro ls H locs hL hS0 hH hl
    obtain ⟨hv, -⟩ := List.forall_mem_cons.mp hS0
    split at h
    · rename_i hret
      cases h
      rcases hro with ⟨q, -⟩ | ⟨q, -⟩ | ⟨-, q⟩ | ⟨q, -⟩ | ⟨q, -⟩
      · omega
      · omega
      · exact nb_w_zret hx hb (hrt.trans q) rfl (fun t ht hW => ⟨by show Outcome.returned (some (Value.int _)) = Outcome.returned (some (nb_val E (0, nb_i2z x))); rw [show nb_val E (0, nb_i2z x) = _ from nb_val_i E _], Nat.le_refl 1, fun v hv => by rw [List.mem_singleton.mp hv]; exact nb_ok_i M _, by rw [ht]; exact hH⟩) hl hB hlocks
      · omega
      · omega
    · split at h
      · rename_i hret
        cases h
        rcases hro with ⟨q, -⟩ | ⟨-, q⟩ | ⟨q, -⟩ | ⟨q, -⟩ | ⟨q, -⟩
        · omega
        · exact W.iret hx hb (hrt.trans q) (fun t ht hW => ⟨rfl, Nat.le_refl 1, fun v hv' => by rw [List.mem_singleton.mp hv']; exact hv, by rw [ht]; exact hH⟩) hl hB hlocks
        · omega
        · omega
        · omega
      · cases h
  · rename_i x
    simp only [nb_terB, decide_eq_true_eq] at hB
    intro ls H locs hL hS0 hH hl
    obtain ⟨hv, -⟩ := List.forall_mem_cons.mp hS0
    split at h
    · rename_i hret
      cases h
      rcases hro with ⟨q, -⟩ | ⟨q, -⟩ | ⟨q, -⟩ | ⟨-, q⟩ | ⟨q, -⟩
      · omega
      · omega
      · omega
      · exact W.lret hx hb (hrt.trans q) (fun t ht hW => ⟨rfl, Nat.le_refl 1, fun v hv' => by rw [List.mem_singleton.mp hv']; exact hv, by rw [ht]; exact hH⟩) hl hB hlocks
      · omega
    · cases h
  · rename_i t x
    simp only [nb_terB, decide_eq_true_eq] at hB
    intro ls H locs hL hS0 hH hl
    obtain ⟨hv, -⟩ := List.forall_mem_cons.mp hS0
    split at h
    · rename_i hret
      cases h
      rcases hro with ⟨q, -⟩ | ⟨q, -⟩ | ⟨q, -⟩ | ⟨q, -⟩ | ⟨-, q⟩
      · omega
      · omega
      · omega
      · omega
      · obtain ⟨rt', hq⟩ : ∃ rt', rt = some rt' ∧ ((∃ n, rt' = .object n) ∨ ∃ t, rt' = .array t) := by
          rcases q with ⟨C, q⟩ | ⟨u, q⟩
          · exact ⟨_, q, Or.inl ⟨C, rfl⟩⟩
          · exact ⟨_, q, Or.inr ⟨u, rfl⟩⟩
        exact W.aret hx hb (hrt.trans hq.1) hq.2 (nb_val_ref' E hret.2.1 x) (fun t ht hW => ⟨rfl, Nat.le_refl 1, fun v hv' => by rw [List.mem_singleton.mp hv']; exact hv, by rw [ht]; exact hH⟩) hl hB hlocks
    · cases h
  · simp only [nb_terB, decide_eq_true_eq] at hB
    intro ls H locs hL hS0 hH hl
    split at h
    · rename_i hret
      cases h
      rcases hro with ⟨-, q⟩ | ⟨q, -⟩ | ⟨q, -⟩ | ⟨q, -⟩ | ⟨q, -⟩
      · exact W.vret hx hb (hrt.trans q) (fun t ht hW => ⟨rfl, Nat.zero_le 1, fun v hv' => by (cases hv'), by (rw [ht]; exact hH)⟩) hl hB hlocks
      · omega
      · omega
      · omega
      · omega
    · cases h
  · exact hinv _ _ true (Or.inl ⟨Or.inl rfl, rfl⟩) rfl h
  · exact hinv _ _ true (Or.inl ⟨Or.inr rfl, rfl⟩) rfl h
  · exact hinv _ _ false (Or.inr ⟨rfl, rfl⟩) rfl h
  · cases h
end NBT
