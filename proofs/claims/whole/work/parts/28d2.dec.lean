/-! WHAT STANDS IN THE CODE, read off its bytes -/
section NBX
variable {cc : ByteArray} {pc : Nat} {b c d e : UInt8} {l : List UInt8}
theorem nb_drop_get {α : Type} {xs : List α} {p : Nat} {x : α} {l : List α} (h : xs.drop p = x :: l) : xs[p]? = some x ∧ xs.drop (p + 1) = l := by
  constructor
  · have := congrArg (fun t => t[0]?) h
    simpa using this
  · have := congrArg (fun t => t.drop 1) h
    simpa [List.drop_drop] using this
theorem nb_u1 (h : cc.data.toList.drop pc = b :: l) : (Reader.u1 : Decoder Nat) cc pc = .ok (b.toNat, pc + 1) := by
  have h1 := (nb_drop_get h).1
  obtain ⟨h2, h3⟩ := List.getElem?_eq_some_iff.mp h1
  have h4 : pc < cc.size := by
    show pc < cc.data.size
    simpa using h2
  have h5 : cc[pc]'h4 = b := by
    rw [← h3]
    rfl
  show (if h : pc < cc.size then _ else _ : Decoder Nat) cc pc = _
  rw [dif_pos h4]
  show Except.ok ((cc[pc]'h4).toNat, pc + 1) = _
  rw [h5]
theorem nb_u1K {β : Type} (K : Nat → Decoder β) (h : cc.data.toList.drop pc = b :: l) : (Reader.u1 >>= K) cc pc = K b.toNat cc (pc + 1) := by
  simp only [bind, ReaderT.bind, StateT.bind, Except.bind, nb_u1 h]
theorem nb_u2 (h : cc.data.toList.drop pc = b :: c :: l) : (Reader.u2 : Decoder Nat) cc pc = .ok (b.toNat * 256 + c.toNat, pc + 2) := by
  show (Reader.u1 >>= fun hi => Reader.u1 >>= fun lo => pure (hi * 256 + lo) : Decoder Nat) cc pc = _
  rw [nb_u1K _ h, nb_u1K _ (nb_drop_get h).2]
  rfl
theorem nb_u2K {β : Type} (K : Nat → Decoder β) (h : cc.data.toList.drop pc = b :: c :: l) : (Reader.u2 >>= K) cc pc = K (b.toNat * 256 + c.toNat) cc (pc + 2) := by
  simp only [bind, ReaderT.bind, StateT.bind, Except.bind, nb_u2 h]
theorem nb_s1 (h : cc.data.toList.drop pc = b :: l) : (Reader.s1 : Decoder Int) cc pc = .ok (Reader.signed 8 b.toNat, pc + 1) := by
  simp only [Reader.s1, Functor.map, StateT.map, bind, ReaderT.bind, StateT.bind, Except.bind, nb_u1 h]
  rfl
theorem nb_s1K {β : Type} (K : Int → Decoder β) (h : cc.data.toList.drop pc = b :: l) : (Reader.s1 >>= K) cc pc = K (Reader.signed 8 b.toNat) cc (pc + 1) := by
  simp only [bind, ReaderT.bind, StateT.bind, Except.bind, nb_s1 h]
theorem nb_s2 (h : cc.data.toList.drop pc = b :: c :: l) : (Reader.s2 : Decoder Int) cc pc = .ok (Reader.signed 16 (b.toNat * 256 + c.toNat), pc + 2) := by
  simp only [Reader.s2, Functor.map, StateT.map, bind, ReaderT.bind, StateT.bind, Except.bind, nb_u2 h]
  rfl
theorem nb_s2K {β : Type} (K : Int → Decoder β) (h : cc.data.toList.drop pc = b :: c :: l) : (Reader.s2 >>= K) cc pc = K (Reader.signed 16 (b.toNat * 256 + c.toNat)) cc (pc + 2) := by
  simp only [bind, ReaderT.bind, StateT.bind, Except.bind, nb_s2 h]
theorem nb_decK {op q : Nat} {x : Instr} (h : cc.data.toList.drop pc = b :: l) (hb : b.toNat = op) (K : Nat → Decoder Instr) (hK : Decoder.instr pc = (Reader.u1 >>= K)) (hx : K op cc (pc + 1) = .ok (x, pc + q)) : decode cc pc = .ok (x, q) := by
  have e : (Decoder.instr pc) cc pc = .ok (x, pc + q) := by
    rw [hK, nb_u1K K h, hb, hx]
  unfold decode
  simp only [Reader.runAt, ReaderT.run, StateT.run, bind, Except.bind, e]
  show Except.ok (x, pc + q - pc) = _
  rw [Nat.add_sub_cancel_left]
end NBX
def nb_y0 (op : Nat) : List UInt8 → Bool
  | b :: _ => b.toNat == op
  | _ => false
def nb_y1 (op n : Nat) : List UInt8 → Bool
  | b :: c :: _ => b.toNat == op && c.toNat == n
  | _ => false
def nb_y2 (op n : Nat) : List UInt8 → Bool
  | b :: c :: d :: _ => b.toNat == op && c.toNat * 256 + d.toNat == n
  | _ => false
def nb_z1 (op : Nat) (n : Int) : List UInt8 → Bool
  | b :: c :: _ => b.toNat == op && decide (Reader.signed 8 c.toNat = n)
  | _ => false
def nb_z2 (op : Nat) (n : Int) : List UInt8 → Bool
  | b :: c :: d :: _ => b.toNat == op && decide (Reader.signed 16 (c.toNat * 256 + d.toNat) = n)
  | _ => false
def nb_zi (n : Nat) (k : Int) : List UInt8 → Bool
  | b :: c :: d :: _ => b.toNat == 132 && (c.toNat == n && decide (Reader.signed 8 d.toNat = k))
  | _ => false
def nb_zm (n k : Nat) : List UInt8 → Bool
  | b :: c :: d :: e :: _ => b.toNat == 197 && (c.toNat * 256 + d.toNat == n && (e.toNat == k && !(k == 0)))
  | _ => false
section NBY
variable {cc : ByteArray} {pc : Nat} {l : List UInt8}
theorem nb_y0_dec {op : Nat} {x : Instr} (hl : cc.data.toList.drop pc = l) (h : nb_y0 op l = true) (K : Nat → Decoder Instr) (hK : Decoder.instr pc = (Reader.u1 >>= K)) (hx : K op cc (pc + 1) = .ok (x, pc + 1)) : decode cc pc = .ok (x, 1) := by
  match l, h with
  | b :: l, h => exact nb_decK hl (by simpa [nb_y0] using h) K hK hx
theorem nb_y1_dec {op n : Nat} {f : Nat → Instr} (hl : cc.data.toList.drop pc = l) (h : nb_y1 op n l = true) (K : Nat → Decoder Instr) (hK : Decoder.instr pc = (Reader.u1 >>= K)) (hx : K op = (Reader.u1 >>= fun a => pure (f a))) : decode cc pc = .ok (f n, 2) := by
  match l, h with
  | b :: c :: l, h =>
    simp only [nb_y1, Bool.and_eq_true, beq_iff_eq] at h
    refine nb_decK hl h.1 K hK ?_
    rw [hx, nb_u1K _ (nb_drop_get hl).2, h.2]
    rfl
theorem nb_y2_dec {op n : Nat} {f : Nat → Instr} (hl : cc.data.toList.drop pc = l) (h : nb_y2 op n l = true) (K : Nat → Decoder Instr) (hK : Decoder.instr pc = (Reader.u1 >>= K)) (hx : K op = (Reader.u2 >>= fun a => pure (f a))) : decode cc pc = .ok (f n, 3) := by
  match l, h with
  | b :: c :: d :: l, h =>
    simp only [nb_y2, Bool.and_eq_true, beq_iff_eq] at h
    refine nb_decK hl h.1 K hK ?_
    rw [hx, nb_u2K _ (nb_drop_get hl).2, h.2]
    rfl
theorem nb_z1_dec {op : Nat} {n : Int} {f : Int → Instr} (hl : cc.data.toList.drop pc = l) (h : nb_z1 op n l = true) (K : Nat → Decoder Instr) (hK : Decoder.instr pc = (Reader.u1 >>= K)) (hx : K op = (Reader.s1 >>= fun a => pure (f a))) : decode cc pc = .ok (f n, 2) := by
  match l, h with
  | b :: c :: l, h =>
    simp only [nb_z1, Bool.and_eq_true, beq_iff_eq, decide_eq_true_eq] at h
    refine nb_decK hl h.1 K hK ?_
    rw [hx, nb_s1K _ (nb_drop_get hl).2, h.2]
    rfl
theorem nb_z2_dec {op : Nat} {n : Int} {f : Int → Instr} (hl : cc.data.toList.drop pc = l) (h : nb_z2 op n l = true) (K : Nat → Decoder Instr) (hK : Decoder.instr pc = (Reader.u1 >>= K)) (hx : K op = (Reader.s2 >>= fun a => pure (f a))) : decode cc pc = .ok (f n, 3) := by
  match l, h with
  | b :: c :: d :: l, h =>
    simp only [nb_z2, Bool.and_eq_true, beq_iff_eq, decide_eq_true_eq] at h
    refine nb_decK hl h.1 K hK ?_
    rw [hx, nb_s2K _ (nb_drop_get hl).2, h.2]
    rfl
theorem nb_zi_dec {n : Nat} {k : Int} (hl : cc.data.toList.drop pc = l) (h : nb_zi n k l = true) : decode cc pc = .ok (.iinc n k, 3) := by
  match l, h with
  | b :: c :: d :: l, h =>
    simp only [nb_zi, Bool.and_eq_true, beq_iff_eq, decide_eq_true_eq] at h
    have h2 := (nb_drop_get hl).2
    refine nb_decK hl h.1 _ rfl ?_
    show (Reader.u1 >>= fun a => Reader.s1 >>= fun z => pure (Instr.iinc a z) : Decoder Instr) cc (pc + 1) = _
    rw [nb_u1K _ h2, nb_s1K _ (nb_drop_get h2).2, h.2.1, h.2.2]
    rfl
theorem nb_zm_dec {n k : Nat} (hl : cc.data.toList.drop pc = l) (h : nb_zm n k l = true) : decode cc pc = .ok (.multianewarray n k, 4) := by
  match l, h with
  | b :: c :: d :: e :: l, h =>
    simp only [nb_zm, Bool.and_eq_true, beq_iff_eq, Bool.not_eq_true', beq_eq_false_iff_ne] at h
    have h2 := (nb_drop_get hl).2
    have h3 := (nb_drop_get (nb_drop_get h2).2).2
    refine nb_decK hl h.1 _ rfl ?_
    show (Decoder.multianewarray pc) cc (pc + 1) = _
    unfold Decoder.multianewarray
    rw [nb_u2K _ h2, nb_u1K _ h3, h.2.1, h.2.2.1]
    obtain ⟨k, rfl⟩ : ∃ j, k = j + 1 := ⟨k - 1, by omega⟩
    rfl
theorem nb_na_dec {n : Nat} {t : ArrayType} (hl : cc.data.toList.drop pc = l) (h : nb_y1 188 n l = true) (ht : (n = 4 ∧ t = .boolean) ∨ (n = 8 ∧ t = .byte) ∨ (n = 10 ∧ t = .int) ∨ (n = 11 ∧ t = .long)) : decode cc pc = .ok (.newarray t, 2) := by
  match l, h with
  | b :: c :: l, h =>
    simp only [nb_y1, Bool.and_eq_true, beq_iff_eq] at h
    have h2 := (nb_drop_get hl).2
    refine nb_decK hl h.1 _ rfl ?_
    show (Decoder.newarray pc) cc (pc + 1) = _
    unfold Decoder.newarray
    rw [nb_u1K _ h2, h.2]
    rcases ht with ⟨rfl, rfl⟩ | ⟨rfl, rfl⟩ | ⟨rfl, rfl⟩ | ⟨rfl, rfl⟩ <;> rfl
end NBY
/-- an instruction stands ahead of these bytes -/
def nb_fd (i : Instr) (l : List UInt8) : Bool × Nat := match i with
  | .iaload => (nb_y0 46 l, 1)
  | .laload => (nb_y0 47 l, 1)
  | .aaload => (nb_y0 50 l, 1)
  | .baload => (nb_y0 51 l, 1)
  | .iastore => (nb_y0 79 l, 1)
  | .lastore => (nb_y0 80 l, 1)
  | .aastore => (nb_y0 83 l, 1)
  | .bastore => (nb_y0 84 l, 1)
  | .pop => (nb_y0 87 l, 1)
  | .dup => (nb_y0 89 l, 1)
  | .dup2 => (nb_y0 92 l, 1)
  | .iadd => (nb_y0 96 l, 1)
  | .ladd => (nb_y0 97 l, 1)
  | .isub => (nb_y0 100 l, 1)
  | .lsub => (nb_y0 101 l, 1)
  | .imul => (nb_y0 104 l, 1)
  | .lmul => (nb_y0 105 l, 1)
  | .idiv => (nb_y0 108 l, 1)
  | .irem => (nb_y0 112 l, 1)
  | .ineg => (nb_y0 116 l, 1)
  | .ishl => (nb_y0 120 l, 1)
  | .lshl => (nb_y0 121 l, 1)
  | .ishr => (nb_y0 122 l, 1)
  | .iushr => (nb_y0 124 l, 1)
  | .iand => (nb_y0 126 l, 1)
  | .ior => (nb_y0 128 l, 1)
  | .lor => (nb_y0 129 l, 1)
  | .ixor => (nb_y0 130 l, 1)
  | .i2l => (nb_y0 133 l, 1)
  | .l2i => (nb_y0 136 l, 1)
  | .i2b => (nb_y0 145 l, 1)
  | .lcmp => (nb_y0 148 l, 1)
  | .ireturn => (nb_y0 172 l, 1)
  | .lreturn => (nb_y0 173 l, 1)
  | .areturn => (nb_y0 176 l, 1)
  | .return_ => (nb_y0 177 l, 1)
  | .arraylength => (nb_y0 190 l, 1)
  | .iconst n => (nb_y0 (n + 3).toNat l && (decide (-1 ≤ n) && decide (n ≤ 5)), 1)
  | .lconst n => (nb_y0 (9 + n.1) l, 1)
  | .iload_n n => (nb_y0 (26 + n.1) l, 1)
  | .lload_n n => (nb_y0 (30 + n.1) l, 1)
  | .aload_n n => (nb_y0 (42 + n.1) l, 1)
  | .istore_n n => (nb_y0 (59 + n.1) l, 1)
  | .lstore_n n => (nb_y0 (63 + n.1) l, 1)
  | .astore_n n => (nb_y0 (75 + n.1) l, 1)
  | .ldc n => (nb_y1 18 n l, 2)
  | .iload n => (nb_y1 21 n l, 2)
  | .lload n => (nb_y1 22 n l, 2)
  | .aload n => (nb_y1 25 n l, 2)
  | .istore n => (nb_y1 54 n l, 2)
  | .lstore n => (nb_y1 55 n l, 2)
  | .astore n => (nb_y1 58 n l, 2)
  | .ldc_w n => (nb_y2 19 n l, 3)
  | .ldc2_w n => (nb_y2 20 n l, 3)
  | .getfield n => (nb_y2 180 n l, 3)
  | .putfield n => (nb_y2 181 n l, 3)
  | .invokevirtual n => (nb_y2 182 n l, 3)
  | .invokespecial n => (nb_y2 183 n l, 3)
  | .invokestatic n => (nb_y2 184 n l, 3)
  | .new n => (nb_y2 187 n l, 3)
  | .anewarray n => (nb_y2 189 n l, 3)
  | .sipush n => (nb_z2 17 n l, 3)
  | .goto n => (nb_z2 167 n l, 3)
  | .ifCond .eq n => (nb_z2 153 n l, 3)
  | .ifCond .ne n => (nb_z2 154 n l, 3)
  | .ifCond .lt n => (nb_z2 155 n l, 3)
  | .ifCond .ge n => (nb_z2 156 n l, 3)
  | .ifCond .gt n => (nb_z2 157 n l, 3)
  | .ifCond .le n => (nb_z2 158 n l, 3)
  | .if_icmp .eq n => (nb_z2 159 n l, 3)
  | .if_icmp .ne n => (nb_z2 160 n l, 3)
  | .if_icmp .lt n => (nb_z2 161 n l, 3)
  | .if_icmp .ge n => (nb_z2 162 n l, 3)
  | .if_icmp .gt n => (nb_z2 163 n l, 3)
  | .if_icmp .le n => (nb_z2 164 n l, 3)
  | .bipush n => (nb_z1 16 n l, 2)
  | .iinc n k => (nb_zi n k l, 3)
  | .multianewarray n k => (nb_zm n k l, 4)
  | .newarray .boolean => (nb_y1 188 4 l, 2)
  | .newarray .byte => (nb_y1 188 8 l, 2)
  | .newarray .int => (nb_y1 188 10 l, 2)
  | .newarray .long => (nb_y1 188 11 l, 2)
  | _ => (false, 0)
section NBZ
variable {cc : ByteArray} {pc : Nat} {l : List UInt8}
theorem nb_q_iconst_m1 (hl : cc.data.toList.drop pc = l) (h : nb_y0 2 l = true) : decode cc pc = .ok (.iconst (-1), 1) := nb_y0_dec hl h _ rfl rfl
theorem nb_q_iconst_0 (hl : cc.data.toList.drop pc = l) (h : nb_y0 3 l = true) : decode cc pc = .ok (.iconst 0, 1) := nb_y0_dec hl h _ rfl rfl
theorem nb_q_iconst_1 (hl : cc.data.toList.drop pc = l) (h : nb_y0 4 l = true) : decode cc pc = .ok (.iconst 1, 1) := nb_y0_dec hl h _ rfl rfl
theorem nb_q_iconst_2 (hl : cc.data.toList.drop pc = l) (h : nb_y0 5 l = true) : decode cc pc = .ok (.iconst 2, 1) := nb_y0_dec hl h _ rfl rfl
theorem nb_q_iconst_3 (hl : cc.data.toList.drop pc = l) (h : nb_y0 6 l = true) : decode cc pc = .ok (.iconst 3, 1) := nb_y0_dec hl h _ rfl rfl
theorem nb_q_iconst_4 (hl : cc.data.toList.drop pc = l) (h : nb_y0 7 l = true) : decode cc pc = .ok (.iconst 4, 1) := nb_y0_dec hl h _ rfl rfl
theorem nb_q_iconst_5 (hl : cc.data.toList.drop pc = l) (h : nb_y0 8 l = true) : decode cc pc = .ok (.iconst 5, 1) := nb_y0_dec hl h _ rfl rfl
theorem nb_q_lconst_0 (hl : cc.data.toList.drop pc = l) (h : nb_y0 9 l = true) : decode cc pc = .ok (.lconst 0, 1) := nb_y0_dec hl h _ rfl rfl
theorem nb_q_lconst_1 (hl : cc.data.toList.drop pc = l) (h : nb_y0 10 l = true) : decode cc pc = .ok (.lconst 1, 1) := nb_y0_dec hl h _ rfl rfl
theorem nb_q_iload_n_0 (hl : cc.data.toList.drop pc = l) (h : nb_y0 26 l = true) : decode cc pc = .ok (.iload_n 0, 1) := nb_y0_dec hl h _ rfl rfl
theorem nb_q_iload_n_1 (hl : cc.data.toList.drop pc = l) (h : nb_y0 27 l = true) : decode cc pc = .ok (.iload_n 1, 1) := nb_y0_dec hl h _ rfl rfl
theorem nb_q_iload_n_2 (hl : cc.data.toList.drop pc = l) (h : nb_y0 28 l = true) : decode cc pc = .ok (.iload_n 2, 1) := nb_y0_dec hl h _ rfl rfl
theorem nb_q_iload_n_3 (hl : cc.data.toList.drop pc = l) (h : nb_y0 29 l = true) : decode cc pc = .ok (.iload_n 3, 1) := nb_y0_dec hl h _ rfl rfl
theorem nb_q_lload_n_0 (hl : cc.data.toList.drop pc = l) (h : nb_y0 30 l = true) : decode cc pc = .ok (.lload_n 0, 1) := nb_y0_dec hl h _ rfl rfl
theorem nb_q_lload_n_1 (hl : cc.data.toList.drop pc = l) (h : nb_y0 31 l = true) : decode cc pc = .ok (.lload_n 1, 1) := nb_y0_dec hl h _ rfl rfl
theorem nb_q_lload_n_2 (hl : cc.data.toList.drop pc = l) (h : nb_y0 32 l = true) : decode cc pc = .ok (.lload_n 2, 1) := nb_y0_dec hl h _ rfl rfl
theorem nb_q_lload_n_3 (hl : cc.data.toList.drop pc = l) (h : nb_y0 33 l = true) : decode cc pc = .ok (.lload_n 3, 1) := nb_y0_dec hl h _ rfl rfl
theorem nb_q_aload_n_0 (hl : cc.data.toList.drop pc = l) (h : nb_y0 42 l = true) : decode cc pc = .ok (.aload_n 0, 1) := nb_y0_dec hl h _ rfl rfl
theorem nb_q_aload_n_1 (hl : cc.data.toList.drop pc = l) (h : nb_y0 43 l = true) : decode cc pc = .ok (.aload_n 1, 1) := nb_y0_dec hl h _ rfl rfl
theorem nb_q_aload_n_2 (hl : cc.data.toList.drop pc = l) (h : nb_y0 44 l = true) : decode cc pc = .ok (.aload_n 2, 1) := nb_y0_dec hl h _ rfl rfl
theorem nb_q_aload_n_3 (hl : cc.data.toList.drop pc = l) (h : nb_y0 45 l = true) : decode cc pc = .ok (.aload_n 3, 1) := nb_y0_dec hl h _ rfl rfl
theorem nb_q_istore_n_0 (hl : cc.data.toList.drop pc = l) (h : nb_y0 59 l = true) : decode cc pc = .ok (.istore_n 0, 1) := nb_y0_dec hl h _ rfl rfl
theorem nb_q_istore_n_1 (hl : cc.data.toList.drop pc = l) (h : nb_y0 60 l = true) : decode cc pc = .ok (.istore_n 1, 1) := nb_y0_dec hl h _ rfl rfl
theorem nb_q_istore_n_2 (hl : cc.data.toList.drop pc = l) (h : nb_y0 61 l = true) : decode cc pc = .ok (.istore_n 2, 1) := nb_y0_dec hl h _ rfl rfl
theorem nb_q_istore_n_3 (hl : cc.data.toList.drop pc = l) (h : nb_y0 62 l = true) : decode cc pc = .ok (.istore_n 3, 1) := nb_y0_dec hl h _ rfl rfl
theorem nb_q_lstore_n_0 (hl : cc.data.toList.drop pc = l) (h : nb_y0 63 l = true) : decode cc pc = .ok (.lstore_n 0, 1) := nb_y0_dec hl h _ rfl rfl
theorem nb_q_lstore_n_1 (hl : cc.data.toList.drop pc = l) (h : nb_y0 64 l = true) : decode cc pc = .ok (.lstore_n 1, 1) := nb_y0_dec hl h _ rfl rfl
theorem nb_q_lstore_n_2 (hl : cc.data.toList.drop pc = l) (h : nb_y0 65 l = true) : decode cc pc = .ok (.lstore_n 2, 1) := nb_y0_dec hl h _ rfl rfl
theorem nb_q_lstore_n_3 (hl : cc.data.toList.drop pc = l) (h : nb_y0 66 l = true) : decode cc pc = .ok (.lstore_n 3, 1) := nb_y0_dec hl h _ rfl rfl
theorem nb_q_astore_n_0 (hl : cc.data.toList.drop pc = l) (h : nb_y0 75 l = true) : decode cc pc = .ok (.astore_n 0, 1) := nb_y0_dec hl h _ rfl rfl
theorem nb_q_astore_n_1 (hl : cc.data.toList.drop pc = l) (h : nb_y0 76 l = true) : decode cc pc = .ok (.astore_n 1, 1) := nb_y0_dec hl h _ rfl rfl
theorem nb_q_astore_n_2 (hl : cc.data.toList.drop pc = l) (h : nb_y0 77 l = true) : decode cc pc = .ok (.astore_n 2, 1) := nb_y0_dec hl h _ rfl rfl
theorem nb_q_astore_n_3 (hl : cc.data.toList.drop pc = l) (h : nb_y0 78 l = true) : decode cc pc = .ok (.astore_n 3, 1) := nb_y0_dec hl h _ rfl rfl
theorem nb_q_iaload (hl : cc.data.toList.drop pc = l) (h : nb_y0 46 l = true) : decode cc pc = .ok (.iaload, 1) := nb_y0_dec hl h _ rfl rfl
theorem nb_q_laload (hl : cc.data.toList.drop pc = l) (h : nb_y0 47 l = true) : decode cc pc = .ok (.laload, 1) := nb_y0_dec hl h _ rfl rfl
theorem nb_q_aaload (hl : cc.data.toList.drop pc = l) (h : nb_y0 50 l = true) : decode cc pc = .ok (.aaload, 1) := nb_y0_dec hl h _ rfl rfl
theorem nb_q_baload (hl : cc.data.toList.drop pc = l) (h : nb_y0 51 l = true) : decode cc pc = .ok (.baload, 1) := nb_y0_dec hl h _ rfl rfl
theorem nb_q_iastore (hl : cc.data.toList.drop pc = l) (h : nb_y0 79 l = true) : decode cc pc = .ok (.iastore, 1) := nb_y0_dec hl h _ rfl rfl
theorem nb_q_lastore (hl : cc.data.toList.drop pc = l) (h : nb_y0 80 l = true) : decode cc pc = .ok (.lastore, 1) := nb_y0_dec hl h _ rfl rfl
theorem nb_q_aastore (hl : cc.data.toList.drop pc = l) (h : nb_y0 83 l = true) : decode cc pc = .ok (.aastore, 1) := nb_y0_dec hl h _ rfl rfl
theorem nb_q_bastore (hl : cc.data.toList.drop pc = l) (h : nb_y0 84 l = true) : decode cc pc = .ok (.bastore, 1) := nb_y0_dec hl h _ rfl rfl
theorem nb_q_pop (hl : cc.data.toList.drop pc = l) (h : nb_y0 87 l = true) : decode cc pc = .ok (.pop, 1) := nb_y0_dec hl h _ rfl rfl
theorem nb_q_dup (hl : cc.data.toList.drop pc = l) (h : nb_y0 89 l = true) : decode cc pc = .ok (.dup, 1) := nb_y0_dec hl h _ rfl rfl
theorem nb_q_dup2 (hl : cc.data.toList.drop pc = l) (h : nb_y0 92 l = true) : decode cc pc = .ok (.dup2, 1) := nb_y0_dec hl h _ rfl rfl
theorem nb_q_iadd (hl : cc.data.toList.drop pc = l) (h : nb_y0 96 l = true) : decode cc pc = .ok (.iadd, 1) := nb_y0_dec hl h _ rfl rfl
theorem nb_q_ladd (hl : cc.data.toList.drop pc = l) (h : nb_y0 97 l = true) : decode cc pc = .ok (.ladd, 1) := nb_y0_dec hl h _ rfl rfl
theorem nb_q_isub (hl : cc.data.toList.drop pc = l) (h : nb_y0 100 l = true) : decode cc pc = .ok (.isub, 1) := nb_y0_dec hl h _ rfl rfl
theorem nb_q_lsub (hl : cc.data.toList.drop pc = l) (h : nb_y0 101 l = true) : decode cc pc = .ok (.lsub, 1) := nb_y0_dec hl h _ rfl rfl
theorem nb_q_imul (hl : cc.data.toList.drop pc = l) (h : nb_y0 104 l = true) : decode cc pc = .ok (.imul, 1) := nb_y0_dec hl h _ rfl rfl
theorem nb_q_lmul (hl : cc.data.toList.drop pc = l) (h : nb_y0 105 l = true) : decode cc pc = .ok (.lmul, 1) := nb_y0_dec hl h _ rfl rfl
theorem nb_q_idiv (hl : cc.data.toList.drop pc = l) (h : nb_y0 108 l = true) : decode cc pc = .ok (.idiv, 1) := nb_y0_dec hl h _ rfl rfl
theorem nb_q_irem (hl : cc.data.toList.drop pc = l) (h : nb_y0 112 l = true) : decode cc pc = .ok (.irem, 1) := nb_y0_dec hl h _ rfl rfl
theorem nb_q_ineg (hl : cc.data.toList.drop pc = l) (h : nb_y0 116 l = true) : decode cc pc = .ok (.ineg, 1) := nb_y0_dec hl h _ rfl rfl
theorem nb_q_ishl (hl : cc.data.toList.drop pc = l) (h : nb_y0 120 l = true) : decode cc pc = .ok (.ishl, 1) := nb_y0_dec hl h _ rfl rfl
theorem nb_q_lshl (hl : cc.data.toList.drop pc = l) (h : nb_y0 121 l = true) : decode cc pc = .ok (.lshl, 1) := nb_y0_dec hl h _ rfl rfl
theorem nb_q_ishr (hl : cc.data.toList.drop pc = l) (h : nb_y0 122 l = true) : decode cc pc = .ok (.ishr, 1) := nb_y0_dec hl h _ rfl rfl
theorem nb_q_iushr (hl : cc.data.toList.drop pc = l) (h : nb_y0 124 l = true) : decode cc pc = .ok (.iushr, 1) := nb_y0_dec hl h _ rfl rfl
theorem nb_q_iand (hl : cc.data.toList.drop pc = l) (h : nb_y0 126 l = true) : decode cc pc = .ok (.iand, 1) := nb_y0_dec hl h _ rfl rfl
theorem nb_q_ior (hl : cc.data.toList.drop pc = l) (h : nb_y0 128 l = true) : decode cc pc = .ok (.ior, 1) := nb_y0_dec hl h _ rfl rfl
theorem nb_q_lor (hl : cc.data.toList.drop pc = l) (h : nb_y0 129 l = true) : decode cc pc = .ok (.lor, 1) := nb_y0_dec hl h _ rfl rfl
theorem nb_q_ixor (hl : cc.data.toList.drop pc = l) (h : nb_y0 130 l = true) : decode cc pc = .ok (.ixor, 1) := nb_y0_dec hl h _ rfl rfl
theorem nb_q_i2l (hl : cc.data.toList.drop pc = l) (h : nb_y0 133 l = true) : decode cc pc = .ok (.i2l, 1) := nb_y0_dec hl h _ rfl rfl
theorem nb_q_l2i (hl : cc.data.toList.drop pc = l) (h : nb_y0 136 l = true) : decode cc pc = .ok (.l2i, 1) := nb_y0_dec hl h _ rfl rfl
theorem nb_q_i2b (hl : cc.data.toList.drop pc = l) (h : nb_y0 145 l = true) : decode cc pc = .ok (.i2b, 1) := nb_y0_dec hl h _ rfl rfl
theorem nb_q_lcmp (hl : cc.data.toList.drop pc = l) (h : nb_y0 148 l = true) : decode cc pc = .ok (.lcmp, 1) := nb_y0_dec hl h _ rfl rfl
theorem nb_q_ireturn (hl : cc.data.toList.drop pc = l) (h : nb_y0 172 l = true) : decode cc pc = .ok (.ireturn, 1) := nb_y0_dec hl h _ rfl rfl
theorem nb_q_lreturn (hl : cc.data.toList.drop pc = l) (h : nb_y0 173 l = true) : decode cc pc = .ok (.lreturn, 1) := nb_y0_dec hl h _ rfl rfl
theorem nb_q_areturn (hl : cc.data.toList.drop pc = l) (h : nb_y0 176 l = true) : decode cc pc = .ok (.areturn, 1) := nb_y0_dec hl h _ rfl rfl
theorem nb_q_return_ (hl : cc.data.toList.drop pc = l) (h : nb_y0 177 l = true) : decode cc pc = .ok (.return_, 1) := nb_y0_dec hl h _ rfl rfl
theorem nb_q_arraylength (hl : cc.data.toList.drop pc = l) (h : nb_y0 190 l = true) : decode cc pc = .ok (.arraylength, 1) := nb_y0_dec hl h _ rfl rfl
theorem nb_q_ldc {n : Nat} (hl : cc.data.toList.drop pc = l) (h : nb_y1 18 n l = true) : decode cc pc = .ok (.ldc n, 2) := nb_y1_dec (f := .ldc) hl h _ rfl rfl
theorem nb_q_iload {n : Nat} (hl : cc.data.toList.drop pc = l) (h : nb_y1 21 n l = true) : decode cc pc = .ok (.iload n, 2) := nb_y1_dec (f := .iload) hl h _ rfl rfl
theorem nb_q_lload {n : Nat} (hl : cc.data.toList.drop pc = l) (h : nb_y1 22 n l = true) : decode cc pc = .ok (.lload n, 2) := nb_y1_dec (f := .lload) hl h _ rfl rfl
theorem nb_q_aload {n : Nat} (hl : cc.data.toList.drop pc = l) (h : nb_y1 25 n l = true) : decode cc pc = .ok (.aload n, 2) := nb_y1_dec (f := .aload) hl h _ rfl rfl
theorem nb_q_istore {n : Nat} (hl : cc.data.toList.drop pc = l) (h : nb_y1 54 n l = true) : decode cc pc = .ok (.istore n, 2) := nb_y1_dec (f := .istore) hl h _ rfl rfl
theorem nb_q_lstore {n : Nat} (hl : cc.data.toList.drop pc = l) (h : nb_y1 55 n l = true) : decode cc pc = .ok (.lstore n, 2) := nb_y1_dec (f := .lstore) hl h _ rfl rfl
theorem nb_q_astore {n : Nat} (hl : cc.data.toList.drop pc = l) (h : nb_y1 58 n l = true) : decode cc pc = .ok (.astore n, 2) := nb_y1_dec (f := .astore) hl h _ rfl rfl
theorem nb_q_ldc_w {n : Nat} (hl : cc.data.toList.drop pc = l) (h : nb_y2 19 n l = true) : decode cc pc = .ok (.ldc_w n, 3) := nb_y2_dec (f := .ldc_w) hl h _ rfl rfl
theorem nb_q_ldc2_w {n : Nat} (hl : cc.data.toList.drop pc = l) (h : nb_y2 20 n l = true) : decode cc pc = .ok (.ldc2_w n, 3) := nb_y2_dec (f := .ldc2_w) hl h _ rfl rfl
theorem nb_q_getfield {n : Nat} (hl : cc.data.toList.drop pc = l) (h : nb_y2 180 n l = true) : decode cc pc = .ok (.getfield n, 3) := nb_y2_dec (f := .getfield) hl h _ rfl rfl
theorem nb_q_putfield {n : Nat} (hl : cc.data.toList.drop pc = l) (h : nb_y2 181 n l = true) : decode cc pc = .ok (.putfield n, 3) := nb_y2_dec (f := .putfield) hl h _ rfl rfl
theorem nb_q_invokevirtual {n : Nat} (hl : cc.data.toList.drop pc = l) (h : nb_y2 182 n l = true) : decode cc pc = .ok (.invokevirtual n, 3) := nb_y2_dec (f := .invokevirtual) hl h _ rfl rfl
theorem nb_q_invokespecial {n : Nat} (hl : cc.data.toList.drop pc = l) (h : nb_y2 183 n l = true) : decode cc pc = .ok (.invokespecial n, 3) := nb_y2_dec (f := .invokespecial) hl h _ rfl rfl
theorem nb_q_invokestatic {n : Nat} (hl : cc.data.toList.drop pc = l) (h : nb_y2 184 n l = true) : decode cc pc = .ok (.invokestatic n, 3) := nb_y2_dec (f := .invokestatic) hl h _ rfl rfl
theorem nb_q_new {n : Nat} (hl : cc.data.toList.drop pc = l) (h : nb_y2 187 n l = true) : decode cc pc = .ok (.new n, 3) := nb_y2_dec (f := .new) hl h _ rfl rfl
theorem nb_q_anewarray {n : Nat} (hl : cc.data.toList.drop pc = l) (h : nb_y2 189 n l = true) : decode cc pc = .ok (.anewarray n, 3) := nb_y2_dec (f := .anewarray) hl h _ rfl rfl
theorem nb_q_sipush {n : Int} (hl : cc.data.toList.drop pc = l) (h : nb_z2 17 n l = true) : decode cc pc = .ok (.sipush n, 3) := nb_z2_dec (f := .sipush) hl h _ rfl rfl
theorem nb_q_goto {n : Int} (hl : cc.data.toList.drop pc = l) (h : nb_z2 167 n l = true) : decode cc pc = .ok (.goto n, 3) := nb_z2_dec (f := .goto) hl h _ rfl rfl
theorem nb_q_ifCond_eq {n : Int} (hl : cc.data.toList.drop pc = l) (h : nb_z2 153 n l = true) : decode cc pc = .ok (.ifCond .eq n, 3) := nb_z2_dec (f := .ifCond .eq) hl h _ rfl rfl
theorem nb_q_ifCond_ne {n : Int} (hl : cc.data.toList.drop pc = l) (h : nb_z2 154 n l = true) : decode cc pc = .ok (.ifCond .ne n, 3) := nb_z2_dec (f := .ifCond .ne) hl h _ rfl rfl
theorem nb_q_ifCond_lt {n : Int} (hl : cc.data.toList.drop pc = l) (h : nb_z2 155 n l = true) : decode cc pc = .ok (.ifCond .lt n, 3) := nb_z2_dec (f := .ifCond .lt) hl h _ rfl rfl
theorem nb_q_ifCond_ge {n : Int} (hl : cc.data.toList.drop pc = l) (h : nb_z2 156 n l = true) : decode cc pc = .ok (.ifCond .ge n, 3) := nb_z2_dec (f := .ifCond .ge) hl h _ rfl rfl
theorem nb_q_ifCond_gt {n : Int} (hl : cc.data.toList.drop pc = l) (h : nb_z2 157 n l = true) : decode cc pc = .ok (.ifCond .gt n, 3) := nb_z2_dec (f := .ifCond .gt) hl h _ rfl rfl
theorem nb_q_ifCond_le {n : Int} (hl : cc.data.toList.drop pc = l) (h : nb_z2 158 n l = true) : decode cc pc = .ok (.ifCond .le n, 3) := nb_z2_dec (f := .ifCond .le) hl h _ rfl rfl
theorem nb_q_if_icmp_eq {n : Int} (hl : cc.data.toList.drop pc = l) (h : nb_z2 159 n l = true) : decode cc pc = .ok (.if_icmp .eq n, 3) := nb_z2_dec (f := .if_icmp .eq) hl h _ rfl rfl
theorem nb_q_if_icmp_ne {n : Int} (hl : cc.data.toList.drop pc = l) (h : nb_z2 160 n l = true) : decode cc pc = .ok (.if_icmp .ne n, 3) := nb_z2_dec (f := .if_icmp .ne) hl h _ rfl rfl
theorem nb_q_if_icmp_lt {n : Int} (hl : cc.data.toList.drop pc = l) (h : nb_z2 161 n l = true) : decode cc pc = .ok (.if_icmp .lt n, 3) := nb_z2_dec (f := .if_icmp .lt) hl h _ rfl rfl
theorem nb_q_if_icmp_ge {n : Int} (hl : cc.data.toList.drop pc = l) (h : nb_z2 162 n l = true) : decode cc pc = .ok (.if_icmp .ge n, 3) := nb_z2_dec (f := .if_icmp .ge) hl h _ rfl rfl
theorem nb_q_if_icmp_gt {n : Int} (hl : cc.data.toList.drop pc = l) (h : nb_z2 163 n l = true) : decode cc pc = .ok (.if_icmp .gt n, 3) := nb_z2_dec (f := .if_icmp .gt) hl h _ rfl rfl
theorem nb_q_if_icmp_le {n : Int} (hl : cc.data.toList.drop pc = l) (h : nb_z2 164 n l = true) : decode cc pc = .ok (.if_icmp .le n, 3) := nb_z2_dec (f := .if_icmp .le) hl h _ rfl rfl
theorem nb_q_bipush {n : Int} (hl : cc.data.toList.drop pc = l) (h : nb_z1 16 n l = true) : decode cc pc = .ok (.bipush n, 2) := nb_z1_dec (f := .bipush) hl h _ rfl rfl
set_option maxHeartbeats 4000000 in
theorem nb_fd_ok {i : Instr} (hl : cc.data.toList.drop pc = l) (h : (nb_fd i l).1 = true) : decode cc pc = .ok (i, (nb_fd i l).2) := by
  cases i
  case iaload => exact nb_q_iaload hl h
  case laload => exact nb_q_laload hl h
  case aaload => exact nb_q_aaload hl h
  case baload => exact nb_q_baload hl h
  case iastore => exact nb_q_iastore hl h
  case lastore => exact nb_q_lastore hl h
  case aastore => exact nb_q_aastore hl h
  case bastore => exact nb_q_bastore hl h
  case pop => exact nb_q_pop hl h
  case dup => exact nb_q_dup hl h
  case dup2 => exact nb_q_dup2 hl h
  case iadd => exact nb_q_iadd hl h
  case ladd => exact nb_q_ladd hl h
  case isub => exact nb_q_isub hl h
  case lsub => exact nb_q_lsub hl h
  case imul => exact nb_q_imul hl h
  case lmul => exact nb_q_lmul hl h
  case idiv => exact nb_q_idiv hl h
  case irem => exact nb_q_irem hl h
  case ineg => exact nb_q_ineg hl h
  case ishl => exact nb_q_ishl hl h
  case lshl => exact nb_q_lshl hl h
  case ishr => exact nb_q_ishr hl h
  case iushr => exact nb_q_iushr hl h
  case iand => exact nb_q_iand hl h
  case ior => exact nb_q_ior hl h
  case lor => exact nb_q_lor hl h
  case ixor => exact nb_q_ixor hl h
  case i2l => exact nb_q_i2l hl h
  case l2i => exact nb_q_l2i hl h
  case i2b => exact nb_q_i2b hl h
  case lcmp => exact nb_q_lcmp hl h
  case ireturn => exact nb_q_ireturn hl h
  case lreturn => exact nb_q_lreturn hl h
  case areturn => exact nb_q_areturn hl h
  case return_ => exact nb_q_return_ hl h
  case arraylength => exact nb_q_arraylength hl h
  case iconst n =>
    have h' : (nb_y0 (n + 3).toNat l && (decide (-1 ≤ n) && decide (n ≤ 5))) = true := h
    simp only [Bool.and_eq_true, decide_eq_true_eq] at h'
    obtain ⟨h1, h2, h3⟩ := h'
    have : n = -1 ∨ n = 0 ∨ n = 1 ∨ n = 2 ∨ n = 3 ∨ n = 4 ∨ n = 5 := by omega
    rcases this with rfl | rfl | rfl | rfl | rfl | rfl | rfl
    · exact nb_q_iconst_m1 hl h1
    · exact nb_q_iconst_0 hl h1
    · exact nb_q_iconst_1 hl h1
    · exact nb_q_iconst_2 hl h1
    · exact nb_q_iconst_3 hl h1
    · exact nb_q_iconst_4 hl h1
    · exact nb_q_iconst_5 hl h1
  case lconst n =>
    match n, h with
    | 0, h => exact nb_q_lconst_0 hl h
    | 1, h => exact nb_q_lconst_1 hl h
  case iload_n n =>
    match n, h with
    | 0, h => exact nb_q_iload_n_0 hl h
    | 1, h => exact nb_q_iload_n_1 hl h
    | 2, h => exact nb_q_iload_n_2 hl h
    | 3, h => exact nb_q_iload_n_3 hl h
  case lload_n n =>
    match n, h with
    | 0, h => exact nb_q_lload_n_0 hl h
    | 1, h => exact nb_q_lload_n_1 hl h
    | 2, h => exact nb_q_lload_n_2 hl h
    | 3, h => exact nb_q_lload_n_3 hl h
  case aload_n n =>
    match n, h with
    | 0, h => exact nb_q_aload_n_0 hl h
    | 1, h => exact nb_q_aload_n_1 hl h
    | 2, h => exact nb_q_aload_n_2 hl h
    | 3, h => exact nb_q_aload_n_3 hl h
  case istore_n n =>
    match n, h with
    | 0, h => exact nb_q_istore_n_0 hl h
    | 1, h => exact nb_q_istore_n_1 hl h
    | 2, h => exact nb_q_istore_n_2 hl h
    | 3, h => exact nb_q_istore_n_3 hl h
  case lstore_n n =>
    match n, h with
    | 0, h => exact nb_q_lstore_n_0 hl h
    | 1, h => exact nb_q_lstore_n_1 hl h
    | 2, h => exact nb_q_lstore_n_2 hl h
    | 3, h => exact nb_q_lstore_n_3 hl h
  case astore_n n =>
    match n, h with
    | 0, h => exact nb_q_astore_n_0 hl h
    | 1, h => exact nb_q_astore_n_1 hl h
    | 2, h => exact nb_q_astore_n_2 hl h
    | 3, h => exact nb_q_astore_n_3 hl h
  case ldc n => exact nb_q_ldc hl h
  case iload n => exact nb_q_iload hl h
  case lload n => exact nb_q_lload hl h
  case aload n => exact nb_q_aload hl h
  case istore n => exact nb_q_istore hl h
  case lstore n => exact nb_q_lstore hl h
  case astore n => exact nb_q_astore hl h
  case ldc_w n => exact nb_q_ldc_w hl h
  case ldc2_w n => exact nb_q_ldc2_w hl h
  case getfield n => exact nb_q_getfield hl h
  case putfield n => exact nb_q_putfield hl h
  case invokevirtual n => exact nb_q_invokevirtual hl h
  case invokespecial n => exact nb_q_invokespecial hl h
  case invokestatic n => exact nb_q_invokestatic hl h
  case new n => exact nb_q_new hl h
  case anewarray n => exact nb_q_anewarray hl h
  case sipush n => exact nb_q_sipush hl h
  case goto n => exact nb_q_goto hl h
  case ifCond q n =>
    cases q
    case eq => exact nb_q_ifCond_eq hl h
    case ne => exact nb_q_ifCond_ne hl h
    case lt => exact nb_q_ifCond_lt hl h
    case ge => exact nb_q_ifCond_ge hl h
    case gt => exact nb_q_ifCond_gt hl h
    case le => exact nb_q_ifCond_le hl h
  case if_icmp q n =>
    cases q
    case eq => exact nb_q_if_icmp_eq hl h
    case ne => exact nb_q_if_icmp_ne hl h
    case lt => exact nb_q_if_icmp_lt hl h
    case ge => exact nb_q_if_icmp_ge hl h
    case gt => exact nb_q_if_icmp_gt hl h
    case le => exact nb_q_if_icmp_le hl h
  case bipush n => exact nb_q_bipush hl h
  case iinc n k => exact nb_zi_dec hl h
  case multianewarray n k => exact nb_zm_dec hl h
  case newarray t =>
    cases t
    case boolean => exact nb_na_dec hl h (Or.inl ⟨rfl, rfl⟩)
    case byte => exact nb_na_dec hl h (Or.inr (Or.inl ⟨rfl, rfl⟩))
    case int => exact nb_na_dec hl h (Or.inr (Or.inr (Or.inl ⟨rfl, rfl⟩)))
    case long => exact nb_na_dec hl h (Or.inr (Or.inr (Or.inr ⟨rfl, rfl⟩)))
    all_goals cases h
  all_goals cases h
end NBZ
