/-! THE START: what holds at the law's entry, printed by wip/gen/mkstart.py -/
def nb_fl : List Cond := flatC (Jvm.Cond.and given_1 narrow_1)
def nb_giv (c : Cond) (j : Nat) : Bool := decide (nb_fl[j]? = some c)
theorem nb_giv_of {args : Array Value} {s : State} (h : (Jvm.Cond.and given_1 narrow_1).before args s = true) {c : Cond} {j : Nat} (hj : nb_giv c j = true) : c.before args s = true := flat_of_before _ h c (List.mem_of_getElem? (of_decide_eq_true hj))
/-- the texts: class, entry, text -/
def nb_sk : List (Nat × Nat × String) := [(0, 0, ""), (9, 129, "house"), (9, 131, "drink"), (9, 133, "staff"), (9, 135, "person"), (9, 137, "shelf"), (9, 139, "says"), (9, 216, "long"), (9, 222, "bell"), (9, 228, "takes"), (9, 230, "then"), (9, 232, "costs"), (9, 234, "row"), (9, 236, "nea\x72"), (9, 238, "eye"), (9, 240, "asked"), (9, 242, "regula\x72"), (9, 244, "at"), (9, 245, "from"), (9, 247, "to"), (9, 249, "step"), (9, 251, "hands"), (9, 253, "honest"), (9, 255, "lia\x72"), (9, 257, "polite"), (9, 259, "comes"), (9, 261, "patience"), (9, 263, "look"), (9, 265, "wants"), (9, 271, "ready"), (9, 276, "before"), (2, 100, "house"), (2, 110, "drink"), (2, 115, "staff"), (2, 119, "person"), (2, 124, "shelf"), (2, 132, "long"), (2, 138, "bell"), (2, 149, "takes"), (2, 151, "then"), (2, 153, "costs"), (2, 166, "at"), (2, 168, "from"), (2, 170, "to"), (2, 172, "step"), (2, 173, "hands"), (2, 201, "comes"), (2, 203, "patience"), (2, 205, "look"), (2, 207, "wants"), (2, 247, "ready"), (2, 255, "before"), (2, 269, "row"), (2, 271, "nea\x72"), (2, 273, "eye"), (2, 275, "asked"), (2, 277, "regula\x72"), (2, 279, "honest"), (2, 281, "lia\x72"), (2, 283, "polite"), (7, 55, "house"), (7, 61, "drink"), (7, 63, "staff"), (7, 65, "person"), (7, 67, "shelf"), (7, 69, "says")]
def nb_stm (k : Nat) : Term := .string (nb_onm (nb_sk.getD k (0, 0, "")).1) (nb_sk.getD k (0, 0, "")).2.1
def nb_sB (k : Nat) (d : Nat × Nat × Nat × Nat × Nat × List Nat) : Bool := nb_wat (.stringRef (nb_onm (nb_sk.getD k (0, 0, "")).1) (nb_sk.getD k (0, 0, "")).2.1 (nb_sk.getD k (0, 0, "")).2.2) d.1 && (nb_giv (.exactly (nb_stm k) "java/lang/String") d.2.1 && (nb_giv (.eq (.field (nb_stm k) "java/lang/String" "code\x72" "B") (.int 0)) d.2.2.1 && (nb_giv (.arrayOf (.field (nb_stm k) "java/lang/String" "value" "[B") .byte) d.2.2.2.1 && (nb_giv (.eq (.length (.field (nb_stm k) "java/lang/String" "value" "[B")) (.int (Int32.ofNat (nb_txts.getD k []).length))) d.2.2.2.2.1 && (decide ((nb_txts.getD k []).length < 100) && nb_all2 (fun i j => nb_giv (.eq (.elem (.field (nb_stm k) "java/lang/String" "value" "[B") (.int (Int32.ofNat i))) (.int (Int32.ofInt ((nb_txts.getD k []).getD i 0)))) j) (List.range (nb_txts.getD k []).length) d.2.2.2.2.2)))))
def nb_sd : List (Nat × Nat × Nat × Nat × Nat × List Nat) := [(6199, 368, 369, 370, 371, [372, 373, 374, 375, 376]), (6232, 397, 398, 399, 400, [401, 402, 403, 404, 405]), (7009, 408, 409, 410, 411, [412, 413, 414, 415, 416]), (7010, 419, 420, 421, 422, [423, 424, 425, 426, 427, 428]), (7011, 431, 432, 433, 434, [435, 436, 437, 438, 439]), (7012, 442, 443, 444, 445, [446, 447, 448, 449]), (6214, 379, 380, 381, 382, [383, 384, 385, 386]), (6231, 388, 389, 390, 391, [392, 393, 394, 395]), (7017, 451, 452, 453, 454, [455, 456, 457, 458, 459]), (7018, 461, 462, 463, 464, [465, 466, 467, 468]), (7019, 470, 471, 472, 473, [474, 475, 476, 477, 478]), (7024, 480, 481, 482, 483, [484, 485, 486]), (7025, 488, 489, 490, 491, [492, 493, 494, 495]), (7026, 497, 498, 499, 500, [501, 502, 503]), (7027, 505, 506, 507, 508, [509, 510, 511, 512, 513]), (7028, 515, 516, 517, 518, [519, 520, 521, 522, 523, 524, 525]), (7029, 527, 528, 529, 530, [531, 532]), (7030, 534, 535, 536, 537, [538, 539, 540, 541]), (7031, 543, 544, 545, 546, [547, 548]), (7032, 550, 551, 552, 553, [554, 555, 556, 557]), (7033, 559, 560, 561, 562, [563, 564, 565, 566, 567]), (7038, 569, 570, 571, 572, [573, 574, 575, 576, 577, 578]), (7039, 580, 581, 582, 583, [584, 585, 586, 587]), (7040, 589, 590, 591, 592, [593, 594, 595, 596, 597, 598]), (7041, 600, 601, 602, 603, [604, 605, 606, 607, 608]), (7042, 610, 611, 612, 613, [614, 615, 616, 617, 618, 619, 620, 621]), (7043, 623, 624, 625, 626, [627, 628, 629, 630]), (7044, 632, 633, 634, 635, [636, 637, 638, 639, 640]), (7061, 642, 643, 644, 645, [646, 647, 648, 649, 650]), (7070, 652, 653, 654, 655, [656, 657, 658, 659, 660, 661]), (3105, 111, 112, 113, 114, [115, 116, 117, 118, 119]), (3129, 137, 138, 139, 140, [141, 142, 143, 144, 145]), (3149, 173, 174, 175, 176, [177, 178, 179, 180, 181]), (3177, 262, 263, 264, 265, [266, 267, 268, 269, 270, 271]), (3213, 339, 340, 341, 342, [343, 344, 345, 346, 347]), (3119, 121, 122, 123, 124, [125, 126, 127, 128]), (3128, 129, 130, 131, 132, [133, 134, 135, 136]), (3146, 147, 148, 149, 150, [151, 152, 153, 154, 155]), (3147, 156, 157, 158, 159, [160, 161, 162, 163]), (3148, 164, 165, 166, 167, [168, 169, 170, 171, 172]), (3163, 225, 226, 227, 228, [229, 230]), (3164, 231, 232, 233, 234, [235, 236, 237, 238]), (3165, 239, 240, 241, 242, [243, 244]), (3166, 245, 246, 247, 248, [249, 250, 251, 252]), (3167, 253, 254, 255, 256, [257, 258, 259, 260, 261]), (3189, 301, 302, 303, 304, [305, 306, 307, 308, 309]), (3190, 310, 311, 312, 313, [314, 315, 316, 317, 318, 319, 320, 321]), (3191, 322, 323, 324, 325, [326, 327, 328, 329]), (3192, 330, 331, 332, 333, [334, 335, 336, 337, 338]), (3218, 349, 350, 351, 352, [353, 354, 355, 356, 357]), (3223, 358, 359, 360, 361, [362, 363, 364, 365, 366, 367]), (3158, 183, 184, 185, 186, [187, 188, 189]), (3159, 190, 191, 192, 193, [194, 195, 196, 197]), (3160, 198, 199, 200, 201, [202, 203, 204]), (3161, 205, 206, 207, 208, [209, 210, 211, 212, 213]), (3162, 214, 215, 216, 217, [218, 219, 220, 221, 222, 223, 224]), (3186, 273, 274, 275, 276, [277, 278, 279, 280, 281, 282]), (3187, 283, 284, 285, 286, [287, 288, 289, 290]), (3188, 291, 292, 293, 294, [295, 296, 297, 298, 299, 300]), (3027, 57, 58, 59, 60, [61, 62, 63, 64, 65]), (3079, 66, 67, 68, 69, [70, 71, 72, 73, 74]), (3080, 75, 76, 77, 78, [79, 80, 81, 82, 83]), (3081, 84, 85, 86, 87, [88, 89, 90, 91, 92, 93]), (3082, 94, 95, 96, 97, [98, 99, 100, 101, 102]), (3083, 103, 104, 105, 106, [107, 108, 109, 110])]
theorem nb_sall : nb_all2 nb_sB (List.range' 1 65) nb_sd = true := by decide +kernel
theorem nb_txts_len : nb_txts.length = 66 := by decide +kernel
def nb_tieB (own : Nat) (q : Nat × nb_V) : Bool := match q.2.1 with
  | 2 => decide (1 ≤ q.2.2.toNat) && (decide (q.2.2.toNat < 66) && decide ((nb_sk.getD q.2.2.toNat (0, 0, "")).1 = own ∧ (nb_sk.getD q.2.2.toNat (0, 0, "")).2.1 = q.1))
  | _ => true
theorem nb_tie : (List.range 14).all (fun own => (nb_csts.getD own []).all (nb_tieB own)) = true := by decide +kernel
theorem nb_csts_len : nb_csts.length = 14 := by decide +kernel
theorem nb_str_at {args : Array Value} {s : State} (h : (Jvm.Cond.and given_1 narrow_1).before args s = true) {k : Nat} (h1 : 1 ≤ k) (h2 : k < nb_txts.length) : ∃ q : Nat × Nat, (nb_stm k).eval args s none [] s = some (.ref q.1) ∧ va_O "java/lang/String" q.1 (fun q => s.heap.size ≤ q) s s.heap ∧ va_OF "java/lang/String" "code\x72" "B" (.int 0) q.1 (fun q => s.heap.size ≤ q) s s.heap ∧ va_OF "java/lang/String" "value" "[B" (.ref q.2) q.1 (fun q => s.heap.size ≤ q) s s.heap ∧ va_T .byte q.2 (nb_txts.getD k []).length (fun j => .int (Int32.ofInt ((nb_txts.getD k []).getD j 0))) (fun q => s.heap.size ≤ q) s s.heap := by
  rw [nb_txts_len] at h2
  obtain ⟨d, hd⟩ := nb_all2_mem nb_sall k (List.mem_range'_1.mpr ⟨h1, by omega⟩)
  unfold nb_sB at hd
  simp only [Bool.and_eq_true, decide_eq_true_eq] at hd
  obtain ⟨-, d1, d2, d3, d4, d5, d6⟩ := hd
  have hA : ∀ a : Nat, a < s.heap.size → ¬ s.heap.size ≤ a := fun a h => by omega
  obtain ⟨a, c, cA, kA, q1, q2, q3, q4, q5, q6, -⟩ := Cond.exactly_spec (args := args) (first := s) (o := none) (s := s) (idx := []) (t := nb_stm k) (cls := "java/lang/String") (nb_giv_of h d1)
  obtain ⟨t, ht, hT⟩ := va_Tof (f := fun j => .int (Int32.ofInt ((nb_txts.getD k []).getD j 0))) (A := fun q => s.heap.size ≤ q) (show (nb_txts.getD k []).length < 2 ^ 31 by omega) (nb_giv_of h d3) (va_eqt (nb_giv_of h d4)) (fun j hj => by
    obtain ⟨j', hj'⟩ := nb_all2_mem d6 j (List.mem_range.mpr hj)
    exact va_eqt (nb_giv_of h hj')) hA
  exact ⟨(a, t), q1, ⟨cA, q3, q5, by rw [q6]; exact q2, hA a (Array.getElem?_eq_some_iff.mp q3).1⟩, vk_OFof q1 (va_eqt (nb_giv_of h d2)) hA, vk_OFof q1 ht hA, hT⟩
theorem nb_strw {k : Nat} (h1 : 1 ≤ k) (h2 : k < nb_txts.length) : Cond.stringRef (nb_onm (nb_sk.getD k (0, 0, "")).1) (nb_sk.getD k (0, 0, "")).2.1 (nb_sk.getD k (0, 0, "")).2.2 ∈ lw_tbl := by
  rw [nb_txts_len] at h2
  obtain ⟨d, hd⟩ := nb_all2_mem nb_sall k (List.mem_range'_1.mpr ⟨h1, by omega⟩)
  unfold nb_sB at hd
  simp only [Bool.and_eq_true] at hd
  exact nb_wat_mem hd.1
theorem nb_tie_of {own n : Nat} {k : Int} (h : nb_P.2.1 own n = some (2, k)) : 1 ≤ k.toNat ∧ k.toNat < nb_txts.length ∧ (nb_sk.getD k.toNat (0, 0, "")).1 = own ∧ (nb_sk.getD k.toNat (0, 0, "")).2.1 = n := by
  have h' : (nb_csts.getD own []).lookup n = some (2, k) := h
  have hown : own < 14 := by
    rcases Nat.lt_or_ge own 14 with q | q
    · exact q
    · rw [List.getD_eq_getElem?_getD, List.getElem?_eq_none (by rw [nb_csts_len]; exact q)] at h'
      cases h'
  have := List.all_eq_true.mp (List.all_eq_true.mp nb_tie own (List.mem_range.mpr hown)) _ (nb_lookup_mem h')
  unfold nb_tieB at this
  simp only [Bool.and_eq_true, decide_eq_true_eq] at this
  rw [nb_txts_len]
  exact ⟨this.1, this.2.1, this.2.2.1, this.2.2.2⟩
def nb_AR (s : State) (k : Nat) (c : ClassId) : Prop := ∃ (kA : Class) (comp : ClassId), s.vm.classes[c]? = some kA ∧ kA.kind = .array comp (nb_aty k) ∧ s.vm.findClass ("[" ++ (nb_aty k).toString) = some c ∧ (4 ≤ k → s.vm.findClass (match k with | 4 => RX0 | 5 => RX5 | 6 => RX4 | _ => (FieldType.array .int).toString) = some comp)
theorem nb_arr_at {args : Array Value} {s : State} (hts : ∀ w ∈ lw_tbl, w.before args s = true) : ∀ k, k < 8 → ∃ c, nb_AR s k c := by
  have harr : ∀ kd, kd < 4 → ∃ c, nb_AR s kd c := by
    intro kd hk
    have hw : Cond.arrayClass (nb_aty kd) ∈ nb_Ts := (nb_tok_all 0 (by decide)).2.2.2 kd hk
    obtain ⟨c, k, comp, h1, h2, h3⟩ := Cond.arrayClass_spec (hts _ (List.mem_filter.mp hw).1)
    exact ⟨c, k, comp, h2, h3, h1, fun q => by omega⟩
  have hov : ∀ kd : Nat, kd = 4 ∨ kd = 5 ∨ kd = 6 → Cond.arrayOver (nb_aty kd) ∈ lw_tbl := by
    intro kd hkd
    obtain ⟨j', hj'⟩ := nb_all2_mem nb_ov kd (by rcases hkd with rfl | rfl | rfl <;> simp)
    exact nb_wat_mem hj'
  intro k hk
  match k, hk with
  | 0, _ => exact harr 0 (by decide)
  | 1, _ => exact harr 1 (by decide)
  | 2, _ => exact harr 2 (by decide)
  | 3, _ => exact harr 3 (by decide)
  | 4, _ =>
    obtain ⟨comp, c, k, g1, -, g3, g4, g5⟩ := Cond.arrayOver_spec (n := RX0) (hts _ (hov 4 (Or.inl rfl)))
    exact ⟨c, k, comp, g3, g4, g5, fun _ => g1⟩
  | 5, _ =>
    obtain ⟨comp, c, k, g1, -, g3, g4, g5⟩ := Cond.arrayOver_spec (n := RX5) (hts _ (hov 5 (Or.inr (Or.inl rfl))))
    exact ⟨c, k, comp, g3, g4, g5, fun _ => g1⟩
  | 6, _ =>
    obtain ⟨comp, c, k, g1, -, g3, g4, g5⟩ := Cond.arrayOver_spec (n := RX4) (hts _ (hov 6 (Or.inr (Or.inr rfl))))
    exact ⟨c, k, comp, g3, g4, g5, fun _ => g1⟩
  | 7, _ =>
    obtain ⟨comp, c, k, g1, -, g3, g4, g5⟩ := nb_over_spec (ty := .int) (hts _ (nb_wat_mem (j := 1038) (by decide +kernel)))
    exact ⟨c, k, comp, g3, g4, g5, fun _ => g1⟩
theorem nb_cls_at {args : Array Value} {s : State} (hts : ∀ w ∈ lw_tbl, w.before args s = true) : ∀ i : Nat, ∃ q : ClassId × (Nat → Nat), ∀ z, vwCl[i]? = some z → u_Kn s z.1 z.2.1 z.2.2 q.1 q.2 := by
  intro i
  cases hz : vwCl[i]? with
  | none => exact ⟨(0, fun _ => 0), fun z h => by cases h⟩
  | some z =>
    have key : ∃ n, Cond.instantiable z.1 n ∈ lw_tbl := by
      have hi : i < 10 := (List.getElem?_eq_some_iff.mp hz).1
      match i, hi, hz with
      | 0, _, hz => cases hz; exact ⟨15, nb_wat_mem (j := 1043) (by decide +kernel)⟩
      | 1, _, hz => cases hz; exact ⟨16, nb_wat_mem (j := 1032) (by decide +kernel)⟩
      | 2, _, hz => cases hz; exact ⟨11, nb_wat_mem (j := 2025) (by decide +kernel)⟩
      | 3, _, hz => cases hz; exact ⟨4, nb_wat_mem (j := 2138) (by decide +kernel)⟩
      | 4, _, hz => cases hz; exact ⟨9, nb_wat_mem (j := 2091) (by decide +kernel)⟩
      | 5, _, hz => cases hz; exact ⟨8, nb_wat_mem (j := 1132) (by decide +kernel)⟩
      | 6, _, hz => cases hz; exact ⟨1, nb_wat_mem (j := 2158) (by decide +kernel)⟩
      | 7, _, hz => cases hz; exact ⟨4, nb_wat_mem (j := 2031) (by decide +kernel)⟩
      | 8, _, hz => cases hz; exact ⟨18, nb_wat_mem (j := 1024) (by decide +kernel)⟩
      | 9, _, hz => cases hz; exact ⟨35, nb_wat_mem (j := 6046) (by decide +kernel)⟩
    obtain ⟨n, hn⟩ := key
    obtain ⟨cC, iS, h⟩ := u_known (ws := nb_Ts) (fun w hw => hts w (List.mem_filter.mp hw).1) (nb_uws hz) (hts _ hn)
    exact ⟨(cC, iS), fun z' h' => by cases h'; exact h⟩
theorem nb_apart {args : Array Value} {s : State} (hts : ∀ w ∈ lw_tbl, w.before args s = true) {C : String} {T : u_T} {N : Nat} {cC : ClassId} {iS : Nat → Nat} (ty : Nat → FieldType) (hin : ∀ w ∈ u_ws C T N, w ∈ nb_Ts) (hty : ∀ k, k < N → parseFieldDescriptor (T k).2.2.1 = some (ty k)) (hnm : ∀ a, a < N → ∀ b, b < N → a ≠ b → (T a).2.1 ≠ (T b).2.1) (hK : u_Kn s C T N cC iS) : ∀ x y, x < N → y < N → x ≠ y → iS x ≠ iS y := by
  intro x y hx hy hne
  obtain ⟨hS, -⟩ := hK
  obtain ⟨_, _, _, fa, hia, ea⟩ := hS x hx
  obtain ⟨_, _, _, fb, hib, eb⟩ := hS y hy
  rw [← ea, ← eb]
  have hts' : ∀ w ∈ nb_Ts, w.before args s = true := fun w hw => hts w (List.mem_filter.mp hw).1
  refine u_apart (u_lays hts' hin hx) (u_lays hts' hin hy) hia hib ?_
  rw [(State.fieldFound?_type hia (hty x hx)).1, (State.fieldFound?_type hib (hty y hy)).1]
  exact hnm x hx y hy hne
theorem nb_stw_ot {w : Cond} (h : nb_stw w = true) {A : Array Value} {s : State} (hb : w.before A s = true) : w.before #[] s = true := by
  unfold nb_stw at h
  split at h
  · exact va_Nw.of rfl hb
  · exact Cond.arrayOver_alike (State.WarmedH.refl s).alike hb
  · exact nb_over_alike (State.WarmedH.refl s).alike hb
  · exact va_Nw.of rfl hb
  · exact va_Nw.of rfl hb
  · exact word_at (State.WarmedH.refl s) (good_of_word h) hb
set_option maxHeartbeats 1000000 in
/-- the program stands in the heap at the law's entry -/
theorem nb_S0 {p : Program} {s : State} {m : MethodId} {meth : Method} {c : Code} {b L : Nat} {xs : Nat → Int32} (C0 : lw_At p s m meth c b L xs) : ∃ (cls : Nat → ClassId) (slots : Nat → Nat → Nat) (strs : Nat → Nat), nb_S (b, s.heap.size, s.heap, cls, slots, strs) s := by
  obtain ⟨hx, hb, hr, hml, hown, hts, hX, hbl, hlocks, hgv⟩ := C0
  obtain ⟨ad, had⟩ := Classical.axiomOfChoice (fun k : Nat => (show ∃ q : Nat × Nat, 1 ≤ k ∧ k < nb_txts.length → (nb_stm k).eval #[Value.ref b] s none [] s = some (.ref q.1) ∧ va_O "java/lang/String" q.1 (fun q => s.heap.size ≤ q) s s.heap ∧ va_OF "java/lang/String" "code\x72" "B" (.int 0) q.1 (fun q => s.heap.size ≤ q) s s.heap ∧ va_OF "java/lang/String" "value" "[B" (.ref q.2) q.1 (fun q => s.heap.size ≤ q) s s.heap ∧ va_T .byte q.2 (nb_txts.getD k []).length (fun j => .int (Int32.ofInt ((nb_txts.getD k []).getD j 0))) (fun q => s.heap.size ≤ q) s s.heap by
    by_cases hk : 1 ≤ k ∧ k < nb_txts.length
    · obtain ⟨q, hq⟩ := nb_str_at hgv hk.1 hk.2
      exact ⟨q, fun _ => hq⟩
    · exact ⟨(0, 0), fun h => absurd h hk⟩))
  obtain ⟨cl, hcl⟩ := Classical.axiomOfChoice (nb_cls_at hts)
  obtain ⟨ar, har⟩ := Classical.axiomOfChoice (fun k : Nat => (show ∃ c : ClassId, k < 8 → nb_AR s k c by
    by_cases hk : k < 8
    · obtain ⟨c, hc⟩ := nb_arr_at hts k hk
      exact ⟨c, fun _ => hc⟩
    · exact ⟨0, fun h => absurd h hk⟩))
  have hA : ∀ a : Nat, a < s.heap.size → ¬ s.heap.size ≤ a := fun a h => by omega
  refine ⟨fun k => if k < 8 then ar k else (cl (k - 8)).1, fun i => (cl i).2, fun k => (ad k).1, fun w hw hs => nb_stw_ot hs (hts w hw), fun i q hq => ?_, fun k hk => ?_, fun scr hscr => ?_, ⟨fun own n k hk => ?_, fun k h1 h2 => ?_, ?_, ?_, ?_, ?_⟩, fun i q hq => ?_⟩
  · have := hcl i q hq
    show u_Kn s q.1 q.2.1 q.2.2 (if 8 + i < 8 then _ else (cl (8 + i - 8)).1) _
    rw [if_neg (by omega), show 8 + i - 8 = i by omega]
    exact this
  · obtain ⟨kA, comp, h1, h2, h3, h4⟩ := har k hk
    by_cases h4k : 4 ≤ k
    · have hcomp := h4 h4k
      obtain ⟨kc, hkc, -⟩ := Vm.findClass_spec hcomp
      refine ⟨kA, comp, kc, by show s.vm.classes[if k < 8 then ar k else _]? = _; rw [if_pos hk]; exact h1, h2, fun _ => hkc, by show _ = some (if k < 8 then ar k else _); rw [if_pos hk]; exact h3, fun _ => ?_⟩
      have hcase : k = 4 ∨ k = 5 ∨ k = 6 ∨ k = 7 := by omega
      rcases hcase with rfl | rfl | rfl | rfl
      · exact Option.some.inj (hcomp.symm.trans (hcl 0 _ rfl).2.1)
      · exact Option.some.inj (hcomp.symm.trans (hcl 5 _ rfl).2.1)
      · exact Option.some.inj (hcomp.symm.trans (hcl 4 _ rfl).2.1)
      · obtain ⟨kA0, comp0, -, -, g3, -⟩ := har 0 (by decide)
        exact Option.some.inj (hcomp.symm.trans g3)
    · exact ⟨kA, comp, kA, by show s.vm.classes[if k < 8 then ar k else _]? = _; rw [if_pos hk]; exact h1, h2, fun q => absurd q h4k, by show _ = some (if k < 8 then ar k else _); rw [if_pos hk]; exact h3, fun q => absurd q h4k⟩
  · obtain ⟨scr', g1, g2, -⟩ := hX
    cases g1.symm.trans hscr
    exact g2
  · obtain ⟨t1, t2, t3, t4⟩ := nb_tie_of hk
    have hw := nb_strw t1 t2
    have he := (had k.toNat ⟨t1, t2⟩).1
    unfold nb_stm at he
    rw [t3, t4] at hw he
    exact ⟨_, vk_R.of (hts _ hw) he⟩
  · obtain ⟨-, a2, a3, a4, a5⟩ := had k ⟨h1, h2⟩
    exact ⟨(ad k).2, a2, a3, a4, a5⟩
  · exact va_Zof (hts _ (nb_wat_mem (j := 3040) (by decide +kernel))) (hts _ (nb_wat_mem (j := 1011) (by decide +kernel))) (va_eqi (nb_giv_of hgv (j := 4) (by decide +kernel))) hA
  · exact va_Zqof (hts _ (nb_wat_mem (j := 3056) (by decide +kernel))) (hts _ (nb_wat_mem (j := 1013) (by decide +kernel))) (nb_giv_of hgv (j := 5) (by decide +kernel)) hA
  · exact vx_Zqof (hts _ (nb_wat_mem (j := 6011) (by decide +kernel))) (hts _ (nb_wat_mem (j := 1019) (by decide +kernel))) (nb_giv_of hgv (j := 9) (by decide +kernel)) hA
  · exact vx_Zqof (hts _ (nb_wat_mem (j := 6013) (by decide +kernel))) (hts _ (nb_wat_mem (j := 1019) (by decide +kernel))) (nb_giv_of hgv (j := 10) (by decide +kernel)) hA
  · have hk := hcl i q hq
    have hi : i < 10 := (List.getElem?_eq_some_iff.mp hq).1
    have hu := nb_uws hq
    match i, hi, hq with
    | 0, _, hq => cases hq; exact ⟨nb_apart hts tyX0 hu tyX0_ok nmX0 hk, rfl⟩
    | 1, _, hq => cases hq; exact ⟨nb_apart hts tyX1 hu tyX1_ok nmX1 hk, rfl⟩
    | 2, _, hq => cases hq; exact ⟨nb_apart hts tyX2 hu tyX2_ok nmX2 hk, rfl⟩
    | 3, _, hq => cases hq; exact ⟨nb_apart hts tyX3 hu tyX3_ok nmX3 hk, rfl⟩
    | 4, _, hq => cases hq; exact ⟨nb_apart hts tyX4 hu tyX4_ok nmX4 hk, rfl⟩
    | 5, _, hq => cases hq; exact ⟨nb_apart hts tyX5 hu tyX5_ok nmX5 hk, rfl⟩
    | 6, _, hq => cases hq; exact ⟨nb_apart hts tyX6 hu tyX6_ok nmX6 hk, rfl⟩
    | 7, _, hq => cases hq; exact ⟨nb_apart hts tyX7 hu tyX7_ok nmX7 hk, rfl⟩
    | 8, _, hq => cases hq; exact ⟨nb_apart hts tyX8 hu tyX8_ok nmX8 hk, rfl⟩
    | 9, _, hq => cases hq; exact ⟨nb_apart hts tyX9 hu tyX9_ok nmX9 hk, rfl⟩
/-- memory at the law's entry: the script -/
def nb_M0 (L : Nat) (xs : Nat → Int32) : nb_M := (fun a i => if a = 1 ∧ 0 ≤ i ∧ i < (L : Int) then (xs i.toNat).toInt else 0, [(0, 0), (0, L)], 0, 0)
theorem nb_H0 {s : State} {b L : Nat} {xs : Nat → Int32} {cls : Nat → ClassId} {slots : Nat → Nat → Nat} {strs : Nat → Nat} (hL : L ≤ 3072) (hX : va_X b L xs s s.heap) (hbl : b < s.heap.size) : nb_H (b, s.heap.size, s.heap, cls, slots, strs) (nb_M0 L xs) s.heap := by
  obtain ⟨scr, g1, g2, g3, g4, g5⟩ := hX
  refine ⟨Nat.le_refl 2, ⟨Nat.le_refl _, fun _ => rfl⟩, fun q _ => rfl, fun a k n ha hs => ?_, fun a i ha => ?_, hbl, L, scr, rfl, by omega, g1, g3, g4, fun j hj => ?_⟩
  · have : a < 2 := (List.getElem?_eq_some_iff.mp hs).1
    omega
  · refine if_neg (fun q => ?_)
    have ha' : ((2 : Nat) : Int) ≤ a := ha
    omega
  · have hv : (nb_M0 L xs).1 1 (j : Int) = (xs j).toInt := by
      show (if _ then _ else _) = _
      rw [if_pos ⟨rfl, by omega, by omega⟩]
      rfl
    rw [hv, g5 j hj, nb_val_i]
    exact ⟨rfl, nb_ok_i _ _⟩
def nb_LX : nb_X := (10, 7, 2, 1, 17)
theorem nb_LX_eq : nb_P.2.2.2.2.1 293 = some nb_LX := by decide +kernel
set_option maxHeartbeats 1000000 in
/-- the law's walk out of its meaning -/
theorem nb_start {p : Program} {e : Env} {s : State} {m : MethodId} {below : List Frame} {meth : Method} {c : Code} (l : Launch) (hflags : l.flags = flags0) {b L : Nat} {xs : Nat → Int32} (hL : L ≤ 3072) (C0 : lw_At p s m meth c b L xs) {Mf : nb_M} (hrun : nb_R nb_P 293 0 (nb_ent [(3, 1)] 7) [] (nb_M0 L xs) = some ([(0, 1)], Mf)) (hcz : nb_cz Mf ≤ 601000) (hsz : nb_sz Mf ≤ 7293000) : W p l e room_1 s m #[Value.ref b] below meth c s.heap [] 0 0 (lw_Z below #[Value.ref b] s) (entryFrame m ([Value.ref b] : List Value).toArray 7) := by
  obtain ⟨cls, slots, strs, hS⟩ := nb_S0 C0
  obtain ⟨hx, hb, hr, hml, hown, hts, hX, hbl, hlocks, hgv⟩ := C0
  have hH := nb_H0 (cls := cls) (slots := slots) (strs := strs) hL hX hbl
  have hlt : l.stackTraces = false := by
    unfold Launch.stackTraces
    rw [hflags]
    decide +kernel
  obtain ⟨n, hn⟩ := nb_R_iff.mp hrun
  have hv1 : nb_val (b, s.heap.size, s.heap, cls, slots, strs) (3, 1) = .ref b := rfl
  have hok : ∀ v ∈ [((3 : Nat), (1 : Int))], nb_ok (nb_M0 L xs) v := fun v hv => by
    rw [List.mem_singleton.mp hv]
    exact Or.inr ⟨by decide, L, rfl⟩
  have hB : ∃ B, nb_P.2.2.2.1 293 0 = some B ∧ B.1 = 0 := ⟨_, rfl, rfl⟩
  obtain ⟨B, hB, hB0⟩ := hB
  have hgo := nb_sound hlt n 293 nb_LX 0 B (nb_ent [(3, 1)] 7) [] (nb_M0 L xs) ([(0, 1)], Mf) nb_LX_eq hB (by decide +kernel) hn p e room_1 s m #[Value.ref b] below meth c (b, s.heap.size, s.heap, cls, slots, strs) (nb_cz (nb_M0 L xs)) (nb_sz (nb_M0 L xs))
    ⟨yL_law, cL_law, some .boolean, rfl, rfl, rfl, hx, hb, hml, hr, hlocks, hown, hS, fun q => absurd q (by decide +kernel)⟩ ⟨by decide +kernel, by decide +kernel, by show nb_cz Mf - _ ≤ 601024; omega, by show nb_sz Mf - _ ≤ 7293034; omega⟩ ⟨Nat.le_refl _, Nat.le_refl _⟩ _ s.heap [] (nb_LR_entry (vs := [(3, 1)]) (by decide) hok) (fun v hv => by cases hv) hH (fun q hq => by cases hq)
  rw [lg_entry_eq]
  rw [hB0] at hgo
  intro T hT X
  have X' : Stand p l e room_1 s m #[Value.ref b] below meth c T [] (nb_cz (nb_M0 L xs) - nb_cz (nb_M0 L xs)) (nb_sz (nb_M0 L xs) - nb_sz (nb_M0 L xs)) := by
    rw [Nat.sub_self, Nat.sub_self]
    exact X
  obtain ⟨t, t1, o, b1, b2, ⟨q1, -, -, -⟩, L', q5, q6⟩ := hgo T hT X'
  refine ⟨t, t1, o, b1, b2, q1, ⟨_, q1⟩, q5.2.1, q5.2.2.weaken (fun x hx hlt' => absurd hlt' ?_) (by show nb_cz Mf - _ ≤ _; omega) (by show nb_sz Mf - _ ≤ _; omega)⟩
  have := q6 x hx
  show ¬ x.base < s.heap.size
  exact Nat.not_lt.mpr this
