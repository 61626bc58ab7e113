/-! CALL: feed -/
theorem pu_byte (v : Int) : (0 ≤ nb_and v 255 ∧ nb_and v 255 ≤ 255) ∧ nb_i2b (nb_i2b v) = if nb_and v 255 < 128 then nb_and v 255 else nb_and v 255 - 256 := by
  have e1 : nb_i2b (nb_i2b v) = ((Int32.ofInt v).toInt.bmod (2 ^ 8)) := by
    unfold nb_i2b
    rw [nb_o32, Int8.toInt_toInt32, Int32.toInt_toInt8, Int8.toInt_toInt32, Int32.toInt_toInt8, Int.bmod_bmod]
  have e2 : nb_and v 255 = ((Int32.ofInt v).toBitVec.toNat % 256 : Nat) := by
    unfold nb_and
    generalize Int32.ofInt v = x
    show (x &&& Int32.ofInt 255).toBitVec.toInt = _
    rw [Int32.toBitVec_and, BitVec.toInt_eq_toNat_cond, BitVec.toNat_and]
    have e255 : (Int32.ofInt 255).toBitVec.toNat = 2 ^ 8 - 1 := by decide
    rw [e255, Nat.and_two_pow_sub_one_eq_mod]
    rw [if_pos (by omega)]
  have e3 : (Int32.ofInt v).toInt = if 2 * (Int32.ofInt v).toBitVec.toNat < 2 ^ 32 then ((Int32.ofInt v).toBitVec.toNat : Int) else ((Int32.ofInt v).toBitVec.toNat : Int) - (2 ^ 32 : Nat) := BitVec.toInt_eq_toNat_cond _
  rw [e1, e2, e3, Int.bmod_def]
  generalize (Int32.ofInt v).toBitVec.toNat = m
  refine ⟨by omega, ?_⟩
  split <;> split <;> split <;> omega
/-- the tape of one side behind q more signs B -/
def pu_fd (o tp at' : Int) (t : Int) (B : Int → Int) (M M' : nb_M) (q : Int) : Prop := nb_Lay M' ∧ M'.2 = M.2 ∧ (∀ a, a ≠ o → a ≠ tp → M'.1 a = M.1 a) ∧ (∀ i, i ≠ at' → M'.1 o i = M.1 o i) ∧ M'.1 o at' = t + q ∧ ∀ i, M'.1 tp i = if t ≤ i ∧ i < t + q then B (i - t) else M.1 tp i
theorem pu_fd.id {o tp at' t : Int} {B : Int → Int} {M : nb_M} (W : nb_Lay M) (h : M.1 o at' = t) : pu_fd o tp at' t B M M 0 := ⟨W, rfl, fun _ _ _ => rfl, fun _ _ => rfl, by omega, fun i => by rw [if_neg (by omega)]⟩
theorem pu_fd.step {o tp at' t q v : Int} {B : Int → Int} {M M' : nb_M} (h : pu_fd o tp at' t B M M' q) (hq : 0 ≤ q) (hne : o ≠ tp) (hv : v = B q) (W1 : ∀ M i v, nb_Lay M → nb_Lay (nb_wr M tp i v)) (W2 : ∀ M v, nb_Lay M → nb_Lay (nb_wr M o at' v)) : pu_fd o tp at' t B M (nb_wr (nb_wr M' tp (t + q) v) o at' (t + q + 1)) (q + 1) := by
  obtain ⟨h1, h2, h3, h4, h5, h6⟩ := h
  refine ⟨W2 _ _ (W1 _ _ _ h1), h2, fun a x y => ?_, fun i x => ?_, ?_, fun i => ?_⟩
  · rw [nb_wr_b x, nb_wr_b y]; exact h3 a x y
  · rw [nb_wr_1, if_neg (by omega), nb_wr_b hne]; exact h4 i x
  · rw [nb_wr_1, if_pos ⟨rfl, rfl⟩]; omega
  · rw [nb_wr_b (by omega), nb_wr_1]
    by_cases c : i = t + q
    · rw [if_pos ⟨rfl, c⟩, if_pos (by omega), hv, c, show t + q - t = q by omega]
    · rw [if_neg (by omega), h6 i]
      by_cases c2 : t ≤ i ∧ i < t + q
      · rw [if_pos c2, if_pos (by omega)]
      · rw [if_neg c2, if_neg (by omega)]
theorem sp_c_putBytes {M M' : nb_M} {t q a : Int} {B : Int → Int} (h : pu_fd 2 3 1 t B M M' q) (hq : 0 ≤ q) (ht : 0 ≤ t ∧ t + q + 4 ≤ 1000) (hB : B q = nb_i2b (nb_i2b (nb_shr a 24)) ∧ B (q + 1) = nb_i2b (nb_i2b (nb_shr a 16)) ∧ B (q + 2) = nb_i2b (nb_i2b (nb_shr a 8)) ∧ B (q + 3) = nb_i2b (nb_i2b (nb_shr a 0))) : nb_W 3 0 [(19, 2), (0, a), (98, 0)] [] M' (fun r' N => r' = [] ∧ pu_fd 2 3 1 t B M N (q + 4)) := by
  have A1 : ∀ M i v, nb_Lay M → nb_Lay (nb_wr M 3 i v) := fun M i v W => W.wr (fun w => nb_nnum (by decide) (by decide))
  have A2 : ∀ M v, nb_Lay M → nb_Lay (nb_wr M 2 1 v) := fun M v W => W.wr (fun w => nb_nlit (by decide) (by decide))
  refine w_c_putBytes_0 h.1 (w_c_putBytes_1 h.1 (by decide) ⟨fun z => absurd z (by decide), fun _ => ?_⟩)
  have h1 := h.step hq (by decide) hB.1.symm A1 A2
  rw [h.2.2.2.2.1]
  refine ⟨by omega, by omega, fun _ => ?_, fun z => absurd z (by omega)⟩
  rw [show (24 : Int) - 8 = 16 from rfl]
  refine w_c_putBytes_1 h1.1 (by decide) ⟨fun z => absurd z (by decide), fun _ => ?_⟩
  have h2 := h1.step (by omega) (by decide) hB.2.1.symm A1 A2
  rw [show q + 1 + 1 = q + 2 by omega] at h2
  rw [h1.2.2.2.2.1]
  refine ⟨by omega, by omega, fun _ => ?_, fun z => absurd z (by omega)⟩
  rw [show (16 : Int) - 8 = 8 from rfl]
  refine w_c_putBytes_1 h2.1 (by decide) ⟨fun z => absurd z (by decide), fun _ => ?_⟩
  have h3 := h2.step (by omega) (by decide) hB.2.2.1.symm A1 A2
  rw [show q + 2 + 1 = q + 3 by omega] at h3
  rw [h2.2.2.2.2.1]
  refine ⟨by omega, by omega, fun _ => ?_, fun z => absurd z (by omega)⟩
  rw [show (8 : Int) - 8 = 0 from rfl]
  refine w_c_putBytes_1 h3.1 (by decide) ⟨fun z => absurd z (by decide), fun _ => ?_⟩
  have h4 := h3.step (by omega) (by decide) hB.2.2.2.symm A1 A2
  rw [show q + 3 + 1 = q + 4 by omega] at h4
  rw [h3.2.2.2.2.1]
  refine ⟨by omega, by omega, fun _ => ?_, fun z => absurd z (by omega)⟩
  rw [show (0 : Int) - 8 = -8 from rfl]
  exact w_c_putBytes_1 h4.1 (by decide) ⟨fun _ _ => ⟨rfl, h4⟩, fun z => absurd z (by decide)⟩
/-- the twenty signs of five numbers -/
def pu_fe (a b c d e : Int) (j : Int) : Int := nb_shr (if j < 4 then a else if j < 8 then b else if j < 12 then c else if j < 16 then d else e) (nb_sub 24 (nb_mul 8 (nb_rem j 4)))
theorem pr_feed {a b c d e : Int} : pu_pair 2 [(19, 2), (0, a), (0, b), (0, c), (0, d), (0, e)] 87 [(20, 603), (0, a), (0, b), (0, c), (0, d), (0, e), (98, 0), (98, 0)] := by
  intro M k hI k0 k1
  have hI' := hI
  obtain ⟨hL, ⟨t1, t2, t3, t4, t5⟩, ⟨i1, i2, i3⟩, ⟨Ho, So, ⟨s1, s2, s3, s4, s5⟩, ⟨u1, u2, u3, u4⟩, ⟨m1, m2, m3⟩⟩, ⟨r1, r2, r3⟩, i7⟩ := hI'
  refine w_c_feed_0 hL ?_
  rw [t2]
  refine ⟨t1.1, t1.2, fun c1 _ => ⟨⟨hL, rfl, rfl⟩, -1, rfl, ?_⟩, fun c1 => ?_⟩
  · have e : nb_W 87 0 [(20, 603), (0, a), (0, b), (0, c), (0, d), (0, e), (98, 0), (98, 0)] [] M (fun r2 M2 => r2 = [(0, -1)] ∧ pu_MQ M M2 (M.1 2 15)) := w_m_feed_0 hL ⟨t1.1, t1.2, fun _ hL2 => ⟨rfl, pu_MQ_th i7 r1.symm hL2⟩, fun z => absurd z (by omega)⟩
    refine nb_W.imp e ?_
    rintro r2 M2 ⟨rfl, hm⟩
    exact ⟨rfl, pu_I_q hI (pu_CQ_id hL) hm (fun z => r1.symm.trans z), hm.2.1, hm.row1⟩
  have h0 : pu_fd 2 3 1 (M.1 603 2) (fun j => nb_i2b (nb_i2b (pu_fe a b c d e j))) M M 0 := pu_fd.id hL t2
  refine nb_W.imp (sp_c_putBytes (a := a) h0 (by decide) (by omega) ⟨rfl, rfl, rfl, rfl⟩) ?_
  rintro r1' M1 ⟨rfl, h1⟩
  refine ⟨rfl, h1.1, nb_W.imp (sp_c_putBytes (a := b) h1 (by decide) (by omega) ⟨rfl, rfl, rfl, rfl⟩) ?_⟩
  rintro r1' M2 ⟨rfl, h2⟩
  refine ⟨rfl, h2.1, nb_W.imp (sp_c_putBytes (a := c) h2 (by decide) (by omega) ⟨rfl, rfl, rfl, rfl⟩) ?_⟩
  rintro r1' M3 ⟨rfl, h3⟩
  refine ⟨rfl, h3.1, nb_W.imp (sp_c_putBytes (a := d) h3 (by decide) (by omega) ⟨rfl, rfl, rfl, rfl⟩) ?_⟩
  rintro r1' M4 ⟨rfl, h4⟩
  refine ⟨rfl, h4.1, nb_W.imp (sp_c_putBytes (a := e) h4 (by decide) (by omega) ⟨rfl, rfl, rfl, rfl⟩) ?_⟩
  rintro r1' M5 ⟨rfl, h5⟩
  refine ⟨rfl, h5.1, fun _ => ⟨⟨h5.1, h5.2.1, h5.2.2.1 1 (by decide) (by decide)⟩, M5.1 2 1, rfl, ?_⟩⟩
  replace h5 : pu_fd 2 3 1 (M.1 603 2) (fun j => nb_i2b (nb_i2b (pu_fe a b c d e j))) M M5 20 := h5
  clear h0 h1 h2 h3 h4 M1 M2 M3 M4
  obtain ⟨f1, f2, f3, f4, f5, f6⟩ := h5
  have g603 : M5.1 603 = M.1 603 := f3 603 (by decide) (by decide)
  have g604 : M5.1 604 = M.1 604 := f3 604 (by decide) (by decide)
  have A1 : ∀ M i v, nb_Lay M → nb_Lay (nb_wr M 604 i v) := fun M i v W => W.wr (fun w => nb_nnum (by decide) (by decide))
  have A2 : ∀ M v, nb_Lay M → nb_Lay (nb_wr M 603 2 v) := fun M v W => W.wr (fun w => nb_nlit (by decide) (by decide))
  have lp : ∀ (m j : Nat), j + m = 20 → ∀ N v7, pu_fd 603 604 2 (M.1 603 2) (fun j => nb_and (pu_fe a b c d e j) 255) (nb_wr M5 603 0 0) N j → nb_W 87 4 [(20, 603), (0, a), (0, b), (0, c), (0, d), (0, e), (0, (j : Int)), v7] [] N (fun r' N' => r' = [(0, M.1 603 2 + 20)] ∧ pu_fd 603 604 2 (M.1 603 2) (fun j => nb_and (pu_fe a b c d e j) 255) (nb_wr M5 603 0 0) N' 20) := by
    intro m
    induction m with
    | zero =>
      intro j hj N v7 h
      have ej : j = 20 := by omega
      subst ej
      refine w_m_feed_4 h.1 (by omega) ⟨fun z => absurd z (by omega), fun _ => ?_⟩
      rw [h.2.2.2.2.1]
      exact ⟨by omega, by omega, fun _ => ⟨rfl, h⟩⟩
    | succ m ih =>
      intro j hj N v7 h
      have nx : ∀ (x : Int), x = (if (j : Int) < 4 then a else if (j : Int) < 8 then b else if (j : Int) < 12 then c else if (j : Int) < 16 then d else e) → nb_W 87 4 [(20, 603), (0, a), (0, b), (0, c), (0, d), (0, e), (0, (j : Int) + 1), (0, x)] [] (nb_wr (nb_wr N 604 (M.1 603 2 + j) (nb_and (nb_shr x (nb_sub 24 (nb_mul 8 (nb_rem j 4)))) 255)) 603 2 (M.1 603 2 + j + 1)) (fun r' N' => r' = [(0, M.1 603 2 + 20)] ∧ pu_fd 603 604 2 (M.1 603 2) (fun j => nb_and (pu_fe a b c d e j) 255) (nb_wr M5 603 0 0) N' 20) := fun x hx => by
        have g := h.step (v := nb_and (nb_shr x (nb_sub 24 (nb_mul 8 (nb_rem j 4)))) 255) (by omega) (by decide) (by rw [hx]; rfl) A1 A2
        have q := ih (j + 1) (by omega) _ (0, x) g
        rw [show ((j + 1 : Nat) : Int) = (j : Int) + 1 by omega] at q
        exact q
      refine w_m_feed_4 h.1 (by omega) ⟨fun _ => ?_, fun z => absurd z (by omega)⟩
      rw [h.2.2.2.2.1]
      refine ⟨fun c4 => ⟨by omega, by omega, by omega, nx a (by rw [if_pos c4])⟩, fun c4 => ⟨fun c8 => ⟨by omega, by omega, by omega, nx b (by rw [if_neg (by omega), if_pos c8])⟩, fun c8 => ⟨fun c12 => ⟨by omega, by omega, by omega, nx c (by rw [if_neg (by omega), if_neg (by omega), if_pos c12])⟩, fun c12 => ⟨fun c16 => ⟨by omega, by omega, by omega, nx d (by rw [if_neg (by omega), if_neg (by omega), if_neg (by omega), if_pos c16])⟩, fun c16 => ⟨by omega, by omega, by omega, nx e (by rw [if_neg (by omega), if_neg (by omega), if_neg (by omega), if_neg (by omega)])⟩⟩⟩⟩⟩
  have WN : nb_Lay (nb_wr M5 603 0 0) := f1.wr (fun w => nb_nlit (by decide) (by decide))
  refine w_m_feed_0 f1 ?_
  rw [g603]
  refine ⟨t1.1, t1.2, fun z => absurd z (by omega), fun _ => nb_W.imp (lp 20 0 rfl _ _ (pu_fd.id WN (by rw [nb_wr_1, if_neg (by decide), g603]))) ?_⟩
  rintro r2 N ⟨rfl, n1, n2, n3, n4, n5, n6⟩
  refine ⟨by rw [f5], ?_, n2.trans f2, (n3 1 (by decide) (by decide)).trans ((nb_wr_b (by decide)).trans (f3 1 (by decide) (by decide)))⟩
  have bA : ∀ x, x ≠ 2 → x ≠ 3 → x ≠ 603 → x ≠ 604 → N.1 x = M.1 x := fun x x2 x3 x603 x604 => by rw [n3 x x603 x604, nb_wr_b x603]; exact f3 x x2 x3
  have c603 : ∀ i, i ≠ 0 → i ≠ 2 → N.1 603 i = M.1 603 i := fun i x y => by rw [n4 i y, nb_wr_1, if_neg (by omega), g603]
  have c2 : ∀ i, i ≠ 1 → N.1 2 i = M.1 2 i := fun i x => by rw [n3 2 (by decide) (by decide), nb_wr_b (by decide)]; exact f4 i x
  have b21 : N.1 2 1 = M.1 603 2 + 20 := by rw [n3 2 (by decide) (by decide), nb_wr_b (by decide)]; exact f5
  have b3 : ∀ i, N.1 3 i = if M.1 603 2 ≤ i ∧ i < M.1 603 2 + 20 then nb_i2b (nb_i2b (pu_fe a b c d e (i - M.1 603 2))) else M.1 3 i := fun i => by rw [n3 3 (by decide) (by decide), nb_wr_b (by decide)]; exact f6 i
  have b604 : ∀ i, N.1 604 i = if M.1 603 2 ≤ i ∧ i < M.1 603 2 + 20 then nb_and (pu_fe a b c d e (i - M.1 603 2)) 255 else M.1 604 i := fun i => by rw [n6 i, nb_wr_b (by decide), g604]
  have e606 := bA 606 (by decide) (by decide) (by decide) (by decide)
  have e608 := bA 608 (by decide) (by decide) (by decide) (by decide)
  have e610 := bA 610 (by decide) (by decide) (by decide) (by decide)
  have e611 := bA 611 (by decide) (by decide) (by decide) (by decide)
  have e612 := bA 612 (by decide) (by decide) (by decide) (by decide)
  have g21 := c603 21 (by decide) (by decide)
  have g22 := c603 22 (by decide) (by decide)
  have g14 := c603 14 (by decide) (by decide)
  refine ⟨n1, ⟨by omega, by rw [b21, n5], fun i x y => ?_, fun i x y => ?_, fun x hx => ?_⟩, ⟨?_, ?_, ?_⟩, ⟨Ho, So, ⟨s1, ?_, ?_, ?_, ?_⟩, ⟨?_, ?_, ?_, ?_⟩, ⟨?_, ?_, ?_⟩⟩, ⟨?_, ?_, ?_⟩, ?_⟩
  · rw [b604, b3]
    by_cases q : M.1 603 2 ≤ i ∧ i < M.1 603 2 + 20
    · rw [if_pos q, if_pos q]
      exact pu_byte _
    · rw [if_neg q, if_neg q]
      exact t3 i x (by omega)
  · rw [bA 141 (by decide) (by decide) (by decide) (by decide)]; exact t4 i x y
  · rw [bA x (by omega) (by omega) (by omega) (by omega)]; exact t5 x hx
  · rw [e606]; exact i1
  · rw [e606, g14]; exact i2
  · rw [e606, e608, g21, g22]; exact i3
  · rw [c2 2 (by decide)]; exact s2
  · rw [c2 3 (by decide)]; exact s3
  · rw [e606]
    exact pu_Ho_congr s4 i1.1 (fun x i p q => by rw [bA x (by omega) (by omega) (by omega) (by omega)])
  · rw [e606, e608]
    exact pu_Sn_mono i1.1 s5.2.2.1.1.2.2.2.1.2 (by omega) (fun x p q => bA x (by omega) (by omega) (by omega) (by omega)) s5
  · rw [g21]; exact u1
  · rw [g21, c2 9 (by decide)]; exact u2
  · rw [c2 8 (by decide)]; exact u3
  · rw [g21, c2 8 (by decide), e606, e610]
    intro j x y
    have h := u4 j x y
    exact pu_Sn_mono i1.1 h.2.2.1.1.2.2.2.1.2 (by omega) (fun x p q => bA x (by omega) (by omega) (by omega) (by omega)) h
  · rw [g22]; exact m1
  · rw [g22, c2 11 (by decide)]; exact m2
  · rw [g22, e606, e611]
    intro j x y
    have h := m3 j x y
    exact pu_Sn_mono i1.1 h.2.2.1.1.2.2.2.1.2 (by omega) (fun x p q => bA x (by omega) (by omega) (by omega) (by omega)) h
  · rw [c2 15 (by decide), c603 11 (by decide) (by decide)]; exact r1
  · rw [c2 16 (by decide), c603 9 (by decide) (by decide)]; exact r2
  · rw [c2 17 (by decide), c603 11 (by decide) (by decide), c603 10 (by decide) (by decide)]; exact r3
  · unfold pu_I7 at i7 ⊢
    rw [e612]
    exact i7
