/-! THE LAW, call by call -/
theorem pu_I_619 {M M' : nb_M} {k : Int} (h : pu_I M k) (h2 : M'.2.1 = M.2.1) (e : ∀ a, a ≠ 619 → M'.1 a = M.1 a) : pu_I M' k := by
  obtain ⟨hL, ⟨t1, t2, t3, t4, t5⟩, ⟨i1, i2, i3⟩, ⟨Ho, So, ⟨s1, s2, s3, s4, s5⟩, ⟨u1, u2, u3, u4⟩, ⟨m1, m2, m3⟩⟩, ⟨r1, r2, r3⟩, i7⟩ := h
  have e2 := e 2 (by decide)
  have e603 := e 603 (by decide)
  have e606 := e 606 (by decide)
  have e608 := e 608 (by decide)
  have e610 := e 610 (by decide)
  have e611 := e 611 (by decide)
  have e612 := e 612 (by decide)
  refine ⟨hL.mono h2 (fun a i v q => ?_), ⟨by rw [e603]; exact t1, by rw [e2, e603]; exact t2, fun i x y => ?_, fun i x y => ?_, fun x hx => ?_⟩, ⟨?_, ?_, ?_⟩, ⟨Ho, So, ⟨s1, ?_, ?_, ?_, ?_⟩, ⟨?_, ?_, ?_, ?_⟩, ⟨?_, ?_, ?_⟩⟩, ⟨?_, ?_, ?_⟩, ?_⟩
  · by_cases c : a = 619
    · subst c
      exact absurd q (nb_nnum (by decide) (by decide))
    · rw [e a c]
  · rw [e603] at y
    rw [e 604 (by decide), e 3 (by decide)]
    exact t3 i x y
  · rw [e 141 (by decide)]; exact t4 i x y
  · rw [e x (by omega)]; exact t5 x hx
  · rw [e606]; exact i1
  · rw [e606, e603]; exact i2
  · rw [e606, e608, e603]; exact i3
  · rw [e2]; exact s2
  · rw [e2]; exact s3
  · rw [e606]
    exact pu_Ho_congr s4 i1.1 (fun x i p q => by rw [e x (by omega)])
  · rw [e606, e608]
    exact pu_Sn_mono i1.1 s5.2.2.1.1.2.2.2.1.2 (Int.le_refl k) (fun x p q => e x (by omega)) s5
  · rw [e603]; exact u1
  · rw [e603, e2]; exact u2
  · rw [e2]; exact u3
  · rw [e603, e2, e606, e610]
    intro j x y
    have h := u4 j x y
    exact pu_Sn_mono i1.1 h.2.2.1.1.2.2.2.1.2 (Int.le_refl k) (fun x p q => e x (by omega)) h
  · rw [e603]; exact m1
  · rw [e603, e2]; exact m2
  · rw [e603, e606, e611]
    intro j x y
    have h := m3 j x y
    exact pu_Sn_mono i1.1 h.2.2.1.1.2.2.2.1.2 (Int.le_refl k) (fun x p q => e x (by omega)) h
  · rw [e2, e603]; exact r1
  · rw [e2, e603]; exact r2
  · rw [e2, e603]; exact r3
  · unfold pu_I7 at i7 ⊢
    rw [e612]
    exact i7
theorem sp_m_led {M : nb_M} {i np : Int} {v2 v3 : nb_V} (W : nb_Lay M) (h5 : M.1 606 5 = np) (hnp : 0 ≤ np ∧ np ≤ 10) (h14 : M.1 603 14 = if np = 0 then 0 else 1) : nb_W 211 0 [(20, 603), (0, i), v2, v3] [] M (fun r N => ((0 ≤ i ∧ i < pu_cnt (M.1 608) 1 np.toNat) → r = [(0, pu_wn (M.1 608) i np.toNat)] ∧ N = nb_wr M 603 0 0) ∧ (¬ (0 ≤ i ∧ i < pu_cnt (M.1 608) 1 np.toNat) → r = [(0, 0)] ∧ N = nb_wr M 603 0 1)) := by
  refine w_m_led_0 W ?_
  have lp : ∀ (n j : Nat), j + n = np.toNat → ¬ (0 ≤ i ∧ i < pu_cnt (M.1 608) 1 j) → nb_W 211 1 [(20, 603), (0, i), (0, pu_cnt (M.1 608) 1 j), (0, (j : Int))] [] M (fun r N => ((0 ≤ i ∧ i < pu_cnt (M.1 608) 1 np.toNat) → r = [(0, pu_wn (M.1 608) i np.toNat)] ∧ N = nb_wr M 603 0 0) ∧ (¬ (0 ≤ i ∧ i < pu_cnt (M.1 608) 1 np.toNat) → r = [(0, 0)] ∧ N = nb_wr M 603 0 1)) := by
    intro n
    induction n with
    | zero =>
      intro j hj hn
      have cl := pu_cnt_le (R := M.1 608) (x := 1) j
      have ej : np.toNat = j := by omega
      refine w_m_led_1 W (by omega) (by omega) ?_
      rw [h5, h14, ej]
      refine ⟨by split <;> omega, by split <;> omega, fun _ _ => ⟨fun z => absurd z hn, fun _ => ⟨rfl, rfl⟩⟩, fun _ => ⟨by omega, by omega, fun z => absurd z (by omega), fun _ _ => ⟨fun z => absurd z hn, fun _ => ⟨rfl, rfl⟩⟩⟩⟩
    | succ n ih =>
      intro j hj hn
      have cl := pu_cnt_le (R := M.1 608) (x := 1) j
      have e2 : pu_cnt (M.1 608) 1 (j + 1) = pu_cnt (M.1 608) 1 j + (if M.1 608 (12 + 8 * (j : Int)) = 1 then 1 else 0) := rfl
      have mo := pu_cnt_mono (R := M.1 608) (x := 1) np.toNat (j + 1) (by omega)
      have nx := ih (j + 1) (by omega)
      rw [show ((j + 1 : Nat) : Int) = (j : Int) + 1 by omega] at nx
      refine w_m_led_1 W (by omega) (by omega) ?_
      rw [h5, h14, if_neg (by omega)]
      refine ⟨by decide, by decide, fun z => absurd z (by decide), fun _ => ⟨by omega, by omega, fun _ => ⟨fun c => ⟨fun c2 _ => ⟨fun _ => ?_, fun z => ?_⟩, fun c2 => ?_⟩, fun c => ?_⟩, fun z => absurd z (by omega)⟩⟩
      · refine ⟨?_, rfl⟩
        rw [← c2, pu_wn_at (by omega) c]
      · rw [if_pos c] at e2
        exact absurd ⟨by omega, by omega⟩ z
      · rw [if_pos c] at e2
        rw [e2] at nx
        exact nx (by omega)
      · rw [if_neg c] at e2
        rw [e2, Int.add_zero] at nx
        exact nx hn
  exact lp _ 0 (Nat.zero_add _) (fun z => absurd z.2 (by show ¬ i < (0 : Int); omega))
theorem led_F {F : Nat → List nb_V → nb_M → nb_A} {N : nb_M} {i p : Int} (W : nb_Lay N) (hF : 0 ≤ i → F 0 [(15, 84), (0, i)] N = some ([(0, p)], N)) (hp : -2147483648 ≤ p ∧ p ≤ 2147483647) : nb_led F 2 i 619 N = if i < 0 ∨ p < 0 then some ([(0, 1)], nb_jk N) else some ([(0, 0)], nb_wr N 619 0 p) := by
  unfold nb_led
  have e5 : nb_rd N 2 5 = 84 := W.c5
  have l619 : nb_ln N 619 = 1 := W.lk (by decide) (by decide +kernel)
  rw [if_neg (by rw [e5, l619]; decide)]
  by_cases c : i < 0
  · rw [if_pos c, if_pos (Or.inl c)]
  · rw [if_neg c, e5, hF (by omega)]
    show (if p < -2147483648 ∨ 2147483647 < p then none else if p < 0 then some ([(0, 1)], nb_jk N) else some ([(0, 0)], nb_wr N 619 0 p)) = _
    rw [if_neg (by omega)]
    by_cases d : p < 0
    · rw [if_pos d, if_pos (Or.inr d)]
    · rw [if_neg d, if_neg (by omega)]
/-- what a call changes of the numbers -/
def pu_lwn (N2 N : nb_M) : Prop := N2.2.1 = N.2.1 ∧ N2.2.2.1 ≤ N.2.2.1 + 1 ∧ N2.2.2.2 ≤ N.2.2.2 + 6 ∧ N2.1 1 = N.1 1
theorem pu_sm.lwn {N2 N : nb_M} (h : pu_sm N2 N) : pu_lwn N2 N := by
  unfold pu_lwn
  rw [h.1]
  exact ⟨rfl, by omega, by omega, h.2⟩
theorem lw_case {k : Int} {N : nb_M} {LL st : List nb_V} {b1 b2 b3 c m : Nat} {ca ma : List nb_V} {Q : List nb_V → nb_M → Prop} (hp : pu_pair c ca m ma) (hI : pu_I N k) (k0 : 0 ≤ k) (k1 : k ≤ 512) (E1 : nb_R nb_P 293 b1 LL st N = (nb_R nb_P c 0 ca [] N).bind fun r => nb_R nb_P 293 b2 LL (r.1 ++ []) r.2) (E2 : ∀ N1, pu_sm N1 N → ∀ s : Int, nb_R nb_P 293 b2 LL [(0, s)] N1 = (nb_R nb_P m 0 ma [] N1).bind fun r => nb_R nb_P 293 b3 LL (r.1 ++ [(0, s)]) r.2) (E3 : ∀ (N2 : nb_M) (s : Int), nb_R nb_P 293 b3 LL [(0, s), (0, s)] N2 = nb_R nb_P 293 239 LL [] N2) (H : ∀ N2, pu_I N2 (k + 1) → pu_sm N2 N → nb_W 293 239 LL [] N2 Q) : nb_W 293 b1 LL st N Q := by
  refine nb_Wg E1 (nb_Gb ?_)
  refine nb_W.imp (hp N k hI k0 k1) ?_
  rintro r1 N1 ⟨⟨W1, s1⟩, v, rfl, hm⟩
  refine nb_Wg (E2 N1 s1 v) (nb_Gb ?_)
  refine nb_W.imp hm ?_
  rintro r2 N2 ⟨rfl, hI2, s2⟩
  exact nb_Wg (E3 N2 v) (nb_Gr (H N2 hI2 s2))
