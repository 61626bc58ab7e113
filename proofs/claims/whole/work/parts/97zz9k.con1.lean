/-! THE CONSTRUCTORS -/
/-- the cells so far -/
def cs (M : nb_M) (K : List (Nat × Nat)) : Prop := M.2 = (K, 0, 0)
theorem cs.z {M : nb_M} {K : List (Nat × Nat)} (h : cs M K) : M.2.2.1 = 0 := by rw [h]
theorem cs.nx {M : nb_M} {K : List (Nat × Nat)} {n : Int} (h : cs M K) (hn : (K.length : Int) = n) : nb_nx M = n := by
  unfold nb_nx
  rw [h]
  exact hn
theorem cs.al {M : nb_M} {K K2 : List (Nat × Nat)} {k n : Nat} (h : cs M K) (e : K ++ [(k, n)] = K2) : cs (nb_al M k n) K2 := by
  subst e
  unfold cs nb_al at *
  rw [h]
theorem cs.alm {M : nb_M} {K K2 : List (Nat × Nat)} {k n : Nat} (h : cs M K) (e : K ++ ((7, n) :: List.replicate n (0, k)) = K2) : cs (nb_alm M n k) K2 := by
  subst e
  unfold cs nb_alm at *
  rw [h]
theorem cs.wr {M : nb_M} {K : List (Nat × Nat)} {a i v : Int} (h : cs M K) : cs (nb_wr M a i v) K := h
theorem cs.ln {M : nb_M} {K L : List (Nat × Nat)} {n a : Int} {j k m : Nat} (h : cs M (K ++ L)) (hn : (K.length : Int) = n) (ha : a = n + j) (hl : L[j]? = some (k, m)) : nb_ln M a = m := by
  subst ha hn
  unfold nb_ln
  rw [h]
  show (match (K ++ L)[((K.length : Int) + (j : Int)).toNat]? with | some q => (q.2 : Int) | none => 0) = ((m : Nat) : Int)
  rw [show ((K.length : Int) + (j : Int)).toNat = K.length + j by omega, List.getElem?_append_right (by omega), show K.length + j - K.length = j by omega, hl]
theorem nb_al_1 (M : nb_M) (k n : Nat) : (nb_al M k n).1 = M.1 := rfl
/-- Servers, each with what is free behind it -/
def cv : Nat → List (Nat × Nat)
  | 0 => []
  | n + 1 => cv n ++ [(13, 8), (0, 2)]
theorem cv_len : ∀ n, (cv n).length = 2 * n
  | 0 => rfl
  | n + 1 => by
    show (cv n ++ [(13, 8), (0, 2)]).length = _
    rw [List.length_append, cv_len n]
    simp
    omega
theorem ci_sv {M : nb_M} {K : List (Nat × Nat)} {a : Int} (h : cs M K) (hn : (K.length : Int) = a + 1) (ha : a ≠ 0) : nb_R nb_P 271 0 [(16, a)] [] M = some ([], nb_wr (nb_al M 0 2) a 0 (a + 1)) := by
  rw [q_sv_init_0 _ _ ha]
  show nb_R nb_P 271 1 [(16, a)] [] M = _
  rw [q_sv_init_1 _ _ h.z, q_sv_init_2 _ _ _ _ ha, q_sv_init_3, h.nx hn]
/-- a Guest made -/
def cg (M : nb_M) (a : Int) : nb_M := nb_wr (nb_wr (nb_wr (nb_wr (nb_wr (nb_al M 8 15) a 6 (-2)) a 8 0) a 9 (-2)) a 10 (-2)) a 12 (-2)
theorem cg_b {M : nb_M} {a b : Int} (h : b ≠ a) : (cg M a).1 b = M.1 b := by
  unfold cg
  rw [nb_wr_b h, nb_wr_b h, nb_wr_b h, nb_wr_b h, nb_wr_b h, nb_al_1]
theorem cg_a {M : nb_M} {a i : Int} : (cg M a).1 a i = if i = 12 then -2 else if i = 10 then -2 else if i = 9 then -2 else if i = 8 then 0 else if i = 6 then -2 else M.1 a i := by
  unfold cg
  simp [nb_wr_1, nb_al_1]
theorem ci_sc {M : nb_M} {K : List (Nat × Nat)} {A Ho : Int} {v2 : nb_V} (hM : cs M K) (hK : (K.length : Int) = A + 1) (hA : 2 ≤ A) : nb_W 253 0 [(15, A), (12, Ho), v2] [] M (fun r M' => r = [] ∧ cs M' (K ++ nb_KS.tail) ∧ (∀ b, (b < A ∨ A + 22 ≤ b) → M'.1 b = M.1 b) ∧ (∀ a i v, nb_fs A a i v → M'.1 a i = v) ∧ M'.1 A 3 = Ho ∧ ∀ i, 4 ≤ i → M'.1 A i = M.1 A i) := by
  have nA : A ≠ 0 := by omega
  refine nb_Wg (q_sc_init_0 _ _ _ _ nA) (nb_Gp ?_)
  refine nb_Wg (q_sc_init_1 _ _ _ _ hM.z) (nb_Gr ?_)
  rw [hM.nx hK]
  refine nb_Wg (q_sc_init_2 _ _ _ _ _ _ nA) (nb_Gr ?_)
  have h1 : cs (nb_wr (nb_al M 4 10) A 0 (A + 1)) (K ++ [(4, 10)]) := (hM.al rfl).wr
  refine nb_Wg (q_sc_init_3 _ _ _ _ h1.z) (nb_Gr ?_)
  rw [h1.nx (n := A + 2) (by simp; omega)]
  refine nb_Wg (q_sc_init_4 _ _ _ _ _ _ nA) (nb_Gr ?_)
  have h2 : cs (nb_wr (nb_al (nb_wr (nb_al M 4 10) A 0 (A + 1)) 5 4) A 1 (A + 2)) (K ++ [(4, 10), (5, 4)]) := (h1.al (by simp)).wr
  refine nb_Wg (q_sc_init_5 _ _ _ _ h2.z) (nb_Gr ?_)
  rw [h2.nx (n := A + 3) (by simp; omega)]
  refine nb_Wg (q_sc_init_6 _ _ _ _ _ _ nA) (nb_Gr ?_)
  refine nb_Wg (q_sc_init_7 _ _ _ _ nA) (nb_Gr ?_)
  have h3 : cs (nb_wr (nb_wr (nb_al (nb_wr (nb_al (nb_wr (nb_al M 4 10) A 0 (A + 1)) 5 4) A 1 (A + 2)) 0 10) A 2 (A + 3)) A 3 Ho) (K ++ [(4, 10), (5, 4), (0, 10)]) := ((h2.al (by simp)).wr).wr
  have e3 : ∀ b, b ≠ A → (nb_wr (nb_wr (nb_al (nb_wr (nb_al (nb_wr (nb_al M 4 10) A 0 (A + 1)) 5 4) A 1 (A + 2)) 0 10) A 2 (A + 3)) A 3 Ho).1 b = M.1 b := fun b h => by rw [nb_wr_b h, nb_wr_b h, nb_al_1, nb_wr_b h, nb_al_1, nb_wr_b h, nb_al_1]
  have a3 : ∀ i, (nb_wr (nb_wr (nb_al (nb_wr (nb_al (nb_wr (nb_al M 4 10) A 0 (A + 1)) 5 4) A 1 (A + 2)) 0 10) A 2 (A + 3)) A 3 Ho).1 A i = if i = 3 then Ho else if i = 2 then A + 3 else if i = 1 then A + 2 else if i = 0 then A + 1 else M.1 A i := fun i => by simp [nb_wr_1, nb_al_1]
  generalize nb_wr (nb_wr (nb_al (nb_wr (nb_al (nb_wr (nb_al M 4 10) A 0 (A + 1)) 5 4) A 1 (A + 2)) 0 10) A 2 (A + 3)) A 3 Ho = M3 at h3 e3 a3 ⊢
  refine nb_Wg (q_sc_init_8 _ _ _ _) (nb_Gr ?_)
  -- the staff
  have lv : ∀ (m s : Nat), s + m = 4 → ∀ N v1, cs N (K ++ ([(4, 10), (5, 4), (0, 10)] ++ List.replicate 10 (8, 15) ++ cv s)) → (∀ b, (b < A ∨ A + 22 ≤ b) → N.1 b = M.1 b) → (∀ i, N.1 A i = M3.1 A i) → (∀ i, 0 ≤ i → i < 10 → N.1 (A + 1) i = A + 4 + i) → (∀ i, 0 ≤ i → i < (s : Int) → N.1 (A + 2) i = A + 14 + 2 * i ∧ N.1 (A + 14 + 2 * i) 0 = A + 14 + 2 * i + 1) → nb_W 253 15 [(15, A), v1, (0, (s : Int))] [] N (fun r M' => r = [] ∧ cs M' (K ++ nb_KS.tail) ∧ (∀ b, (b < A ∨ A + 22 ≤ b) → M'.1 b = M.1 b) ∧ (∀ a i v, nb_fs A a i v → M'.1 a i = v) ∧ M'.1 A 3 = Ho ∧ ∀ i, 4 ≤ i → M'.1 A i = M.1 A i) := by
    intro m
    induction m with
    | zero =>
      intro s hs N v1 hN f1 f2 f3 f4
      have es : s = 4 := by omega
      subst es
      refine nb_Wg (q_sc_init_15 _ _ _ _) (nb_Gt (by decide) (nb_Gr ?_))
      refine nb_Wg (q_sc_init_20 _ _ _ _) (nb_Gs ⟨rfl, hN, f1, fun a i v q => ?_, by rw [f2, a3]; rfl, fun i hi => by rw [f2, a3, if_neg (by omega), if_neg (by omega), if_neg (by omega), if_neg (by omega)]⟩)
      unfold nb_fs at q
      rcases q with ⟨q1, q2, q3, q4⟩ | ⟨q1, q2, q3, q4⟩ | ⟨q1, q2, q3, q4⟩ | ⟨s, q0, q1, q2, q3, q4⟩
      · subst q1 q4
        rw [f2, a3]
        (repeat' split) <;> omega
      · subst q1 q4
        exact f3 i q2 q3
      · subst q1 q4
        exact (f4 i q2 (by omega)).1
      · subst q2 q3 q4
        exact (f4 s q0 (by omega)).2
    | succ m ih =>
      intro s hs N v1 hN f1 f2 f3 f4
      refine nb_Wg (q_sc_init_15 _ _ _ _) (nb_Gf (by omega) (nb_Gr ?_))
      refine nb_Wg (q_sc_init_16 _ _ _ _ nA hN.z) (nb_Gr ?_)
      have nx : nb_nx N = A + 14 + 2 * s := hN.nx (by simp [cv_len]; omega)
      rw [nx, show nb_rd N A 1 = A + 2 from (f2 1).trans (a3 1)]
      refine nb_Wg (q_sc_init_17 _ _ _ _ _ _ _ (by omega)) (nb_Gb ?_)
      have g1 : cs (nb_al N 13 8) (K ++ ([(4, 10), (5, 4), (0, 10)] ++ List.replicate 10 (8, 15) ++ cv s ++ [(13, 8)])) := hN.al (by simp)
      refine nb_Wp (ci_sv (a := A + 14 + 2 * s) g1 (by simp [cv_len]; omega) (by omega)) ?_
      have g2 : cs (nb_wr (nb_al (nb_al N 13 8) 0 2) (A + 14 + 2 * s) 0 (A + 14 + 2 * s + 1)) (K ++ ([(4, 10), (5, 4), (0, 10)] ++ List.replicate 10 (8, 15) ++ cv (s + 1))) := (g1.al (by rw [show cv (s + 1) = cv s ++ [(13, 8), (0, 2)] from rfl]; simp)).wr
      refine nb_Wg (q_sc_init_18 _ _ _ _ _ _ _ (by omega) (by omega) (by omega) (by omega) ?_) (nb_Gr ?_)
      · rw [g2.ln (j := 1) (k := 5) (m := 4) hK (by omega) rfl]
        omega
      refine nb_Wg (q_sc_init_19 _ _ _ _) (nb_Gr ?_)
      rw [nb_add_eq (by omega) (by omega)]
      have fin := ih (s + 1) (by omega) (nb_wr (nb_wr (nb_al (nb_al N 13 8) 0 2) (A + 14 + 2 * s) 0 (A + 14 + 2 * s + 1)) (A + 2) s (A + 14 + 2 * s)) (nb_clr v1) g2.wr (fun b hb => by rw [nb_wr_b (by omega), nb_wr_b (by omega)]; exact f1 b hb) (fun i => by rw [nb_wr_b (by omega), nb_wr_b (by omega)]; exact f2 i) (fun i i0 i1 => by rw [nb_wr_b (by omega), nb_wr_b (by omega)]; exact f3 i i0 i1) (fun i i0 i1 => ?_)
      · rw [show ((s + 1 : Nat) : Int) = (s : Int) + 1 by omega] at fin
        exact fin
      · by_cases c : i = s
        · subst c
          exact ⟨by rw [nb_wr_1, if_pos ⟨rfl, rfl⟩], by rw [nb_wr_b (by omega), nb_wr_1, if_pos ⟨rfl, rfl⟩]⟩
        · have f := f4 i i0 (by omega)
          exact ⟨by rw [nb_wr_1, if_neg (by omega), nb_wr_b (by omega)]; exact f.1, by rw [nb_wr_b (by omega), nb_wr_b (by omega)]; exact f.2⟩
  -- the people
  have lg : ∀ (m p : Nat), p + m = 10 → ∀ N v1, cs N (K ++ ([(4, 10), (5, 4), (0, 10)] ++ List.replicate p (8, 15))) → (∀ b, (b < A ∨ A + 22 ≤ b) → N.1 b = M.1 b) → (∀ i, N.1 A i = M3.1 A i) → (∀ i, 0 ≤ i → i < (p : Int) → N.1 (A + 1) i = A + 4 + i) → nb_W 253 9 [(15, A), v1, (0, (p : Int))] [] N (fun r M' => r = [] ∧ cs M' (K ++ nb_KS.tail) ∧ (∀ b, (b < A ∨ A + 22 ≤ b) → M'.1 b = M.1 b) ∧ (∀ a i v, nb_fs A a i v → M'.1 a i = v) ∧ M'.1 A 3 = Ho ∧ ∀ i, 4 ≤ i → M'.1 A i = M.1 A i) := by
    intro m
    induction m with
    | zero =>
      intro p hp N v1 hN f1 f2 f3
      have ep : p = 10 := by omega
      subst ep
      refine nb_Wg (q_sc_init_9 _ _ _ _) (nb_Gf (by decide) (nb_Gr ?_))
      refine nb_Wg (q_sc_init_14 _ _ _ _) (nb_Gr ?_)
      exact lv 4 0 rfl N _ (by simpa [cv] using hN) f1 f2 f3 (fun i i0 i1 => absurd i1 (by omega))
    | succ m ih =>
      intro p hp N v1 hN f1 f2 f3
      refine nb_Wg (q_sc_init_9 _ _ _ _) (nb_Gt (by omega) (nb_Gr ?_))
      refine nb_Wg (q_sc_init_10 _ _ _ _ nA hN.z) (nb_Gr ?_)
      have nx : nb_nx N = A + 4 + p := hN.nx (by simp; omega)
      rw [nx, show nb_rd N A 0 = A + 1 from (f2 0).trans (a3 0)]
      refine nb_Wg (q_sc_init_11 _ _ _ _ _ _ _ (by omega)) (nb_Gb ?_)
      refine nb_Wp (nb_g_init _ _ (by omega)) ?_
      have g2 : cs (cg N (A + 4 + p)) (K ++ ([(4, 10), (5, 4), (0, 10)] ++ List.replicate (p + 1) (8, 15))) := hN.al (by rw [List.replicate_succ']; simp)
      show nb_W 253 12 [(15, A), v1, (0, (p : Int))] [(11, A + 4 + p), (0, (p : Int)), (7, A + 1)] (cg N (A + 4 + p)) _
      refine nb_Wg (q_sc_init_12 _ _ _ _ _ _ _ (by omega) (by omega) (by omega) (by omega) ?_) (nb_Gr ?_)
      · rw [g2.ln (j := 0) (k := 4) (m := 10) hK (by omega) rfl]
        omega
      refine nb_Wg (q_sc_init_13 _ _ _ _) (nb_Gr ?_)
      rw [nb_add_eq (by omega) (by omega)]
      have fin := ih (p + 1) (by omega) (nb_wr (cg N (A + 4 + p)) (A + 1) p (A + 4 + p)) (nb_clr v1) g2.wr (fun b hb => by rw [nb_wr_b (by omega), cg_b (by omega)]; exact f1 b hb) (fun i => by rw [nb_wr_b (by omega), cg_b (by omega)]; exact f2 i) (fun i i0 i1 => ?_)
      · rw [show ((p + 1 : Nat) : Int) = (p : Int) + 1 by omega] at fin
        exact fin
      · by_cases c : i = p
        · subst c
          rw [nb_wr_1, if_pos ⟨rfl, rfl⟩]
        · rw [nb_wr_1, if_neg (by omega), cg_b (by omega)]; exact f3 i i0 (by omega)
  exact lg 10 0 rfl M3 _ (by simpa using h3) (fun b hb => e3 b (by omega)) (fun i => rfl) (fun i i0 i1 => absurd i1 (by omega))
