/-! A HOUSE MADE -/
def ch0 : List (Nat × Nat) := [(0, 5), (0, 5), (0, 5), (7, 10)] ++ List.replicate 10 (0, 5) ++ [(4, 10), (5, 3), (0, 8), (0, 8), (0, 8)]
theorem ch0_len : ch0.length = 19 := rfl
/-- a Guest's fields -/
def cgf (g : Int → Int) : Int → Int := fun i => if i = 12 then -2 else if i = 10 then -2 else if i = 9 then -2 else if i = 8 then 0 else if i = 6 then -2 else g i
theorem cg_f {M : nb_M} {a : Int} : (cg M a).1 a = cgf (M.1 a) := funext fun _ => cg_a
theorem ci_h {M : nb_M} {K : List (Nat × Nat)} {H : Int} {v1 : nb_V} (hM : cs M K) (hK : (K.length : Int) = H + 1) (hH : 2 ≤ H) : nb_W 218 0 [(12, H), v1] [] M (fun r M' => r = [] ∧ cs M' (K ++ nb_KH.tail) ∧ (∀ b, (b < H ∨ H + 36 ≤ b) → M'.1 b = M.1 b) ∧ (∀ a i v, nb_fh H a i v → M'.1 a i = v) ∧ (∀ i, 9 ≤ i → M'.1 H i = M.1 H i) ∧ ∀ p, 0 ≤ p → p < 10 → M'.1 (H + 20 + p) = cgf (M.1 (H + 20 + p))) := by
  have nH : H ≠ 0 := by omega
  refine nb_Wg (q_h_init_0 _ _ _ nH) (nb_Gp ?_)
  refine nb_Wg (q_h_init_1 _ _ _ hM.z) (nb_Gr ?_)
  rw [hM.nx hK]
  refine nb_Wg (q_h_init_2 _ _ _ _ _ nH) (nb_Gr ?_)
  have g1 : cs (nb_wr (nb_al M 0 5) H 0 (H + 1)) (K ++ [(0, 5)]) := (hM.al rfl).wr
  have e1 : ∀ b, b ≠ H → (nb_wr (nb_al M 0 5) H 0 (H + 1)).1 b = M.1 b := fun b h => by rw [nb_wr_b h, nb_al_1]
  have a1 : ∀ i, (nb_wr (nb_al M 0 5) H 0 (H + 1)).1 H i = if i = 0 then H + 1 else M.1 H i := fun i => by simp [nb_wr_1, nb_al_1]
  generalize nb_wr (nb_al M 0 5) H 0 (H + 1) = M1 at g1 e1 a1 ⊢
  refine nb_Wg (q_h_init_3 _ _ _ g1.z) (nb_Gr ?_)
  rw [g1.nx (n := H + 2) (by simp; omega)]
  refine nb_Wg (q_h_init_4 _ _ _ _ _ nH) (nb_Gr ?_)
  have g2 : cs (nb_wr (nb_al M1 0 5) H 1 (H + 2)) (K ++ [(0, 5), (0, 5)]) := (g1.al (by simp)).wr
  have e2 : ∀ b, b ≠ H → (nb_wr (nb_al M1 0 5) H 1 (H + 2)).1 b = M.1 b := fun b h => by rw [nb_wr_b h, nb_al_1]; exact e1 b h
  have a2 : ∀ i, (nb_wr (nb_al M1 0 5) H 1 (H + 2)).1 H i = if i = 1 then H + 2 else M1.1 H i := fun i => by simp [nb_wr_1, nb_al_1]
  generalize nb_wr (nb_al M1 0 5) H 1 (H + 2) = M2 at g2 e2 a2 ⊢
  refine nb_Wg (q_h_init_5 _ _ _ g2.z) (nb_Gr ?_)
  rw [g2.nx (n := H + 3) (by simp; omega)]
  refine nb_Wg (q_h_init_6 _ _ _ _ _ nH) (nb_Gr ?_)
  have g3 : cs (nb_wr (nb_al M2 0 5) H 2 (H + 3)) (K ++ [(0, 5), (0, 5), (0, 5)]) := (g2.al (by simp)).wr
  have e3 : ∀ b, b ≠ H → (nb_wr (nb_al M2 0 5) H 2 (H + 3)).1 b = M.1 b := fun b h => by rw [nb_wr_b h, nb_al_1]; exact e2 b h
  have a3 : ∀ i, (nb_wr (nb_al M2 0 5) H 2 (H + 3)).1 H i = if i = 2 then H + 3 else M2.1 H i := fun i => by simp [nb_wr_1, nb_al_1]
  generalize nb_wr (nb_al M2 0 5) H 2 (H + 3) = M3 at g3 e3 a3 ⊢
  refine nb_Wg (q_h_init_7 _ _ _ g3.z) (nb_Gr ?_)
  have n4 : nb_nx M3 = H + 4 := g3.nx (by simp; omega)
  rw [n4]
  refine nb_Wg (q_h_init_8 _ _ _ _ _ nH) (nb_Gr ?_)
  have g4 : cs (nb_wr (nb_alm M3 10 5) H 3 (H + 4)) (K ++ ([(0, 5), (0, 5), (0, 5), (7, 10)] ++ List.replicate 10 (0, 5))) := (g3.alm (by simp)).wr
  have e4 : ∀ b, b ≠ H → b ≠ H + 4 → (nb_wr (nb_alm M3 10 5) H 3 (H + 4)).1 b = M.1 b := fun b h h4 => by
    rw [nb_wr_b h]
    show (fun i => if b = nb_nx M3 ∧ 0 ≤ i ∧ i < ((10 : Nat) : Int) then nb_nx M3 + 1 + i else M3.1 b i) = M.1 b
    funext i
    rw [n4, if_neg (by omega), e3 b h]
  have r4 : ∀ i, 0 ≤ i → i < 10 → (nb_wr (nb_alm M3 10 5) H 3 (H + 4)).1 (H + 4) i = H + 5 + i := fun i i0 i1 => by
    rw [nb_wr_b (by omega)]
    show (if H + 4 = nb_nx M3 ∧ 0 ≤ i ∧ i < ((10 : Nat) : Int) then nb_nx M3 + 1 + i else M3.1 (H + 4) i) = _
    rw [n4, if_pos ⟨rfl, i0, by omega⟩]
    omega
  have a4 : ∀ i, (nb_wr (nb_alm M3 10 5) H 3 (H + 4)).1 H i = if i = 3 then H + 4 else M3.1 H i := fun i => by
    rw [nb_wr_1]
    by_cases c : i = 3
    · rw [if_pos ⟨rfl, c⟩, if_pos c]
    · rw [if_neg (by omega), if_neg c]
      show (if H = nb_nx M3 ∧ 0 ≤ i ∧ i < ((10 : Nat) : Int) then nb_nx M3 + 1 + i else M3.1 H i) = _
      rw [n4, if_neg (by omega)]
  generalize nb_wr (nb_alm M3 10 5) H 3 (H + 4) = M4 at g4 e4 r4 a4 ⊢
  refine nb_Wg (q_h_init_9 _ _ _ g4.z) (nb_Gr ?_)
  rw [g4.nx (n := H + 15) (by simp; omega)]
  refine nb_Wg (q_h_init_10 _ _ _ _ _ nH) (nb_Gr ?_)
  have g5 : cs (nb_wr (nb_al M4 4 10) H 4 (H + 15)) (K ++ ([(0, 5), (0, 5), (0, 5), (7, 10)] ++ List.replicate 10 (0, 5) ++ [(4, 10)])) := (g4.al (by simp)).wr
  refine nb_Wg (q_h_init_11 _ _ _ g5.z) (nb_Gr ?_)
  rw [g5.nx (n := H + 16) (by simp; omega)]
  refine nb_Wg (q_h_init_12 _ _ _ _ _ nH) (nb_Gr ?_)
  have g6 : cs (nb_wr (nb_al (nb_wr (nb_al M4 4 10) H 4 (H + 15)) 5 3) H 5 (H + 16)) (K ++ ([(0, 5), (0, 5), (0, 5), (7, 10)] ++ List.replicate 10 (0, 5) ++ [(4, 10), (5, 3)])) := (g5.al (by simp)).wr
  refine nb_Wg (q_h_init_13 _ _ _ g6.z) (nb_Gr ?_)
  rw [g6.nx (n := H + 17) (by simp; omega)]
  refine nb_Wg (q_h_init_14 _ _ _ _ _ nH) (nb_Gr ?_)
  have g7 : cs (nb_wr (nb_al (nb_wr (nb_al (nb_wr (nb_al M4 4 10) H 4 (H + 15)) 5 3) H 5 (H + 16)) 0 8) H 6 (H + 17)) (K ++ ([(0, 5), (0, 5), (0, 5), (7, 10)] ++ List.replicate 10 (0, 5) ++ [(4, 10), (5, 3), (0, 8)])) := (g6.al (by simp)).wr
  refine nb_Wg (q_h_init_15 _ _ _ g7.z) (nb_Gr ?_)
  rw [g7.nx (n := H + 18) (by simp; omega)]
  refine nb_Wg (q_h_init_16 _ _ _ _ _ nH) (nb_Gr ?_)
  have g8 : cs (nb_wr (nb_al (nb_wr (nb_al (nb_wr (nb_al (nb_wr (nb_al M4 4 10) H 4 (H + 15)) 5 3) H 5 (H + 16)) 0 8) H 6 (H + 17)) 0 8) H 7 (H + 18)) (K ++ ([(0, 5), (0, 5), (0, 5), (7, 10)] ++ List.replicate 10 (0, 5) ++ [(4, 10), (5, 3), (0, 8), (0, 8)])) := (g7.al (by simp)).wr
  refine nb_Wg (q_h_init_17 _ _ _ g8.z) (nb_Gr ?_)
  rw [g8.nx (n := H + 19) (by simp; omega)]
  refine nb_Wg (q_h_init_18 _ _ _ _ _ nH) (nb_Gr ?_)
  have g9 : cs (nb_wr (nb_al (nb_wr (nb_al (nb_wr (nb_al (nb_wr (nb_al (nb_wr (nb_al M4 4 10) H 4 (H + 15)) 5 3) H 5 (H + 16)) 0 8) H 6 (H + 17)) 0 8) H 7 (H + 18)) 0 8) H 8 (H + 19)) (K ++ ch0) := (g8.al (by simp [ch0])).wr
  have e9 : ∀ b, b ≠ H → (nb_wr (nb_al (nb_wr (nb_al (nb_wr (nb_al (nb_wr (nb_al (nb_wr (nb_al M4 4 10) H 4 (H + 15)) 5 3) H 5 (H + 16)) 0 8) H 6 (H + 17)) 0 8) H 7 (H + 18)) 0 8) H 8 (H + 19)).1 b = M4.1 b := fun b h => by rw [nb_wr_b h, nb_al_1, nb_wr_b h, nb_al_1, nb_wr_b h, nb_al_1, nb_wr_b h, nb_al_1, nb_wr_b h, nb_al_1]
  have a9 : ∀ i, (nb_wr (nb_al (nb_wr (nb_al (nb_wr (nb_al (nb_wr (nb_al (nb_wr (nb_al M4 4 10) H 4 (H + 15)) 5 3) H 5 (H + 16)) 0 8) H 6 (H + 17)) 0 8) H 7 (H + 18)) 0 8) H 8 (H + 19)).1 H i = if i = 8 then H + 19 else if i = 7 then H + 18 else if i = 6 then H + 17 else if i = 5 then H + 16 else if i = 4 then H + 15 else M4.1 H i := fun i => by simp [nb_wr_1, nb_al_1]
  generalize nb_wr (nb_al (nb_wr (nb_al (nb_wr (nb_al (nb_wr (nb_al (nb_wr (nb_al M4 4 10) H 4 (H + 15)) 5 3) H 5 (H + 16)) 0 8) H 6 (H + 17)) 0 8) H 7 (H + 18)) 0 8) H 8 (H + 19) = M9 at g9 e9 a9 ⊢
  refine nb_Wg (q_h_init_19 _ _ _) (nb_Gr ?_)
  have b9 : ∀ b, b ≠ H → b ≠ H + 4 → M9.1 b = M.1 b := fun b h h4 => (e9 b h).trans (e4 b h h4)
  -- the staff
  have lv : ∀ (m s : Nat), s + m = 3 → ∀ N, cs N (K ++ (ch0 ++ List.replicate 10 (8, 15) ++ cv s)) → (∀ b, (b < H ∨ H + 36 ≤ b) → N.1 b = M.1 b) → (∀ i, N.1 H i = M9.1 H i) → (∀ i, 0 ≤ i → i < 10 → N.1 (H + 4) i = H + 5 + i) → (∀ i, 0 ≤ i → i < 10 → N.1 (H + 15) i = H + 20 + i) → (∀ p, 0 ≤ p → p < 10 → N.1 (H + 20 + p) = cgf (M.1 (H + 20 + p))) → (∀ i, 0 ≤ i → i < (s : Int) → N.1 (H + 16) i = H + 30 + 2 * i ∧ N.1 (H + 30 + 2 * i) 0 = H + 30 + 2 * i + 1) → nb_W 218 26 [(12, H), (0, (s : Int))] [] N (fun r M' => r = [] ∧ cs M' (K ++ nb_KH.tail) ∧ (∀ b, (b < H ∨ H + 36 ≤ b) → M'.1 b = M.1 b) ∧ (∀ a i v, nb_fh H a i v → M'.1 a i = v) ∧ (∀ i, 9 ≤ i → M'.1 H i = M.1 H i) ∧ ∀ p, 0 ≤ p → p < 10 → M'.1 (H + 20 + p) = cgf (M.1 (H + 20 + p))) := by
    intro m
    induction m with
    | zero =>
      intro s hs N hN f1 f2 f3 f4 f5 f6
      have es : s = 3 := by omega
      subst es
      refine nb_Wg (q_h_init_26 _ _ _) (nb_Gf (by decide) (nb_Gr ?_))
      refine nb_Wg (q_h_init_31 _ _ _) (nb_Gs ⟨rfl, hN, f1, fun a i v q => ?_, fun i hi => ?_, f5⟩)
      · unfold nb_fh at q
        rcases q with ⟨q1, q2, q3, q4⟩ | ⟨q1, q2, q3⟩ | ⟨q1, q2, q3, q4⟩ | ⟨q1, q2, q3, q4⟩ | ⟨q1, q2, q3, q4⟩ | ⟨q1, q2, q3, q4⟩ | ⟨s, q0, q1, q2, q3, q4⟩
        · subst q1 q4
          rw [f2, a9, a4, a3, a2, a1]
          (repeat' split) <;> omega
        · subst q1 q2 q3
          rw [f2, a9, a4]
          rfl
        · subst q1 q4
          rw [f2, a9]
          (repeat' split) <;> omega
        · subst q1 q4
          exact f3 i q2 q3
        · subst q1 q4
          exact f4 i q2 q3
        · subst q1 q4
          exact (f6 i q2 (by omega)).1
        · subst q2 q3 q4
          exact (f6 s q0 (by omega)).2
      · rw [f2, a9, if_neg (by omega), if_neg (by omega), if_neg (by omega), if_neg (by omega), if_neg (by omega), a4, if_neg (by omega), a3, if_neg (by omega), a2, if_neg (by omega), a1, if_neg (by omega)]
    | succ m ih =>
      intro s hs N hN f1 f2 f3 f4 f5 f6
      refine nb_Wg (q_h_init_26 _ _ _) (nb_Gt (by omega) (nb_Gr ?_))
      refine nb_Wg (q_h_init_27 _ _ _ nH hN.z) (nb_Gr ?_)
      have nx : nb_nx N = H + 30 + 2 * s := hN.nx (by simp [cv_len, ch0_len]; omega)
      rw [nx, show nb_rd N H 5 = H + 16 from (f2 5).trans (a9 5)]
      refine nb_Wg (q_h_init_28 _ _ _ _ _ _ (by omega)) (nb_Gb ?_)
      have k1 : cs (nb_al N 13 8) (K ++ (ch0 ++ List.replicate 10 (8, 15) ++ cv s ++ [(13, 8)])) := hN.al (by simp)
      refine nb_Wp (ci_sv (a := H + 30 + 2 * s) k1 (by simp [cv_len, ch0_len]; omega) (by omega)) ?_
      have k2 : cs (nb_wr (nb_al (nb_al N 13 8) 0 2) (H + 30 + 2 * s) 0 (H + 30 + 2 * s + 1)) (K ++ (ch0 ++ List.replicate 10 (8, 15) ++ cv (s + 1))) := (k1.al (by rw [show cv (s + 1) = cv s ++ [(13, 8), (0, 2)] from rfl]; simp)).wr
      refine nb_Wg (q_h_init_29 _ _ _ _ _ _ (by omega) (by omega) (by omega) (by omega) ?_) (nb_Gr ?_)
      · rw [k2.ln (j := 15) (k := 5) (m := 3) hK (by omega) rfl]
        omega
      refine nb_Wg (q_h_init_30 _ _ _) (nb_Gr ?_)
      rw [nb_add_eq (by omega) (by omega)]
      have fin := ih (s + 1) (by omega) (nb_wr (nb_wr (nb_al (nb_al N 13 8) 0 2) (H + 30 + 2 * s) 0 (H + 30 + 2 * s + 1)) (H + 16) s (H + 30 + 2 * s)) k2.wr (fun b hb => by rw [nb_wr_b (by omega), nb_wr_b (by omega)]; exact f1 b hb) (fun i => by rw [nb_wr_b (by omega), nb_wr_b (by omega)]; exact f2 i) (fun i i0 i1 => by rw [nb_wr_b (by omega), nb_wr_b (by omega)]; exact f3 i i0 i1) (fun i i0 i1 => by rw [nb_wr_b (by omega), nb_wr_b (by omega)]; exact f4 i i0 i1) (fun p p0 p1 => by rw [nb_wr_b (by omega), nb_wr_b (by omega)]; exact f5 p p0 p1) (fun i i0 i1 => ?_)
      · rw [show ((s + 1 : Nat) : Int) = (s : Int) + 1 by omega] at fin
        exact fin
      · by_cases c : i = s
        · subst c
          exact ⟨by rw [nb_wr_1, if_pos ⟨rfl, rfl⟩], by rw [nb_wr_b (by omega), nb_wr_1, if_pos ⟨rfl, rfl⟩]⟩
        · have f := f6 i i0 (by omega)
          exact ⟨by rw [nb_wr_1, if_neg (by omega), nb_wr_b (by omega)]; exact f.1, by rw [nb_wr_b (by omega), nb_wr_b (by omega)]; exact f.2⟩
  -- the people
  have lg : ∀ (m p : Nat), p + m = 10 → ∀ N, cs N (K ++ (ch0 ++ List.replicate p (8, 15))) → (∀ b, (b < H ∨ H + 20 + p ≤ b) → N.1 b = M.1 b) → (∀ i, N.1 H i = M9.1 H i) → (∀ i, 0 ≤ i → i < 10 → N.1 (H + 4) i = H + 5 + i) → (∀ i, 0 ≤ i → i < (p : Int) → N.1 (H + 15) i = H + 20 + i) → (∀ q, 0 ≤ q → q < (p : Int) → N.1 (H + 20 + q) = cgf (M.1 (H + 20 + q))) → nb_W 218 20 [(12, H), (0, (p : Int))] [] N (fun r M' => r = [] ∧ cs M' (K ++ nb_KH.tail) ∧ (∀ b, (b < H ∨ H + 36 ≤ b) → M'.1 b = M.1 b) ∧ (∀ a i v, nb_fh H a i v → M'.1 a i = v) ∧ (∀ i, 9 ≤ i → M'.1 H i = M.1 H i) ∧ ∀ p, 0 ≤ p → p < 10 → M'.1 (H + 20 + p) = cgf (M.1 (H + 20 + p))) := by
    intro m
    induction m with
    | zero =>
      intro p hp N hN f1 f2 f3 f4 f5
      have ep : p = 10 := by omega
      subst ep
      refine nb_Wg (q_h_init_20 _ _ _) (nb_Gf (by decide) (nb_Gr ?_))
      refine nb_Wg (q_h_init_25 _ _ _) (nb_Gr ?_)
      exact lv 3 0 rfl N (by simpa [cv] using hN) (fun b hb => f1 b (by omega)) f2 f3 f4 f5 (fun i i0 i1 => absurd i1 (by omega))
    | succ m ih =>
      intro p hp N hN f1 f2 f3 f4 f5
      refine nb_Wg (q_h_init_20 _ _ _) (nb_Gt (by omega) (nb_Gr ?_))
      refine nb_Wg (q_h_init_21 _ _ _ nH hN.z) (nb_Gr ?_)
      have nx : nb_nx N = H + 20 + p := hN.nx (by simp [ch0_len]; omega)
      rw [nx, show nb_rd N H 4 = H + 15 from (f2 4).trans (a9 4)]
      refine nb_Wg (q_h_init_22 _ _ _ _ _ _ (by omega)) (nb_Gb ?_)
      refine nb_Wp (nb_g_init _ _ (by omega)) ?_
      have k2 : cs (cg N (H + 20 + p)) (K ++ (ch0 ++ List.replicate (p + 1) (8, 15))) := hN.al (by rw [List.replicate_succ']; simp)
      show nb_W 218 23 [(12, H), (0, (p : Int))] [(11, H + 20 + p), (0, (p : Int)), (7, H + 15)] (cg N (H + 20 + p)) _
      refine nb_Wg (q_h_init_23 _ _ _ _ _ _ (by omega) (by omega) (by omega) (by omega) ?_) (nb_Gr ?_)
      · rw [k2.ln (j := 14) (k := 4) (m := 10) hK (by omega) rfl]
        omega
      refine nb_Wg (q_h_init_24 _ _ _) (nb_Gr ?_)
      rw [nb_add_eq (by omega) (by omega)]
      have fin := ih (p + 1) (by omega) (nb_wr (cg N (H + 20 + p)) (H + 15) p (H + 20 + p)) k2.wr (fun b hb => by rw [nb_wr_b (by omega), cg_b (by omega)]; exact f1 b (by omega)) (fun i => by rw [nb_wr_b (by omega), cg_b (by omega)]; exact f2 i) (fun i i0 i1 => by rw [nb_wr_b (by omega), cg_b (by omega)]; exact f3 i i0 i1) (fun i i0 i1 => ?_) (fun q q0 q1 => ?_)
      · rw [show ((p + 1 : Nat) : Int) = (p : Int) + 1 by omega] at fin
        exact fin
      · by_cases c : i = p
        · subst c
          rw [nb_wr_1, if_pos ⟨rfl, rfl⟩]
        · rw [nb_wr_1, if_neg (by omega), cg_b (by omega)]; exact f4 i i0 (by omega)
      · by_cases c : q = p
        · subst c
          rw [nb_wr_b (by omega), cg_f, f1 _ (by omega)]
        · rw [nb_wr_b (by omega), cg_b (by omega)]; exact f5 q q0 (by omega)
  exact lg 10 0 rfl M9 (by simpa using g9) (fun b hb => b9 b (by omega) (by omega)) (fun i => rfl) (fun i i0 i1 => by rw [e9 _ (by omega)]; exact r4 i i0 i1) (fun i i0 i1 => absurd i1 (by omega)) (fun i i0 i1 => absurd i1 (by omega))
