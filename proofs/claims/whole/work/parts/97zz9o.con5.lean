/-- what is kept, as made: a so many before, c so many images -/
def cp (M : nb_M) (R : Int → Int) (a c : Nat) : Prop := M.1 1 = R ∧ ck M ∧ zf M (273 + 22 * (a + c : Nat)) ∧ (∀ i, 0 ≤ i → i < (a : Int) → M.1 128 i = 273 + 22 * i) ∧ (∀ i, 0 ≤ i → i < (c : Int) → M.1 129 i = 537 + 22 * i) ∧ ∀ j : Int, 0 ≤ j → j < ((a + c : Nat) : Int) → sk M (273 + 22 * j)
theorem ci_c2 {L : Nat} {R : Int → Int} {Q : List nb_V → nb_M → Prop} (H : ∀ M', cs M' (cc L ++ cy 15) → cp M' R 12 3 → Q [] M') : ∀ (m c : Nat), c + m = 3 → ∀ N, cs N (cc L ++ cy (12 + c)) → cp N R 12 c → nb_W 1 37 [(19, 2), (0, (c : Int))] [] N Q := by
  intro m
  induction m with
  | zero =>
    intro c hc N hN h
    have ec : c = 3 := by omega
    subst ec
    refine nb_Wg (q_c_init_37 ..) (nb_Gf (by decide) (nb_Gr ?_))
    exact nb_Wg (q_c_init_42 ..) (nb_Gs (H N hN h))
  | succ m ih =>
    intro c hc N hN h
    obtain ⟨h1, h2, h3, h4, h5, h6⟩ := h
    have a2 := h2.2.2.2.2.2.2.2.2.2.2.2
    refine nb_Wg (q_c_init_37 ..) (nb_Gt (by omega) (nb_Gr ?_))
    refine nb_Wg (q_c_init_38 (h1 := by decide) (h2 := hN.z) ..) (nb_Gr ?_)
    have nx : nb_nx N = 537 + 22 * c := hN.nx (by rw [List.length_append, cc_len, cy_len]; omega)
    rw [nx, show nb_rd N 2 10 = 129 from a2 10]
    refine nb_Wg (q_c_init_39 (h1 := by decide) (h2 := by omega) ..) (nb_Gb ?_)
    rw [show nb_rd (nb_al N 12 9) 2 2 = 4 from a2 2]
    have g1 : cs (nb_al N 12 9) (cc L ++ cy (12 + c) ++ [(12, 9)]) := hN.al rfl
    refine nb_W.imp (ci_sk (A := 537 + 22 * (c : Int)) g1 (by rw [List.length_append, List.length_append, cc_len, cy_len]; simp <;> omega) (by omega) (fun b hb i => h3 b (by omega) i)) ?_
    rintro r N2 ⟨rfl, g2, k2, s2⟩
    have g2 : cs N2 (cc L ++ cy (12 + (c + 1))) := by
      have e : cc L ++ cy (12 + c) ++ [(12, 9)] ++ nb_KS.tail = cc L ++ cy (12 + (c + 1)) := by
        show _ = cc L ++ (cy (12 + c) ++ nb_KS)
        rw [List.append_assoc, List.append_assoc]
        rfl
      rw [← e]
      exact g2
    refine nb_Wg (q_c_init_40 (h1 := by omega) (h2 := by decide) (h3 := by decide) (h4 := by omega) (h5 := ?_) ..) (nb_Gr ?_)
    · have e : nb_ln N2 129 = 3 := by
        unfold nb_ln
        rw [g2]
        show (match (cc L ++ cy (12 + (c + 1)))[129]? with | some q => (q.2 : Int) | none => 0) = 3
        rw [List.getElem?_append_left (by rw [cc_len]; decide)]
        rfl
      omega
    refine nb_Wg (q_c_init_41 ..) (nb_Gr ?_)
    rw [nb_add_eq (by omega) (by omega)]
    have kb : ∀ b, b ≠ 129 → (b < 537 + 22 * (c : Int) ∨ 537 + 22 * (c : Int) + 22 ≤ b) → (nb_wr N2 129 c (537 + 22 * (c : Int))).1 b = N.1 b := fun b h x => by rw [nb_wr_b h, k2 b x, nb_al_1]
    have fin := ih (c + 1) (by omega) (nb_wr N2 129 c (537 + 22 * (c : Int))) g2.wr ⟨?_, h2.mv (fun b x y z w => kb b w (by omega)), fun b hb i => ?_, fun i i0 i1 => ?_, fun i i0 i1 => ?_, fun j j0 j1 => ?_⟩
    · rw [show ((c + 1 : Nat) : Int) = (c : Int) + 1 by omega] at fin
      exact fin
    · rw [kb 1 (by decide) (by omega)]; exact h1
    · rw [kb b (by omega) (by omega)]; exact h3 b (by omega) i
    · rw [kb 128 (by decide) (by omega)]; exact h4 i i0 i1
    · by_cases e : i = c
      · subst e
        rw [nb_wr_1, if_pos ⟨rfl, rfl⟩]
      · rw [nb_wr_1, if_neg (by omega), k2 129 (by omega), nb_al_1]; exact h5 i i0 (by omega)
    · by_cases e : j = 12 + c
      · rw [e, show (273 : Int) + 22 * (12 + (c : Int)) = 537 + 22 * c by omega]
        exact s2.mv (fun b x y => nb_wr_b (by omega))
      · exact (h6 j j0 (by omega)).mv (fun b x y => kb b (by omega) (by omega))
theorem ci_c1 {L : Nat} {R : Int → Int} {Q : List nb_V → nb_M → Prop} (H : ∀ M', cs M' (cc L ++ cy 15) → cp M' R 12 3 → Q [] M') : ∀ (m a : Nat), a + m = 12 → ∀ N, cs N (cc L ++ cy a) → cp N R a 0 → nb_W 1 31 [(19, 2), (0, (a : Int))] [] N Q := by
  intro m
  induction m with
  | zero =>
    intro a ha N hN h
    have ea : a = 12 := by omega
    subst ea
    refine nb_Wg (q_c_init_31 ..) (nb_Gf (by decide) (nb_Gr ?_))
    refine nb_Wg (q_c_init_36 ..) (nb_Gr ?_)
    exact ci_c2 H 3 0 rfl N hN h
  | succ m ih =>
    intro a ha N hN h
    obtain ⟨h1, h2, h3, h4, h5, h6⟩ := h
    have a2 := h2.2.2.2.2.2.2.2.2.2.2.2
    refine nb_Wg (q_c_init_31 ..) (nb_Gt (by omega) (nb_Gr ?_))
    refine nb_Wg (q_c_init_32 (h1 := by decide) (h2 := hN.z) ..) (nb_Gr ?_)
    have nx : nb_nx N = 273 + 22 * a := hN.nx (by rw [List.length_append, cc_len, cy_len]; omega)
    rw [nx, show nb_rd N 2 7 = 128 from a2 7]
    refine nb_Wg (q_c_init_33 (h1 := by decide) (h2 := by omega) ..) (nb_Gb ?_)
    rw [show nb_rd (nb_al N 12 9) 2 2 = 4 from a2 2]
    have g1 : cs (nb_al N 12 9) (cc L ++ cy a ++ [(12, 9)]) := hN.al rfl
    refine nb_W.imp (ci_sk (A := 273 + 22 * (a : Int)) g1 (by rw [List.length_append, List.length_append, cc_len, cy_len]; simp <;> omega) (by omega) (fun b hb i => h3 b (by omega) i)) ?_
    rintro r N2 ⟨rfl, g2, k2, s2⟩
    have g2 : cs N2 (cc L ++ cy (a + 1)) := by
      have e : cc L ++ cy a ++ [(12, 9)] ++ nb_KS.tail = cc L ++ cy (a + 1) := by
        show _ = cc L ++ (cy a ++ nb_KS)
        rw [List.append_assoc, List.append_assoc]
        rfl
      rw [← e]
      exact g2
    refine nb_Wg (q_c_init_34 (h1 := by omega) (h2 := by decide) (h3 := by decide) (h4 := by omega) (h5 := ?_) ..) (nb_Gr ?_)
    · have e : nb_ln N2 128 = 12 := by
        unfold nb_ln
        rw [g2]
        show (match (cc L ++ cy (a + 1))[128]? with | some q => (q.2 : Int) | none => 0) = 12
        rw [List.getElem?_append_left (by rw [cc_len]; decide)]
        rfl
      omega
    refine nb_Wg (q_c_init_35 ..) (nb_Gr ?_)
    rw [nb_add_eq (by omega) (by omega)]
    have kb : ∀ b, b ≠ 128 → (b < 273 + 22 * (a : Int) ∨ 273 + 22 * (a : Int) + 22 ≤ b) → (nb_wr N2 128 a (273 + 22 * (a : Int))).1 b = N.1 b := fun b h x => by rw [nb_wr_b h, k2 b x, nb_al_1]
    have fin := ih (a + 1) (by omega) (nb_wr N2 128 a (273 + 22 * (a : Int))) g2.wr ⟨?_, h2.mv (fun b x y z w => kb b z (by omega)), fun b hb i => ?_, fun i i0 i1 => ?_, fun i i0 i1 => absurd i1 (by omega), fun j j0 j1 => ?_⟩
    · rw [show ((a + 1 : Nat) : Int) = (a : Int) + 1 by omega] at fin
      exact fin
    · rw [kb 1 (by decide) (by omega)]; exact h1
    · rw [kb b (by omega) (by omega)]; exact h3 b (by omega) i
    · by_cases e : i = a
      · subst e
        rw [nb_wr_1, if_pos ⟨rfl, rfl⟩]
      · rw [nb_wr_1, if_neg (by omega), k2 128 (by omega), nb_al_1]; exact h4 i i0 (by omega)
    · by_cases e : j = a
      · subst e
        exact s2.mv (fun b x y => nb_wr_b (by omega))
      · exact (h6 j j0 (by omega)).mv (fun b x y => kb b (by omega) (by omega))
theorem ci_c {M : nb_M} {L : Nat} {v1 : nb_V} (hM : cs M [(0, 0), (0, L), (16, 18)]) (hz : zf M 2) : nb_W 1 0 [(19, 2), v1] [] M (fun r M' => r = [] ∧ cs M' (cc L ++ cy 15) ∧ cp M' (M.1 1) 12 3) := by
  refine ci_c0 hM hz (fun M1 h1 h2 h3 h4 h5 h6 => ?_)
  exact ci_c1 (R := M.1 1) (fun M' a b => ⟨rfl, a, b⟩) 12 0 rfl M1 (by simpa [cy] using h1) ⟨h2, h4, h3, fun i i0 i1 => absurd i1 (by omega), fun i i0 i1 => absurd i1 (by omega), fun j j0 j1 => absurd j1 (by omega)⟩
