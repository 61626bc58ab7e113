/-! rules, printed by wip/gen -/
def pu_sn (next stir t : Int) : Int := if t < stir ∧ stir < next then stir else next
theorem w_sc_sooner_0 {l0 l1 l2 : Int} {M : nb_M} {Q : List nb_V → nb_M → Prop} (H : (l2 < l1 → (l1 < l0 → Q [(0, l1)] M) ∧ (l0 ≤ l1 → Q [(0, l0)] M)) ∧ (l1 ≤ l2 → Q [(0, l0)] M)) :
    nb_W 259 0 [(0, l0), (0, l1), (0, l2)] [] M Q := by
  replace H := nb_Hw H
  refine nb_Wg (q_sc_sooner_0 _ _ _ _) ?_
  refine nb_Gi (fun c2 => ?_) (fun c2 => ?_)
  · have H := nb_Hw ((nb_Hu H).1 c2)
    refine nb_Gr ?_
    refine nb_Wg (q_sc_sooner_1 _ _ _ _) ?_
    refine nb_Gi (fun c1 => ?_) (fun c1 => ?_)
    · have H := nb_Hw ((nb_Hu H).1 c1)
      refine nb_Gr ?_
      refine nb_Wg (q_sc_sooner_2 _ _ _ _) ?_
      refine nb_Gr ?_
      refine nb_Wg (q_sc_sooner_4 _ _ _ _ _) ?_
      refine nb_Gs ?_
      exact nb_Hu H
    · have H := nb_Hw ((nb_Hu H).2 (by omega))
      have c1 : l0 ≤ l1 := by omega
      refine nb_Gr ?_
      refine nb_Wg (q_sc_sooner_3 _ _ _ _) ?_
      refine nb_Gr ?_
      refine nb_Wg (q_sc_sooner_4 _ _ _ _ _) ?_
      refine nb_Gs ?_
      exact nb_Hu H
  · have H := nb_Hw ((nb_Hu H).2 (by omega))
    have c2 : l1 ≤ l2 := by omega
    refine nb_Gr ?_
    refine nb_Wg (q_sc_sooner_3 _ _ _ _) ?_
    refine nb_Gr ?_
    refine nb_Wg (q_sc_sooner_4 _ _ _ _ _) ?_
    refine nb_Gs ?_
    exact nb_Hu H
theorem sp_sc_sooner {M : nb_M} {a b c : Int} : nb_R nb_P 259 0 [(0, a), (0, b), (0, c)] [] M = some ([(0, pu_sn a b c)], M) := by
  apply nb_Wq
  refine w_sc_sooner_0 ?_
  unfold pu_sn
  repeat' (first | with_reducible apply And.intro | intro _)
  all_goals first | rfl | (simp [*] <;> omega) | (simp only [*]; (repeat' split) <;> first | rfl | omega)
theorem w_sc_serve_0 {A l1 l2 Ho : Int} {v3 v4 v5 : nb_V} {M : nb_M} {Q : List nb_V → nb_M → Prop} (W : nb_Lay M) (hA : nb_sc A) (hHo : nb_hs Ho) (hAh : M.1 A 3 = Ho) (b0_ : 0 ≤ l1 ∧ l1 ≤ 3) (H : nb_W 261 1 [(15, A), (0, l1), (0, l2), (0, 0), v4, v5] [] M Q) :
    nb_W 261 0 [(15, A), (0, l1), (0, l2), v3, v4, v5] [] M Q := by
  replace H := nb_Hw H
  have uhA := hA
  unfold nb_sc at uhA
  have uhHo := hHo
  unfold nb_hs at uhHo
  refine nb_Wg (q_sc_serve_0 _ _ _ _ _ _ _) ?_
  refine nb_Gr ?_
  exact nb_Hu H

theorem w_sc_serve_1 {A l1 l2 l3 Ho : Int} {v4 v5 : nb_V} {M : nb_M} {Q : List nb_V → nb_M → Prop} (W : nb_Lay M) (hA : nb_sc A) (hHo : nb_hs Ho) (hAh : M.1 A 3 = Ho) {cr pe R : Int → Int} {np ns : Int} (b0_ : 0 ≤ l1 ∧ l1 ≤ 3) (b1_ : 0 ≤ l3 ∧ l3 ≤ 10) (H : 0 ≤ M.1 A 4 ∧ M.1 A 4 ≤ 10 ∧ (l3 < M.1 A 4 → pu_V (M.1 (A + 14 + 2 * l1)) (M.1 (A + 14 + 2 * l1 + 1)) cr R l1 ∧ (pu_fh cr R l2 l1 - 1 = (-1) → Q [] M) ∧ (pu_fh cr R l2 l1 - 1 ≠ (-1) → pu_Rw R ∧ 0 ≤ np ∧ np ≤ 10 ∧ ns ≤ 4 ∧ l1 < ns ∧ pu_S M A np ns cr pe R ∧ (pu_nf np cr pe R l1 < 0 → Q [] M) ∧ (0 ≤ pu_nf np cr pe R l1 → nb_W 263 0 [(15, A), (0, l1), (0, pu_fh cr R l2 l1 - 1), (0, pu_nf np cr pe R l1), (0, l2), (98, 0), (98, 0), (98, 0)] [] M (fun r M6 => r = [] ∧ nb_Lay M6 ∧ M6.1 A 3 = Ho ∧ nb_W 261 1 [(15, A), (0, l1), (0, l2), (0, l3 + 1), (0, pu_fh cr R l2 l1 - 1), (0, pu_nf np cr pe R l1)] [] M6 Q)))) ∧ (M.1 A 4 ≤ l3 → Q [] M)) :
    nb_W 261 1 [(15, A), (0, l1), (0, l2), (0, l3), v4, v5] [] M Q := by
  replace H := nb_Hw H
  have uhA := hA
  unfold nb_sc at uhA
  have uhHo := hHo
  unfold nb_hs at uhHo
  obtain ⟨p0_, p1_, H⟩ := H
  replace H := nb_Hw H
  have E1 : nb_rd M A 4 = M.1 A 4 := nb_rd_1 _ _ _
  refine nb_Wg (q_sc_serve_1 _ _ _ _ _ _ _ (by omega)) ?_
  simp only [E1]
  clear E1
  refine nb_Gi (fun c12 => ?_) (fun c12 => ?_)
  · have H := nb_Hw ((nb_Hu H).1 c12)
    refine nb_Gr ?_
    obtain ⟨p0_, H⟩ := H
    replace H := nb_Hw H
    have E2 : nb_rd M A 1 = A + 2 := W.s1 (A := A) hA
    have N3 : nb_ln M (A + 2) = 4 := W.sn2 (A := A) hA
    have E4 : nb_rd M (A + 2) l1 = A + 14 + 2 * l1 := W.sv (A := A) (i := l1) hA (by omega) (by omega)
    refine nb_Wg (q_sc_serve_2 _ _ _ _ _ _ _ (by omega) (by rw [E2]; first | done | omega) (by omega) (by rw [E2, N3]; first | done | omega) (by rw [E2, E4]; first | done | omega)) ?_
    simp only [E2, E4]
    clear E2 N3 E4
    rw [show nb_R nb_P 275 0 [(16, A + 14 + 2 * l1), (0, l2), (98, 0)] [] M = some ([(0, pu_fh cr R l2 l1 - 1)], M) from sp_sv_freeHand (by omega) (W.sv0 (A := A) (i := l1) hA (by omega) (by omega)) (W.snf (A := A) (i := l1) hA (by omega) (by omega)) (by omega) (by assumption)]
    refine nb_Gp ?_
    show nb_W 261 3 [(15, A), (0, l1), (0, l2), (0, l3), v4, v5] [(0, pu_fh cr R l2 l1 - 1)] M _
    refine nb_Wg (q_sc_serve_3 _ _ _ _ _ _ _ _) ?_
    refine nb_Gi (fun c11 => ?_) (fun c11 => ?_)
    · have H := nb_Hw ((nb_Hu H).1 c11)
      refine nb_Gr ?_
      refine nb_Wg (q_sc_serve_4 _ _ _ _ _ _ _) ?_
      refine nb_Gr ?_
      refine nb_Wg (q_sc_serve_6 _ _ _ _ _ _ _ _) ?_
      refine nb_Gt (by decide) ?_
      refine nb_Gr ?_
      refine nb_Wg (q_sc_serve_7 _ _ _ _ _ _ _) ?_
      refine nb_Gs ?_
      exact nb_Hu H
    · have H := nb_Hw ((nb_Hu H).2 (by omega))
      have c11 : pu_fh cr R l2 l1 - 1 ≠ (-1) := by omega
      refine nb_Gr ?_
      obtain ⟨p0_, p1_, p2_, p3_, p4_, p5_, H⟩ := H
      replace H := nb_Hw H
      refine nb_Wg (q_sc_serve_5 _ _ _ _ _ _ _ (by omega)) ?_
      rw [show nb_R nb_P 262 0 [(15, A), (0, l1), (98, 0), (98, 0), (98, 0), (98, 0), (98, 0), (98, 0)] [] M = some ([(0, pu_nf np cr pe R l1)], M) from sp_sc_choice W hA hHo hAh (by assumption) (by omega) (by omega) (by omega) (by assumption)]
      refine nb_Gp ?_
      show nb_W 261 6 [(15, A), (0, l1), (0, l2), (0, l3), (0, pu_fh cr R l2 l1 - 1), v5] [(0, pu_nf np cr pe R l1)] M _
      refine nb_Wg (q_sc_serve_6 _ _ _ _ _ _ _ _) ?_
      refine nb_Gi (fun c10 => ?_) (fun c10 => ?_)
      · have H := nb_Hw ((nb_Hu H).1 c10)
        refine nb_Gr ?_
        refine nb_Wg (q_sc_serve_7 _ _ _ _ _ _ _) ?_
        refine nb_Gs ?_
        exact nb_Hu H
      · have H := nb_Hw ((nb_Hu H).2 (by omega))
        have c10 : 0 ≤ pu_nf np cr pe R l1 := by omega
        refine nb_Gr ?_
        refine nb_Wg (q_sc_serve_8 _ _ _ _ _ _ _ (by omega)) ?_
        refine nb_Gb ?_
        refine nb_W.imp (nb_Hu H) (fun r M6 H => ?_)
        obtain ⟨rfl, W7, g8, H⟩ := H
        replace H := nb_Hw H
        show nb_W 261 9 [(15, A), (0, l1), (0, l2), (0, l3), (0, pu_fh cr R l2 l1 - 1), (0, pu_nf np cr pe R l1)] [] M6 _
        have E9 : nb_add l3 1 = l3 + 1 := nb_add_eq (by omega) (by omega)
        refine nb_Wg (q_sc_serve_9 _ _ _ _ _ _ _) ?_
        simp only [E9]
        clear E9
        refine nb_Gr ?_
        exact nb_Hu H
  · have H := nb_Hw ((nb_Hu H).2 (by omega))
    have c12 : M.1 A 4 ≤ l3 := by omega
    refine nb_Gr ?_
    refine nb_Wg (q_sc_serve_10 _ _ _ _ _ _ _) ?_
    refine nb_Gs ?_
    exact nb_Hu H

theorem w_sc_runTo_0 {A l1 Ho : Int} {v2 v3 : nb_V} {M : nb_M} {Q : List nb_V → nb_M → Prop} (W : nb_Lay M) (hA : nb_sc A) (hHo : nb_hs Ho) (hAh : M.1 A 3 = Ho) (b0_ : 0 ≤ l1 ∧ l1 ≤ 2000) (H : nb_W 257 1 [(15, A), (0, l1), (0, M.1 A 7), v3] [] M Q) :
    nb_W 257 0 [(15, A), (0, l1), v2, v3] [] M Q := by
  replace H := nb_Hw H
  have uhA := hA
  unfold nb_sc at uhA
  have uhHo := hHo
  unfold nb_hs at uhHo
  have E1 : nb_rd M A 7 = M.1 A 7 := nb_rd_1 _ _ _
  refine nb_Wg (q_sc_runTo_0 _ _ _ _ _ (by omega)) ?_
  simp only [E1]
  clear E1
  refine nb_Gr ?_
  exact nb_Hu H

theorem w_sc_runTo_1 {A l1 l2 Ho : Int} {v3 : nb_V} {M : nb_M} {Q : List nb_V → nb_M → Prop} (W : nb_Lay M) (hA : nb_sc A) (hHo : nb_hs Ho) (hAh : M.1 A 3 = Ho) (b0_ : 0 ≤ l1 ∧ l1 ≤ 2000) (H : (l1 < l2 → Q [] (nb_wr M A 7 (if M.1 A 7 < l1 + 1 then l1 + 1 else M.1 A 7))) ∧ (l2 ≤ l1 → nb_W 257 3 [(15, A), (0, l1), (0, l2), (0, 0)] [] M Q)) :
    nb_W 257 1 [(15, A), (0, l1), (0, l2), v3] [] M Q := by
  replace H := nb_Hw H
  have uhA := hA
  unfold nb_sc at uhA
  have uhHo := hHo
  unfold nb_hs at uhHo
  refine nb_Wg (q_sc_runTo_1 _ _ _ _ _) ?_
  refine nb_Gi (fun c4 => ?_) (fun c4 => ?_)
  · have H := nb_Hw ((nb_Hu H).1 c4)
    refine nb_Gr ?_
    have E1 : nb_rd M A 7 = M.1 A 7 := nb_rd_1 _ _ _
    have E2 : nb_add l1 1 = l1 + 1 := nb_add_eq (by omega) (by omega)
    refine nb_Wg (q_sc_runTo_13 _ _ _ _ _ (by omega)) ?_
    simp only [E1, E2]
    clear E1 E2
    refine nb_Gp ?_
    show nb_W 257 14 [(15, A), (0, l1), (0, l2), v3] [(0, if M.1 A 7 < l1 + 1 then l1 + 1 else M.1 A 7), (15, A)] M _
    refine nb_Wg (q_sc_runTo_14 _ _ _ _ _ _ _ (by omega)) ?_
    have W3 : nb_Lay (nb_wr M A 7 (if M.1 A 7 < l1 + 1 then l1 + 1 else M.1 A 7)) := W.wr (fun w => (nb_nss (A := A) hA (by omega)))
    refine nb_Gr ?_
    refine nb_Wg (q_sc_runTo_15 _ _ _ _ _) ?_
    refine nb_Gs ?_
    exact nb_Hu H
  · have H := nb_Hw ((nb_Hu H).2 (by omega))
    have c4 : l2 ≤ l1 := by omega
    refine nb_Gr ?_
    refine nb_Wg (q_sc_runTo_2 _ _ _ _ _) ?_
    refine nb_Gr ?_
    exact nb_Hu H

theorem w_sc_runTo_3 {A l1 l2 l3 Ho : Int} {M : nb_M} {Q : List nb_V → nb_M → Prop} (W : nb_Lay M) (hA : nb_sc A) (hHo : nb_hs Ho) (hAh : M.1 A 3 = Ho) (b0_ : 0 ≤ l1 ∧ l1 ≤ 2000) (b1_ : 0 ≤ l2 ∧ l2 ≤ 3000) (b2_ : 0 ≤ l3 ∧ l3 ≤ 10) (H : 0 ≤ M.1 A 4 ∧ M.1 A 4 ≤ 10 ∧ (l3 < M.1 A 4 → nb_W 260 0 [(11, A + 4 + l3), (0, l2)] [] M (fun r M6 => r = [] ∧ nb_Lay M6 ∧ M6.1 A 3 = Ho ∧ nb_W 257 3 [(15, A), (0, l1), (0, l2), (0, l3 + 1)] [] M6 Q)) ∧ (M.1 A 4 ≤ l3 → nb_W 257 7 [(15, A), (0, l1), (0, l2), (0, 0)] [] M Q)) :
    nb_W 257 3 [(15, A), (0, l1), (0, l2), (0, l3)] [] M Q := by
  replace H := nb_Hw H
  have uhA := hA
  unfold nb_sc at uhA
  have uhHo := hHo
  unfold nb_hs at uhHo
  obtain ⟨p0_, p1_, H⟩ := H
  replace H := nb_Hw H
  have E1 : nb_rd M A 4 = M.1 A 4 := nb_rd_1 _ _ _
  refine nb_Wg (q_sc_runTo_3 _ _ _ _ _ (by omega)) ?_
  simp only [E1]
  clear E1
  refine nb_Gi (fun c10 => ?_) (fun c10 => ?_)
  · have H := nb_Hw ((nb_Hu H).1 c10)
    refine nb_Gr ?_
    have E2 : nb_rd M A 0 = A + 1 := W.s0 (A := A) hA
    have N3 : nb_ln M (A + 1) = 10 := W.sn1 (A := A) hA
    have E4 : nb_rd M (A + 1) l3 = A + 4 + l3 := W.sg (A := A) (i := l3) hA (by omega) (by omega)
    refine nb_Wg (q_sc_runTo_4 _ _ _ _ _ (by omega) (by rw [E2]; first | done | omega) (by omega) (by rw [E2, N3]; first | done | omega)) ?_
    simp only [E2, E4]
    clear E2 N3 E4
    refine nb_Gb ?_
    refine nb_W.imp (nb_Hu H) (fun r M6 H => ?_)
    obtain ⟨rfl, W7, g8, H⟩ := H
    replace H := nb_Hw H
    show nb_W 257 5 [(15, A), (0, l1), (0, l2), (0, l3)] [] M6 _
    have E9 : nb_add l3 1 = l3 + 1 := nb_add_eq (by omega) (by omega)
    refine nb_Wg (q_sc_runTo_5 _ _ _ _ _) ?_
    simp only [E9]
    clear E9
    refine nb_Gr ?_
    exact nb_Hu H
  · have H := nb_Hw ((nb_Hu H).2 (by omega))
    have c10 : M.1 A 4 ≤ l3 := by omega
    refine nb_Gr ?_
    refine nb_Wg (q_sc_runTo_6 _ _ _ _ _) ?_
    refine nb_Gr ?_
    exact nb_Hu H

theorem w_sc_runTo_7 {A l1 l2 l3 Ho : Int} {M : nb_M} {Q : List nb_V → nb_M → Prop} (W : nb_Lay M) (hA : nb_sc A) (hHo : nb_hs Ho) (hAh : M.1 A 3 = Ho) (b0_ : 0 ≤ l1 ∧ l1 ≤ 2000) (b1_ : 0 ≤ l2 ∧ l2 ≤ 3000) (b2_ : 0 ≤ l3 ∧ l3 ≤ 4) (H : 0 ≤ M.1 A 5 ∧ M.1 A 5 ≤ 4 ∧ (l3 < M.1 A 5 → nb_W 261 0 [(15, A), (0, l3), (0, l2), (98, 0), (98, 0), (98, 0)] [] M (fun r M3 => r = [] ∧ nb_Lay M3 ∧ M3.1 A 3 = Ho ∧ nb_W 257 7 [(15, A), (0, l1), (0, l2), (0, l3 + 1)] [] M3 Q)) ∧ (M.1 A 5 ≤ l3 → nb_W 258 0 [(15, A), (0, l2), (98, 0), (98, 0), (98, 0)] [] M (fun r M9 => ∃ x8 : Int, r = [(0, x8)] ∧ nb_Lay M9 ∧ M9.1 A 3 = Ho ∧ nb_W 257 1 [(15, A), (0, l1), (0, if l2 + 1 < x8 then x8 else l2 + 1), (0, l3)] [] M9 Q))) :
    nb_W 257 7 [(15, A), (0, l1), (0, l2), (0, l3)] [] M Q := by
  replace H := nb_Hw H
  have uhA := hA
  unfold nb_sc at uhA
  have uhHo := hHo
  unfold nb_hs at uhHo
  obtain ⟨p0_, p1_, H⟩ := H
  replace H := nb_Hw H
  have E1 : nb_rd M A 5 = M.1 A 5 := nb_rd_1 _ _ _
  refine nb_Wg (q_sc_runTo_7 _ _ _ _ _ (by omega)) ?_
  simp only [E1]
  clear E1
  refine nb_Gi (fun c12 => ?_) (fun c12 => ?_)
  · have H := nb_Hw ((nb_Hu H).1 c12)
    refine nb_Gr ?_
    refine nb_Wg (q_sc_runTo_8 _ _ _ _ _ (by omega)) ?_
    refine nb_Gb ?_
    refine nb_W.imp (nb_Hu H) (fun r M3 H => ?_)
    obtain ⟨rfl, W4, g5, H⟩ := H
    replace H := nb_Hw H
    show nb_W 257 9 [(15, A), (0, l1), (0, l2), (0, l3)] [] M3 _
    have E6 : nb_add l3 1 = l3 + 1 := nb_add_eq (by omega) (by omega)
    refine nb_Wg (q_sc_runTo_9 _ _ _ _ _) ?_
    simp only [E6]
    clear E6
    refine nb_Gr ?_
    exact nb_Hu H
  · have H := nb_Hw ((nb_Hu H).2 (by omega))
    have c12 : M.1 A 5 ≤ l3 := by omega
    refine nb_Gr ?_
    have E7 : nb_add l2 1 = l2 + 1 := nb_add_eq (by omega) (by omega)
    refine nb_Wg (q_sc_runTo_10 _ _ _ _ _ (by omega)) ?_
    simp only [E7]
    clear E7
    refine nb_Gb ?_
    refine nb_W.imp (nb_Hu H) (fun r M9 H => ?_)
    obtain ⟨x8, rfl, W10, g11, H⟩ := H
    replace H := nb_Hw H
    show nb_W 257 11 [(15, A), (0, l1), (0, l2), (0, l3)] [(0, x8), (0, l2 + 1)] M9 _
    refine nb_Wg (q_sc_runTo_11 _ _ _ _ _ _ _) ?_
    refine nb_Gp ?_
    show nb_W 257 12 [(15, A), (0, l1), (0, l2), (0, l3)] [(0, if l2 + 1 < x8 then x8 else l2 + 1)] M9 _
    refine nb_Wg (q_sc_runTo_12 _ _ _ _ _ _) ?_
    refine nb_Gr ?_
    exact nb_Hu H

theorem w_sc_nextStir_0 {A l1 Ho : Int} {v2 v3 v4 : nb_V} {M : nb_M} {Q : List nb_V → nb_M → Prop} (W : nb_Lay M) (hA : nb_sc A) (hHo : nb_hs Ho) (hAh : M.1 A 3 = Ho) (b0_ : 0 ≤ l1 ∧ l1 ≤ 3000) (H : nb_W 258 1 [(15, A), (0, l1), (0, 1000000), (0, 0), v4] [] M Q) :
    nb_W 258 0 [(15, A), (0, l1), v2, v3, v4] [] M Q := by
  replace H := nb_Hw H
  have uhA := hA
  unfold nb_sc at uhA
  have uhHo := hHo
  unfold nb_hs at uhHo
  refine nb_Wg (q_sc_nextStir_0 _ _ _ _ _ _) ?_
  refine nb_Gr ?_
  exact nb_Hu H

theorem w_sc_nextStir_1 {A l1 l2 l3 Ho : Int} {v4 : nb_V} {M : nb_M} {Q : List nb_V → nb_M → Prop} (W : nb_Lay M) (hA : nb_sc A) (hHo : nb_hs Ho) (hAh : M.1 A 3 = Ho) (b0_ : 0 ≤ l1 ∧ l1 ≤ 3000) (b1_ : 0 ≤ l3 ∧ l3 ≤ 10) (H : 0 ≤ M.1 A 4 ∧ M.1 A 4 ≤ 10 ∧ (l3 < M.1 A 4 → (M.1 (A + 4 + l3) 8 = 0 → 0 ≤ M.1 (A + 4 + l3) 2 ∧ M.1 (A + 4 + l3) 2 ≤ 600 ∧ nb_W 258 1 [(15, A), (0, l1), (0, pu_sn l2 (M.1 (A + 4 + l3) 2) l1), (0, l3 + 1), (11, A + 4 + l3)] [] M Q) ∧ (M.1 (A + 4 + l3) 8 ≠ 0 → (M.1 (A + 4 + l3) 8 = 1 → 0 ≤ M.1 (A + 4 + l3) 2 ∧ M.1 (A + 4 + l3) 2 ≤ 600 ∧ 0 ≤ M.1 (A + 4 + l3) 4 ∧ M.1 (A + 4 + l3) 4 ≤ 600 ∧ nb_W 258 1 [(15, A), (0, l1), (0, pu_sn (pu_sn l2 (M.1 (A + 4 + l3) 2 + (M.1 (A + 4 + l3) 4)) l1) (M.1 (A + 4 + l3) 6) l1), (0, l3 + 1), (11, A + 4 + l3)] [] M Q) ∧ (M.1 (A + 4 + l3) 8 ≠ 1 → nb_W 258 1 [(15, A), (0, l1), (0, l2), (0, l3 + 1), (11, A + 4 + l3)] [] M Q))) ∧ (M.1 A 4 ≤ l3 → nb_W 258 11 [(15, A), (0, l1), (0, l2), (0, 0), v4] [] M Q)) :
    nb_W 258 1 [(15, A), (0, l1), (0, l2), (0, l3), v4] [] M Q := by
  replace H := nb_Hw H
  have uhA := hA
  unfold nb_sc at uhA
  have uhHo := hHo
  unfold nb_hs at uhHo
  obtain ⟨p0_, p1_, H⟩ := H
  replace H := nb_Hw H
  have E1 : nb_rd M A 4 = M.1 A 4 := nb_rd_1 _ _ _
  refine nb_Wg (q_sc_nextStir_1 _ _ _ _ _ _ (by omega)) ?_
  simp only [E1]
  clear E1
  refine nb_Gi (fun c17 => ?_) (fun c17 => ?_)
  · have H := nb_Hw ((nb_Hu H).1 c17)
    refine nb_Gr ?_
    have E2 : nb_rd M A 0 = A + 1 := W.s0 (A := A) hA
    have N3 : nb_ln M (A + 1) = 10 := W.sn1 (A := A) hA
    have E4 : nb_rd M (A + 1) l3 = A + 4 + l3 := W.sg (A := A) (i := l3) hA (by omega) (by omega)
    have E5 : nb_rd M (A + 4 + l3) 8 = M.1 (A + 4 + l3) 8 := nb_rd_1 _ _ _
    refine nb_Wg (q_sc_nextStir_2 _ _ _ _ _ _ (by omega) (by rw [E2]; first | done | omega) (by omega) (by rw [E2, N3]; first | done | omega) (by rw [E2, E4]; first | done | omega)) ?_
    simp only [E2, E4, E5]
    clear E2 N3 E4 E5
    refine nb_Gi (fun c16 => ?_) (fun c16 => ?_)
    · have H := nb_Hw ((nb_Hu H).1 c16)
      refine nb_Gr ?_
      obtain ⟨p0_, p1_, H⟩ := H
      replace H := nb_Hw H
      have E6 : nb_rd M (A + 4 + l3) 2 = M.1 (A + 4 + l3) 2 := nb_rd_1 _ _ _
      refine nb_Wg (q_sc_nextStir_3 _ _ _ _ _ _ (by omega)) ?_
      simp only [E6]
      clear E6
      rw [show nb_R nb_P 259 0 [(0, l2), (0, M.1 (A + 4 + l3) 2), (0, l1)] [] M = some ([(0, pu_sn l2 (M.1 (A + 4 + l3) 2) l1)], M) from sp_sc_sooner]
      refine nb_Gp ?_
      show nb_W 258 4 [(15, A), (0, l1), (0, l2), (0, l3), (11, A + 4 + l3)] [(0, pu_sn l2 (M.1 (A + 4 + l3) 2) l1)] M _
      refine nb_Wg (q_sc_nextStir_4 _ _ _ _ _ _ _) ?_
      refine nb_Gr ?_
      have E7 : nb_add l3 1 = l3 + 1 := nb_add_eq (by omega) (by omega)
      refine nb_Wg (q_sc_nextStir_9 _ _ _ _ _ _) ?_
      simp only [E7]
      clear E7
      refine nb_Gr ?_
      exact nb_Hu H
    · have H := nb_Hw ((nb_Hu H).2 (by omega))
      have c16 : M.1 (A + 4 + l3) 8 ≠ 0 := by omega
      refine nb_Gr ?_
      have E8 : nb_rd M (A + 4 + l3) 8 = M.1 (A + 4 + l3) 8 := nb_rd_1 _ _ _
      refine nb_Wg (q_sc_nextStir_5 _ _ _ _ _ _ (by omega)) ?_
      simp only [E8]
      clear E8
      refine nb_Gi (fun c15 => ?_) (fun c15 => ?_)
      · have H := nb_Hw ((nb_Hu H).1 c15)
        refine nb_Gr ?_
        obtain ⟨p0_, p1_, p2_, p3_, H⟩ := H
        replace H := nb_Hw H
        have E9 : nb_rd M (A + 4 + l3) 2 = M.1 (A + 4 + l3) 2 := nb_rd_1 _ _ _
        have E10 : nb_rd M (A + 4 + l3) 4 = M.1 (A + 4 + l3) 4 := nb_rd_1 _ _ _
        have E11 : nb_add (M.1 (A + 4 + l3) 2) (M.1 (A + 4 + l3) 4) = M.1 (A + 4 + l3) 2 + (M.1 (A + 4 + l3) 4) := nb_add_eq (by omega) (by omega)
        refine nb_Wg (q_sc_nextStir_6 _ _ _ _ _ _ (by omega)) ?_
        simp only [E9, E10, E11]
        clear E9 E10 E11
        rw [show nb_R nb_P 259 0 [(0, l2), (0, M.1 (A + 4 + l3) 2 + (M.1 (A + 4 + l3) 4)), (0, l1)] [] M = some ([(0, pu_sn l2 (M.1 (A + 4 + l3) 2 + (M.1 (A + 4 + l3) 4)) l1)], M) from sp_sc_sooner]
        refine nb_Gp ?_
        show nb_W 258 7 [(15, A), (0, l1), (0, l2), (0, l3), (11, A + 4 + l3)] [(0, pu_sn l2 (M.1 (A + 4 + l3) 2 + (M.1 (A + 4 + l3) 4)) l1)] M _
        have E12 : nb_rd M (A + 4 + l3) 6 = M.1 (A + 4 + l3) 6 := nb_rd_1 _ _ _
        refine nb_Wg (q_sc_nextStir_7 _ _ _ _ _ _ _ (by omega)) ?_
        simp only [E12]
        clear E12
        rw [show nb_R nb_P 259 0 [(0, pu_sn l2 (M.1 (A + 4 + l3) 2 + (M.1 (A + 4 + l3) 4)) l1), (0, M.1 (A + 4 + l3) 6), (0, l1)] [] M = some ([(0, pu_sn (pu_sn l2 (M.1 (A + 4 + l3) 2 + (M.1 (A + 4 + l3) 4)) l1) (M.1 (A + 4 + l3) 6) l1)], M) from sp_sc_sooner]
        refine nb_Gp ?_
        show nb_W 258 8 [(15, A), (0, l1), (0, pu_sn l2 (M.1 (A + 4 + l3) 2 + (M.1 (A + 4 + l3) 4)) l1), (0, l3), (11, A + 4 + l3)] [(0, pu_sn (pu_sn l2 (M.1 (A + 4 + l3) 2 + (M.1 (A + 4 + l3) 4)) l1) (M.1 (A + 4 + l3) 6) l1)] M _
        refine nb_Wg (q_sc_nextStir_8 _ _ _ _ _ _ _) ?_
        refine nb_Gr ?_
        have E13 : nb_add l3 1 = l3 + 1 := nb_add_eq (by omega) (by omega)
        refine nb_Wg (q_sc_nextStir_9 _ _ _ _ _ _) ?_
        simp only [E13]
        clear E13
        refine nb_Gr ?_
        exact nb_Hu H
      · have H := nb_Hw ((nb_Hu H).2 (by omega))
        have c15 : M.1 (A + 4 + l3) 8 ≠ 1 := by omega
        refine nb_Gr ?_
        have E14 : nb_add l3 1 = l3 + 1 := nb_add_eq (by omega) (by omega)
        refine nb_Wg (q_sc_nextStir_9 _ _ _ _ _ _) ?_
        simp only [E14]
        clear E14
        refine nb_Gr ?_
        exact nb_Hu H
  · have H := nb_Hw ((nb_Hu H).2 (by omega))
    have c17 : M.1 A 4 ≤ l3 := by omega
    refine nb_Gr ?_
    refine nb_Wg (q_sc_nextStir_10 _ _ _ _ _ _) ?_
    refine nb_Gr ?_
    exact nb_Hu H

theorem w_sc_nextStir_11 {A l1 l2 l3 Ho : Int} {v4 : nb_V} {M : nb_M} {Q : List nb_V → nb_M → Prop} (W : nb_Lay M) (hA : nb_sc A) (hHo : nb_hs Ho) (hAh : M.1 A 3 = Ho) (b0_ : 0 ≤ l1 ∧ l1 ≤ 3000) (b1_ : 0 ≤ l3 ∧ l3 ≤ 4) (H : 0 ≤ M.1 A 5 ∧ M.1 A 5 ≤ 4 ∧ (l3 < M.1 A 5 → nb_W 258 13 [(15, A), (0, l1), (0, l2), (0, l3), (0, 0)] [] M Q) ∧ (M.1 A 5 ≤ l3 → Q [(0, l2)] M)) :
    nb_W 258 11 [(15, A), (0, l1), (0, l2), (0, l3), v4] [] M Q := by
  replace H := nb_Hw H
  have uhA := hA
  unfold nb_sc at uhA
  have uhHo := hHo
  unfold nb_hs at uhHo
  obtain ⟨p0_, p1_, H⟩ := H
  replace H := nb_Hw H
  have E1 : nb_rd M A 5 = M.1 A 5 := nb_rd_1 _ _ _
  refine nb_Wg (q_sc_nextStir_11 _ _ _ _ _ _ (by omega)) ?_
  simp only [E1]
  clear E1
  refine nb_Gi (fun c2 => ?_) (fun c2 => ?_)
  · have H := nb_Hw ((nb_Hu H).1 c2)
    refine nb_Gr ?_
    refine nb_Wg (q_sc_nextStir_12 _ _ _ _ _ _) ?_
    refine nb_Gr ?_
    exact nb_Hu H
  · have H := nb_Hw ((nb_Hu H).2 (by omega))
    have c2 : M.1 A 5 ≤ l3 := by omega
    refine nb_Gr ?_
    refine nb_Wg (q_sc_nextStir_17 _ _ _ _ _ _) ?_
    refine nb_Gs ?_
    exact nb_Hu H

theorem w_sc_nextStir_13 {A l1 l2 l3 l4 Ho : Int} {M : nb_M} {Q : List nb_V → nb_M → Prop} (W : nb_Lay M) (hA : nb_sc A) (hHo : nb_hs Ho) (hAh : M.1 A 3 = Ho) (b0_ : 0 ≤ l1 ∧ l1 ≤ 3000) (b1_ : 0 ≤ l3 ∧ l3 ≤ 3) (b2_ : 0 ≤ l4 ∧ l4 ≤ 2) (H : (l4 < 2 → nb_W 258 13 [(15, A), (0, l1), (0, pu_sn l2 (M.1 ((A + 14 + 2 * l3) + 1) l4) l1), (0, l3), (0, l4 + 1)] [] M Q) ∧ (2 ≤ l4 → nb_W 258 11 [(15, A), (0, l1), (0, l2), (0, l3 + 1), (0, l4)] [] M Q)) :
    nb_W 258 13 [(15, A), (0, l1), (0, l2), (0, l3), (0, l4)] [] M Q := by
  replace H := nb_Hw H
  have uhA := hA
  unfold nb_sc at uhA
  have uhHo := hHo
  unfold nb_hs at uhHo
  refine nb_Wg (q_sc_nextStir_13 _ _ _ _ _ _) ?_
  refine nb_Gi (fun c9 => ?_) (fun c9 => ?_)
  · have H := nb_Hw ((nb_Hu H).1 c9)
    refine nb_Gr ?_
    have E1 : nb_rd M A 1 = A + 2 := W.s1 (A := A) hA
    have N2 : nb_ln M (A + 2) = 4 := W.sn2 (A := A) hA
    have E3 : nb_rd M (A + 2) l3 = A + 14 + 2 * l3 := W.sv (A := A) (i := l3) hA (by omega) (by omega)
    have E4 : nb_rd M (A + 14 + 2 * l3) 0 = (A + 14 + 2 * l3) + 1 := W.sv0 (A := A) (i := l3) hA (by omega) (by omega)
    have N5 : nb_ln M ((A + 14 + 2 * l3) + 1) = 2 := W.snf (A := A) (i := l3) hA (by omega) (by omega)
    have E6 : nb_rd M ((A + 14 + 2 * l3) + 1) l4 = M.1 ((A + 14 + 2 * l3) + 1) l4 := nb_rd_1 _ _ _
    refine nb_Wg (q_sc_nextStir_14 _ _ _ _ _ _ (by omega) (by rw [E1]; first | done | omega) (by omega) (by rw [E1, N2]; first | done | omega) (by rw [E1, E3]; first | done | omega) (by rw [E1, E3, E4]; first | done | omega) (by omega) (by rw [E1, E3, E4, N5]; first | done | omega)) ?_
    simp only [E1, E3, E4, E6]
    clear E1 N2 E3 E4 N5 E6
    rw [show nb_R nb_P 259 0 [(0, l2), (0, M.1 ((A + 14 + 2 * l3) + 1) l4), (0, l1)] [] M = some ([(0, pu_sn l2 (M.1 ((A + 14 + 2 * l3) + 1) l4) l1)], M) from sp_sc_sooner]
    refine nb_Gp ?_
    show nb_W 258 15 [(15, A), (0, l1), (0, l2), (0, l3), (0, l4)] [(0, pu_sn l2 (M.1 ((A + 14 + 2 * l3) + 1) l4) l1)] M _
    have E7 : nb_add l4 1 = l4 + 1 := nb_add_eq (by omega) (by omega)
    refine nb_Wg (q_sc_nextStir_15 _ _ _ _ _ _ _) ?_
    simp only [E7]
    clear E7
    refine nb_Gr ?_
    exact nb_Hu H
  · have H := nb_Hw ((nb_Hu H).2 (by omega))
    have c9 : 2 ≤ l4 := by omega
    refine nb_Gr ?_
    have E8 : nb_add l3 1 = l3 + 1 := nb_add_eq (by omega) (by omega)
    refine nb_Wg (q_sc_nextStir_16 _ _ _ _ _ _) ?_
    simp only [E8]
    clear E8
    refine nb_Gr ?_
    exact nb_Hu H

theorem w_sc_comeOrGo_0 {g l1 : Int} {M : nb_M} {Q : List nb_V → nb_M → Prop} (hg : g ≠ 0) (H : (M.1 g 8 = 0 → (M.1 g 2 = l1 → (M.1 g 6 = (-2) → -2147483648 ≤ l1 - (M.1 g 2) ∧ l1 - (M.1 g 2) ≤ 2147483647 ∧ (l1 - (M.1 g 2) < M.1 g 4 → Q [] (nb_wr M g 8 1)) ∧ (M.1 g 4 ≤ l1 - (M.1 g 2) → Q [] (nb_wr (nb_wr (nb_wr M g 8 1) g 8 4) g 11 l1))) ∧ (M.1 g 6 ≠ (-2) → (l1 < M.1 g 6 → -2147483648 ≤ l1 - (M.1 g 2) ∧ l1 - (M.1 g 2) ≤ 2147483647 ∧ (l1 - (M.1 g 2) < M.1 g 4 → Q [] (nb_wr M g 8 1)) ∧ (M.1 g 4 ≤ l1 - (M.1 g 2) → Q [] (nb_wr (nb_wr (nb_wr M g 8 1) g 8 4) g 11 l1))) ∧ (M.1 g 6 ≤ l1 → Q [] (nb_wr (nb_wr (nb_wr (nb_wr M g 8 1) g 8 3) g 10 l1) g 11 l1)))) ∧ (M.1 g 2 ≠ l1 → Q [] M)) ∧ (M.1 g 8 ≠ 0 → (M.1 g 8 = 1 → (M.1 g 6 = (-2) → -2147483648 ≤ l1 - (M.1 g 2) ∧ l1 - (M.1 g 2) ≤ 2147483647 ∧ (l1 - (M.1 g 2) < M.1 g 4 → Q [] M) ∧ (M.1 g 4 ≤ l1 - (M.1 g 2) → Q [] (nb_wr (nb_wr M g 8 4) g 11 l1))) ∧ (M.1 g 6 ≠ (-2) → (l1 < M.1 g 6 → -2147483648 ≤ l1 - (M.1 g 2) ∧ l1 - (M.1 g 2) ≤ 2147483647 ∧ (l1 - (M.1 g 2) < M.1 g 4 → Q [] M) ∧ (M.1 g 4 ≤ l1 - (M.1 g 2) → Q [] (nb_wr (nb_wr M g 8 4) g 11 l1))) ∧ (M.1 g 6 ≤ l1 → Q [] (nb_wr (nb_wr (nb_wr M g 8 3) g 10 l1) g 11 l1)))) ∧ (M.1 g 8 ≠ 1 → Q [] M))) :
    nb_W 260 0 [(11, g), (0, l1)] [] M Q := by
  replace H := nb_Hw H
  have E1 : nb_rd M g 8 = M.1 g 8 := nb_rd_1 _ _ _
  refine nb_Wg (q_sc_comeOrGo_0 _ _ _ (by omega)) ?_
  simp only [E1]
  clear E1
  refine nb_Gi (fun c32 => ?_) (fun c32 => ?_)
  · have H := nb_Hw ((nb_Hu H).1 c32)
    refine nb_Gr ?_
    have E2 : nb_rd M g 2 = M.1 g 2 := nb_rd_1 _ _ _
    refine nb_Wg (q_sc_comeOrGo_1 _ _ _ (by omega)) ?_
    simp only [E2]
    clear E2
    refine nb_Gi (fun c17 => ?_) (fun c17 => ?_)
    · have H := nb_Hw ((nb_Hu H).1 c17)
      refine nb_Gr ?_
      refine nb_Wg (q_sc_comeOrGo_2 _ _ _ (by omega)) ?_
      refine nb_Gr ?_
      have E3 : nb_rd (nb_wr M g 8 1) g 8 = 1 := nb_rd_same _ _ _ _
      refine nb_Wg (q_sc_comeOrGo_3 _ _ _ (by omega)) ?_
      simp only [E3]
      clear E3
      refine nb_Gt (by decide) ?_
      refine nb_Gr ?_
      have E4 : nb_rd (nb_wr M g 8 1) g 6 = M.1 g 6 := nb_rdw (Or.inr (by decide)) (nb_rd_1 _ _ _)
      refine nb_Wg (q_sc_comeOrGo_5 _ _ _ (by omega)) ?_
      simp only [E4]
      clear E4
      refine nb_Gi (fun c15 => ?_) (fun c15 => ?_)
      · have H := nb_Hw ((nb_Hu H).1 c15)
        refine nb_Gr ?_
        obtain ⟨p0_, p1_, H⟩ := H
        replace H := nb_Hw H
        have E5 : nb_rd (nb_wr M g 8 1) g 2 = M.1 g 2 := nb_rdw (Or.inr (by decide)) (nb_rd_1 _ _ _)
        have E6 : nb_sub l1 (M.1 g 2) = l1 - (M.1 g 2) := nb_sub_eq (by omega) (by omega)
        have E7 : nb_rd (nb_wr M g 8 1) g 4 = M.1 g 4 := nb_rdw (Or.inr (by decide)) (nb_rd_1 _ _ _)
        refine nb_Wg (q_sc_comeOrGo_11 _ _ _ (by omega)) ?_
        simp only [E5, E6, E7]
        clear E5 E6 E7
        refine nb_Gi (fun c8 => ?_) (fun c8 => ?_)
        · have H := nb_Hw ((nb_Hu H).1 c8)
          refine nb_Gr ?_
          refine nb_Wg (q_sc_comeOrGo_14 _ _ _) ?_
          refine nb_Gs ?_
          exact nb_Hu H
        · have H := nb_Hw ((nb_Hu H).2 (by omega))
          have c8 : M.1 g 4 ≤ l1 - (M.1 g 2) := by omega
          refine nb_Gr ?_
          refine nb_Wg (q_sc_comeOrGo_12 _ _ _ (by omega)) ?_
          refine nb_Gr ?_
          refine nb_Wg (q_sc_comeOrGo_13 _ _ _ (by omega)) ?_
          refine nb_Gr ?_
          refine nb_Wg (q_sc_comeOrGo_14 _ _ _) ?_
          refine nb_Gs ?_
          exact nb_Hu H
      · have H := nb_Hw ((nb_Hu H).2 (by omega))
        have c15 : M.1 g 6 ≠ (-2) := by omega
        refine nb_Gr ?_
        have E9 : nb_rd (nb_wr M g 8 1) g 6 = M.1 g 6 := nb_rdw (Or.inr (by decide)) (nb_rd_1 _ _ _)
        refine nb_Wg (q_sc_comeOrGo_6 _ _ _ (by omega)) ?_
        simp only [E9]
        clear E9
        refine nb_Gi (fun c14 => ?_) (fun c14 => ?_)
        · have H := nb_Hw ((nb_Hu H).1 c14)
          refine nb_Gr ?_
          obtain ⟨p0_, p1_, H⟩ := H
          replace H := nb_Hw H
          have E10 : nb_rd (nb_wr M g 8 1) g 2 = M.1 g 2 := nb_rdw (Or.inr (by decide)) (nb_rd_1 _ _ _)
          have E11 : nb_sub l1 (M.1 g 2) = l1 - (M.1 g 2) := nb_sub_eq (by omega) (by omega)
          have E12 : nb_rd (nb_wr M g 8 1) g 4 = M.1 g 4 := nb_rdw (Or.inr (by decide)) (nb_rd_1 _ _ _)
          refine nb_Wg (q_sc_comeOrGo_11 _ _ _ (by omega)) ?_
          simp only [E10, E11, E12]
          clear E10 E11 E12
          refine nb_Gi (fun c13 => ?_) (fun c13 => ?_)
          · have H := nb_Hw ((nb_Hu H).1 c13)
            refine nb_Gr ?_
            refine nb_Wg (q_sc_comeOrGo_14 _ _ _) ?_
            refine nb_Gs ?_
            exact nb_Hu H
          · have H := nb_Hw ((nb_Hu H).2 (by omega))
            have c13 : M.1 g 4 ≤ l1 - (M.1 g 2) := by omega
            refine nb_Gr ?_
            refine nb_Wg (q_sc_comeOrGo_12 _ _ _ (by omega)) ?_
            refine nb_Gr ?_
            refine nb_Wg (q_sc_comeOrGo_13 _ _ _ (by omega)) ?_
            refine nb_Gr ?_
            refine nb_Wg (q_sc_comeOrGo_14 _ _ _) ?_
            refine nb_Gs ?_
            exact nb_Hu H
        · have H := nb_Hw ((nb_Hu H).2 (by omega))
          have c14 : M.1 g 6 ≤ l1 := by omega
          refine nb_Gr ?_
          refine nb_Wg (q_sc_comeOrGo_7 _ _ _ (by omega)) ?_
          refine nb_Gr ?_
          refine nb_Wg (q_sc_comeOrGo_8 _ _ _ (by omega)) ?_
          refine nb_Gr ?_
          refine nb_Wg (q_sc_comeOrGo_9 _ _ _ (by omega)) ?_
          refine nb_Gr ?_
          refine nb_Wg (q_sc_comeOrGo_10 _ _ _) ?_
          refine nb_Gr ?_
          refine nb_Wg (q_sc_comeOrGo_14 _ _ _) ?_
          refine nb_Gs ?_
          exact nb_Hu H
    · have H := nb_Hw ((nb_Hu H).2 (by omega))
      have c17 : M.1 g 2 ≠ l1 := by omega
      refine nb_Gr ?_
      have E16 : nb_rd M g 8 = M.1 g 8 := nb_rd_1 _ _ _
      refine nb_Wg (q_sc_comeOrGo_3 _ _ _ (by omega)) ?_
      simp only [E16]
      clear E16
      refine nb_Gf (by omega) ?_
      refine nb_Gr ?_
      refine nb_Wg (q_sc_comeOrGo_4 _ _ _) ?_
      refine nb_Gs ?_
      exact nb_Hu H
  · have H := nb_Hw ((nb_Hu H).2 (by omega))
    have c32 : M.1 g 8 ≠ 0 := by omega
    refine nb_Gr ?_
    have E18 : nb_rd M g 8 = M.1 g 8 := nb_rd_1 _ _ _
    refine nb_Wg (q_sc_comeOrGo_3 _ _ _ (by omega)) ?_
    simp only [E18]
    clear E18
    refine nb_Gi (fun c31 => ?_) (fun c31 => ?_)
    · have H := nb_Hw ((nb_Hu H).1 c31)
      refine nb_Gr ?_
      have E19 : nb_rd M g 6 = M.1 g 6 := nb_rd_1 _ _ _
      refine nb_Wg (q_sc_comeOrGo_5 _ _ _ (by omega)) ?_
      simp only [E19]
      clear E19
      refine nb_Gi (fun c30 => ?_) (fun c30 => ?_)
      · have H := nb_Hw ((nb_Hu H).1 c30)
        refine nb_Gr ?_
        obtain ⟨p0_, p1_, H⟩ := H
        replace H := nb_Hw H
        have E20 : nb_rd M g 2 = M.1 g 2 := nb_rd_1 _ _ _
        have E21 : nb_sub l1 (M.1 g 2) = l1 - (M.1 g 2) := nb_sub_eq (by omega) (by omega)
        have E22 : nb_rd M g 4 = M.1 g 4 := nb_rd_1 _ _ _
        refine nb_Wg (q_sc_comeOrGo_11 _ _ _ (by omega)) ?_
        simp only [E20, E21, E22]
        clear E20 E21 E22
        refine nb_Gi (fun c23 => ?_) (fun c23 => ?_)
        · have H := nb_Hw ((nb_Hu H).1 c23)
          refine nb_Gr ?_
          refine nb_Wg (q_sc_comeOrGo_14 _ _ _) ?_
          refine nb_Gs ?_
          exact nb_Hu H
        · have H := nb_Hw ((nb_Hu H).2 (by omega))
          have c23 : M.1 g 4 ≤ l1 - (M.1 g 2) := by omega
          refine nb_Gr ?_
          refine nb_Wg (q_sc_comeOrGo_12 _ _ _ (by omega)) ?_
          refine nb_Gr ?_
          refine nb_Wg (q_sc_comeOrGo_13 _ _ _ (by omega)) ?_
          refine nb_Gr ?_
          refine nb_Wg (q_sc_comeOrGo_14 _ _ _) ?_
          refine nb_Gs ?_
          exact nb_Hu H
      · have H := nb_Hw ((nb_Hu H).2 (by omega))
        have c30 : M.1 g 6 ≠ (-2) := by omega
        refine nb_Gr ?_
        have E24 : nb_rd M g 6 = M.1 g 6 := nb_rd_1 _ _ _
        refine nb_Wg (q_sc_comeOrGo_6 _ _ _ (by omega)) ?_
        simp only [E24]
        clear E24
        refine nb_Gi (fun c29 => ?_) (fun c29 => ?_)
        · have H := nb_Hw ((nb_Hu H).1 c29)
          refine nb_Gr ?_
          obtain ⟨p0_, p1_, H⟩ := H
          replace H := nb_Hw H
          have E25 : nb_rd M g 2 = M.1 g 2 := nb_rd_1 _ _ _
          have E26 : nb_sub l1 (M.1 g 2) = l1 - (M.1 g 2) := nb_sub_eq (by omega) (by omega)
          have E27 : nb_rd M g 4 = M.1 g 4 := nb_rd_1 _ _ _
          refine nb_Wg (q_sc_comeOrGo_11 _ _ _ (by omega)) ?_
          simp only [E25, E26, E27]
          clear E25 E26 E27
          refine nb_Gi (fun c28 => ?_) (fun c28 => ?_)
          · have H := nb_Hw ((nb_Hu H).1 c28)
            refine nb_Gr ?_
            refine nb_Wg (q_sc_comeOrGo_14 _ _ _) ?_
            refine nb_Gs ?_
            exact nb_Hu H
          · have H := nb_Hw ((nb_Hu H).2 (by omega))
            have c28 : M.1 g 4 ≤ l1 - (M.1 g 2) := by omega
            refine nb_Gr ?_
            refine nb_Wg (q_sc_comeOrGo_12 _ _ _ (by omega)) ?_
            refine nb_Gr ?_
            refine nb_Wg (q_sc_comeOrGo_13 _ _ _ (by omega)) ?_
            refine nb_Gr ?_
            refine nb_Wg (q_sc_comeOrGo_14 _ _ _) ?_
            refine nb_Gs ?_
            exact nb_Hu H
        · have H := nb_Hw ((nb_Hu H).2 (by omega))
          have c29 : M.1 g 6 ≤ l1 := by omega
          refine nb_Gr ?_
          refine nb_Wg (q_sc_comeOrGo_7 _ _ _ (by omega)) ?_
          refine nb_Gr ?_
          refine nb_Wg (q_sc_comeOrGo_8 _ _ _ (by omega)) ?_
          refine nb_Gr ?_
          refine nb_Wg (q_sc_comeOrGo_9 _ _ _ (by omega)) ?_
          refine nb_Gr ?_
          refine nb_Wg (q_sc_comeOrGo_10 _ _ _) ?_
          refine nb_Gr ?_
          refine nb_Wg (q_sc_comeOrGo_14 _ _ _) ?_
          refine nb_Gs ?_
          exact nb_Hu H
    · have H := nb_Hw ((nb_Hu H).2 (by omega))
      have c31 : M.1 g 8 ≠ 1 := by omega
      refine nb_Gr ?_
      refine nb_Wg (q_sc_comeOrGo_4 _ _ _) ?_
      refine nb_Gs ?_
      exact nb_Hu H
