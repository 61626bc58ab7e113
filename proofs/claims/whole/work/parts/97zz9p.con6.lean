/-! ALL MADE: what stands before the first call -/
theorem pu_zero_T {r : Int → Int} (h : ∀ j, r j = 0) : pu_T r := by
  have hc : ∀ j, pu_cr0 r j = 0 := fun j => by
    unfold pu_cr0
    split
    · exact h _
    · rfl
  have hp : ∀ j, pu_pe0 r j = 0 := fun j => h _
  refine ⟨⟨fun d _ _ => ?_, fun p d _ _ _ _ => ?_, ?_, ?_, ?_, ?_, ?_, ?_, ?_⟩, fun s _ _ => ?_, fun p _ _ => ?_, fun s _ _ => ?_, fun k _ _ => ?_, fun k a b => ?_, Or.inr ⟨h _, h _, h _, h _, h _, h _, h _⟩, fun p a b => ?_, fun s a b => ?_⟩
  · rw [h, h, h]; decide
  · rw [h]; decide
  · rw [h]; decide
  · rw [h]; decide
  · rw [h]; decide
  · rw [h]; decide
  · rw [h]; decide
  · rw [h]; decide
  · rw [h]; decide
  · rw [hc, hc, hc]; decide
  · rw [hp, hp, hp, hp, hp, hp, hp]; decide
  · rw [h, h, h]; decide
  · rw [h, h, h]; decide
  · rw [h] at b; omega
  · rw [h] at b; omega
  · rw [h] at b; omega
theorem pu_made {N : nb_M} {L : Nat} {R : Int → Int} {N1 : nb_M} (hN : cs N (nb_Kn L)) (h : cp N1 R 12 3) (e : ∀ b, b ≠ 603 → N.1 b = N1.1 b) (e603 : ∀ i, N.1 603 i = if i = 34 then 618 else if i = 32 then 617 else if i = 31 then 616 else if i = 30 then 615 else if i = 29 then 614 else if i = 24 then 613 else if i = 23 then 612 else if i = 20 then 611 else if i = 19 then 610 else if i = 18 then 609 else if i = 17 then 608 else if i = 16 then 607 else if i = 15 then 606 else if i = 12 then 605 else if i = 10 then -1 else if i = 1 then 604 else 0) : pu_I N 0 ∧ N.1 1 = R := by
  obtain ⟨p1, ⟨c1, c2, c3, c4, c5, c6, c7, c8, c9, c10, c11, c12⟩, p3, p4, p5, p6⟩ := h
  have z : ∀ b, 604 ≤ b → ∀ i, N.1 b i = 0 := fun b hb i => by
    rw [e b (by omega)]
    exact p3 b (by omega) i
  have m2 : ∀ i, N.1 2 i = if i = 14 then 144 else if i = 13 then 142 else if i = 12 then 130 else if i = 10 then 129 else if i = 7 then 128 else if i = 6 then 106 else if i = 5 then 84 else if i = 4 then 76 else if i = 3 then 40 else if i = 2 then 4 else if i = 0 then 3 else 0 := fun i => by rw [e 2 (by decide)]; exact c12 i
  have h4 : hk N 4 := c1.mv (fun b x y => e b (by omega))
  have h40 : hk N 40 := c2.mv (fun b x y => e b (by omega))
  have s84 : sk N 84 := c3.mv (fun b x y => e b (by omega))
  have W : nb_Lay N := by
    refine ⟨⟨L, by rw [hN]⟩, fun a i v q => ?_⟩
    rcases q with q | q | ⟨H, hH, q⟩ | ⟨A, hA, q⟩
    · have t : ∀ q : Int × Int × Int, q ∈ nb_rt → N.1 q.1 q.2.1 = q.2.2 := by
        intro q hq
        simp only [nb_rt, List.mem_cons, List.not_mem_nil, or_false] at hq
        rcases hq with rfl | rfl | rfl | rfl | rfl | rfl | rfl | rfl | rfl | rfl | rfl | rfl | rfl | rfl | rfl | rfl | rfl | rfl | rfl | rfl | rfl | rfl | rfl | rfl | rfl | rfl | rfl | rfl | rfl | rfl | rfl | rfl | rfl | rfl | rfl
        · exact m2 0
        · exact m2 4
        · exact m2 5
        · exact m2 6
        · exact m2 7
        · exact m2 10
        · exact m2 12
        · exact m2 13
        · exact m2 14
        · exact (congrFun (e 76 (by decide)) 0).trans c5.1
        · exact (congrFun (e 76 (by decide)) 1).trans c5.2.1
        · exact (congrFun (e 76 (by decide)) 2).trans c5.2.2.1
        · exact (congrFun (e 76 (by decide)) 3).trans c5.2.2.2
        · exact (congrFun (e 77 (by decide)) 0).trans c6.1
        · exact (congrFun (e 77 (by decide)) 1).trans c6.2.1
        · exact (congrFun (e 77 (by decide)) 2).trans c6.2.2
        · exact (congrFun (e 130 (by decide)) 0).trans c7.1
        · exact (congrFun (e 130 (by decide)) 1).trans c7.2.1
        · exact (congrFun (e 130 (by decide)) 2).trans c7.2.2
        · exact (congrFun (e 142 (by decide)) 0).trans c8
        · exact e603 1
        · exact e603 12
        · exact e603 15
        · exact e603 16
        · exact e603 17
        · exact e603 18
        · exact e603 19
        · exact e603 20
        · exact e603 23
        · exact e603 24
        · exact e603 29
        · exact e603 30
        · exact e603 31
        · exact e603 32
        · exact e603 34
      exact t (a, i, v) q
    · unfold nb_fc at q
      rcases q with ⟨q1, q2, q3, q4⟩ | ⟨q1, q2, q3, q4⟩ | ⟨q1, q2, q3, q4⟩ | ⟨q1, q2, q3, q4⟩
      · subst q1 q4
        rw [e 128 (by decide)]; exact p4 i q2 (by omega)
      · subst q1 q4
        rw [e 129 (by decide)]; exact p5 i q2 (by omega)
      · subst q1 q4
        rw [e 132 (by decide)]; exact c9 i q2 q3
      · subst q1 q4
        rw [e 144 (by decide)]; exact c10 i q2 q3
    · unfold nb_hs at hH
      rcases hH with rfl | rfl
      · exact h4.1 a i v q
      · exact h40.1 a i v q
    · have hA' := hA
      unfold nb_sc at hA'
      have r := nb_fs_rg q
      rw [e a (by omega)]
      by_cases x : A = 84
      · subst x; exact c3.1 a i v q
      · by_cases y : A = 106
        · subst y; exact c4.1 a i v q
        · obtain ⟨j, j0, j1, rfl⟩ : ∃ j : Int, 0 ≤ j ∧ j < 15 ∧ A = 273 + 22 * j := ⟨(A - 273) / 22, by omega, by omega, by omega⟩
          exact (p6 j j0 (by omega)).1 a i v q
  have hT : pu_T (N.1 606) := pu_zero_T (z 606 (by decide))
  have r0 : ∀ j, N.1 606 j = 0 := z 606 (by decide)
  have hHo : pu_Ho N 4 (N.1 606) := by
    refine ⟨?_, fun d a b => ?_, fun p d a b c c' => ?_, fun p d _ _ _ _ => r0 _, fun p a b => ?_, fun s a b => ?_, fun k a b => ?_⟩
    · rw [r0, r0, r0, r0, r0, r0, r0]
      exact ⟨h4.2.1 9 (by decide), h4.2.1 10 (by decide), h4.2.1 11 (by decide), h4.2.1 12 (by decide), h4.2.1 13 (by decide), h4.2.1 14 (by decide), h4.2.1 15 (by decide)⟩
    · rw [r0] at b; omega
    · rw [r0] at b; omega
    · rw [r0] at b; omega
    · rw [r0] at b; omega
    · rw [r0] at b; omega
  have hS : pu_Sn N 84 4 (N.1 606) (N.1 608) 0 := by
    refine pu_Sn_first (P := N) hT hHo (by decide) (fun j a b => ?_) s84.2.1 ?_ ?_ (s84.2.2 6 (by decide)) (s84.2.2 7 (by decide)) ?_ (fun p j a b => ?_) (fun s j a b => ?_) (fun s j a b => ?_)
    · rw [z 608 (by decide) j, r0, r0, pu_lf_0 (by omega) (by omega)]
    · rw [r0]; exact s84.2.2 4 (by decide)
    · rw [r0]; exact s84.2.2 5 (by decide)
    · rw [r0]; exact s84.2.2 8 (by decide)
    · rw [r0] at b; omega
    · rw [r0] at b; omega
    · rw [r0] at b; omega
  have f2 : N.1 603 2 = 0 := e603 2
  have f21 : N.1 603 21 = 0 := e603 21
  have f22 : N.1 603 22 = 0 := e603 22
  have f11 : N.1 603 11 = 0 := e603 11
  have f9 : N.1 603 9 = 0 := e603 9
  have f14 : N.1 603 14 = 0 := e603 14
  have m8 : N.1 2 8 = 0 := m2 8
  refine ⟨⟨W, ⟨by omega, by rw [f2]; exact m2 1, fun i a b => absurd b (by omega), fun i _ _ => ?_, fun a ha => ?_⟩, ⟨hT, by rw [f14, r0, if_pos rfl], fun _ => ⟨fun j _ _ => z 608 (by decide) j, f21, f22⟩⟩, ⟨4, 40, ⟨Or.inl ⟨rfl, rfl⟩, m2 2, m2 3, hHo, hS⟩, ⟨by omega, by rw [f21]; exact m2 9, by omega, fun j a b => absurd b (by omega)⟩, ⟨by omega, by rw [f22]; exact m2 11, fun j a b => absurd b (by omega)⟩⟩, ⟨by rw [f11]; exact m2 15, by rw [f9]; exact m2 16, fun q => absurd (f11.symm.trans q) (by decide)⟩, ?_⟩, (e 1 (by decide)).trans p1⟩
  · rw [e 141 (by decide)]; exact c11 i
  · rcases ha with ha | ha
    · have g := h4.2.2 (a - 24) (by omega) (by omega)
      rw [show (4 : Int) + 20 + (a - 24) = a by omega] at g
      exact g
    · have g := h40.2.2 (a - 60) (by omega) (by omega)
      rw [show (40 : Int) + 20 + (a - 60) = a by omega] at g
      exact g
  · unfold pu_I7
    rw [z 612 (by decide), z 612 (by decide), z 612 (by decide)]
    decide
theorem cy_rep : ∀ n, (List.replicate n nb_KS).flatten = cy n
  | 0 => rfl
  | n + 1 => by
    rw [List.replicate_succ', List.flatten_append, cy_rep n]
    show cy n ++ (nb_KS ++ []) = cy n ++ nb_KS
    rw [List.append_nil]
/-- the law's run up to its first call -/
theorem lw_head {L : Nat} {xs : Nat → Int32} {Q : List nb_V → nb_M → Prop} (H : ∀ N, cs N (nb_Kn L) → pu_I N 0 → N.1 1 = (nb_M0 L xs).1 1 → nb_W 293 6 [(3, 1), (19, 2), (20, 603), (5, 619), (0, 0), (98, 0), (98, 0)] [] N Q) : nb_W 293 0 (nb_ent [(3, 1)] 7) [] (nb_M0 L xs) Q := by
  have h0 : cs (nb_M0 L xs) [(0, 0), (0, L)] := rfl
  have z0 : zf (nb_M0 L xs) 2 := fun b hb i => if_neg (by omega)
  show nb_W 293 0 [(3, 1), (98, 0), (98, 0), (98, 0), (98, 0), (98, 0), (98, 0)] [] (nb_M0 L xs) Q
  have er : ∀ M : nb_M, M = nb_M0 L xs → M.1 1 = (nb_M0 L xs).1 1 := fun M h => by rw [h]
  generalize hM : nb_M0 L xs = M at h0 z0 H ⊢
  refine nb_Wg (q_law_law_0 (h1 := h0.z) ..) (nb_Gr ?_)
  rw [h0.nx (n := 2) rfl]
  have h1 : cs (nb_al M 16 18) [(0, 0), (0, L), (16, 18)] := h0.al rfl
  refine nb_Wg (q_law_law_1 (h1 := by decide) ..) (nb_Gb ?_)
  refine nb_W.imp (ci_c h1 z0) ?_
  rintro r N1 ⟨rfl, g1, hp⟩
  refine nb_Wg (q_law_law_2 (h1 := g1.z) ..) (nb_Gr ?_)
  rw [g1.nx (n := 603) (by rw [List.length_append, cc_len, cy_len]; rfl)]
  have g2 : cs (nb_al N1 17 35) (cc L ++ cy 15 ++ [(17, 35)]) := g1.al rfl
  refine nb_Wg (q_law_law_3 (h1 := by decide) ..) (nb_Gb ?_)
  refine nb_W.imp (ci_m g2 (by rw [List.length_append, List.length_append, cc_len, cy_len]; rfl)) ?_
  rintro r N2 ⟨rfl, g3, k3, f3⟩
  refine nb_Wg (q_law_law_4 (h1 := g3.z) ..) (nb_Gr ?_)
  rw [g3.nx (n := 619) (by rw [List.length_append, List.length_append, List.length_append, cc_len, cy_len]; rfl)]
  have g4 : cs (nb_al N2 2 1) (nb_Kn L) := g3.al (by
    show ((cc L ++ cy 15) ++ [(17, 35)] ++ _) ++ [(2, 1)] = nb_Kn L
    unfold nb_Kn
    rw [cy_rep 15]
    unfold cc K0 nb_KM
    simp only [List.append_assoc, List.cons_append, List.nil_append])
  refine nb_Wg (q_law_law_5 ..) (nb_Gr ?_)
  have z1 : ∀ i, N1.1 603 i = 0 := hp.2.2.1 603 (by decide)
  obtain ⟨a1, a2⟩ := pu_made (N := nb_al N2 2 1) g4 hp (fun b hb => k3 b hb) (fun i => (f3 i).trans (by rw [nb_al_1, z1]))
  exact H _ g4 a1 a2
