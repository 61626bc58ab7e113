/-! both begin -/
variable {So n d s p : Int} {tx : Int → Int} {cnt j : Nat} {E : Nat → Int} {M N : nb_M}
theorem rl_init {M' : nb_M} (W : nb_Lay M') (WN : nb_Lay N) (hSo : nb_hs So) (hT : pu_TF M' tx n cnt E) (h4 : M'.1 76 4 = So) (h5 : M'.1 76 5 = 0) (h9 : M'.1 76 9 = 0) (h6 : M'.1 76 6 = 0) (h7 : M'.1 76 7 = M'.1 78 0) (h8 : M'.1 76 8 = M'.1 80 0) (hn : n ≤ 1000) (n604 : N.1 604 = tx) (n3 : N.1 603 3 = n) (n5 : N.1 603 5 = 0) (n13 : N.1 603 13 = 0) (n9 : N.1 603 9 = 0) (n7 : ∀ j, 0 ≤ j → j < 347 → N.1 607 j = 0) : ∃ N', nb_R nb_P 91 0 [(20, 603), (98, 0), (98, 0), (98, 0)] [] N = some ([], N') ∧ pu_nt N N' ∧ pu_RL So tx n cnt E M' N' 0 0 0 0 := by
  have hT' := hT
  obtain ⟨⟨t1, t2, t3, t4, t5⟩, t6, t7, t8⟩ := hT'
  have fin : ∀ N' : nb_M, nb_R nb_P 91 0 [(20, 603), (98, 0), (98, 0), (98, 0)] [] N = some ([], N') → pu_nt N N' → (0 = cnt → M'.1 78 cnt = 0) → pu_rt N' (M'.1 79 0) (M'.1 78 0) (M'.1 80 0) → (0 < cnt → N'.1 603 5 = E 1) → ∃ N', nb_R nb_P 91 0 [(20, 603), (98, 0), (98, 0), (98, 0)] [] N = some ([], N') ∧ pu_nt N N' ∧ pu_RL So tx n cnt E M' N' 0 0 0 0 := fun N' e nt z0 rt z5 => by
    have e13 := nt.2.2.2 13 (by decide)
    have e9 := nt.2.2.2 9 (by decide)
    have e3 := nt.2.2.2 3 (by decide)
    have e4 := nt.2.2.1 604 (by decide) (by decide)
    have e7 := nt.2.2.1 607 (by decide) (by decide)
    refine ⟨N', e, nt, ⟨W, nt.1, hSo, h4, hT, hn, e4.trans n604, ⟨e3.trans n3, fun _ => e9.trans n9⟩, by omega⟩, Or.inl ⟨0, Nat.le_refl 0, h9, e13.trans n13, h6, Nat.zero_le _, h7, h8, z0, ?_, z5, ?_⟩⟩
    · rw [h7, h8]; exact rt
    · exact ⟨by omega, by omega, fun i hi => absurd hi (by omega), fun a b ab hb => absurd hb (by omega), fun m m0 m1 hm => absurd hm (by rw [e7, n7 _ (by omega) (by omega)]; decide)⟩
  by_cases q : 0 < cnt
  · have g := t4 0 q
    rw [← n604, t3] at g
    obtain ⟨r, N', e, hr, g1, g2, g3⟩ := sp_m_nextToken_A (v1 := (98, 0)) (v2 := (98, 0)) (v3 := (98, 0)) WN n3 hn n5 g
    subst hr
    exact fin N' e g3 (fun z => absurd z (by omega)) g1 (fun _ => g2)
  · have ec : cnt = 0 := by omega
    subst ec
    rcases t8 with ⟨u1, u2, u3⟩ | ⟨u1, u2, u3⟩
    · rw [← n604, t3] at u2
      obtain ⟨r, N', e, hr, g1, g3⟩ := sp_m_nextToken_E (v1 := (98, 0)) (v2 := (98, 0)) (v3 := (98, 0)) WN n3 hn n5 u2
      subst hr
      refine fin N' e g3 (fun _ => u1) ?_ (fun z => absurd z (by omega))
      rw [show (0 : Int) = ((0 : Nat) : Int) from rfl, t6, u1, t7]
      exact g1
    · exact absurd u2 (by omega)
/-- how both end -/
def pu_RE (So : Int) (M1 N1 : nb_M) (x : Int) : Prop := (x = 1 ∧ M1.1 76 9 = 0 ∧ N1.1 603 13 = 0 ∧ pu_HR M1 So (N1.1 607) ∧ N1.1 607 0 ≠ 0 ∧ N1.1 607 3 ≠ 0 ∧ N1.1 607 4 ≠ 0 ∧ N1.1 607 5 ≠ 0) ∨ (x = 0 ∧ pu_Dd M1 N1)
theorem rl_k4 {p k v : Int} (h : pu_rt N p k v) : k = 4 ↔ N.1 603 6 = 59 := by
  have h := h.2
  rcases h with ⟨h1, h2⟩ | ⟨h1, h2, -⟩ | ⟨h1, h2, -⟩ | ⟨h1, h2⟩ | ⟨h1, h2⟩ | ⟨h1, h2⟩ <;> omega
theorem rl_k0 {p k v : Int} (h : pu_rt N p k v) : k = 0 ↔ N.1 603 6 = 0 := by
  have h := h.2
  rcases h with ⟨h1, h2⟩ | ⟨h1, h2, -⟩ | ⟨h1, h2, -⟩ | ⟨h1, h2⟩ | ⟨h1, h2⟩ | ⟨h1, h2⟩ <;> omega
theorem rl_end {w1 w2 : nb_V} (h : pu_RL So tx n cnt E M N j d s p) (hH : M.1 76 9 = 0 → pu_HR M So (N.1 607)) : ∃ x M1 N1, nb_R nb_P 228 0 [(13, 76)] [] M = some ([], M1) ∧ (∀ Q, nb_W 105 30 [(20, 603), w1, w2] [] N1 Q → nb_W 105 21 [(20, 603), w1, w2] [] N Q) ∧ pu_cf M M1 ∧ pu_mf N N1 ∧ pu_Ba So tx n cnt E M1 N1 ∧ pu_RE So M1 N1 x ∧ (M1.1 76 9 = 0 ↔ x = 1) := by
  have hB := h.1
  have hB' := hB
  obtain ⟨W, WN, hSo, h764, -⟩ := hB'
  rcases h.2 with ⟨i, hi, hL⟩ | hD
  · have l1 := hL.1
    have l2 := hL.2.1
    have k0 := rl_k0 hL.2.2.2.2.2.2.2.1
    have hR := hH l1
    by_cases c : M.1 76 7 = 0
    · -- what lacks
      by_cases z : N.1 607 0 = 0 ∨ N.1 607 3 = 0 ∨ N.1 607 4 = 0 ∨ N.1 607 5 = 0
      · obtain ⟨M1, N1, s1, s2, s3, s4, s5, s6⟩ := rl_fail (f := 6) (by decide) hB hL
        have q1 := hR.2.1
        have zz := q1.2.2.2.2.2.2.2.2.2
        have P1 : nb_W 226 0 [(13, 76), (0, 6)] [] M (fun r M5 => r = [] ∧ nb_Lay M5 ∧ M5.1 76 4 = So ∧ (nb_Lay M5 → r = [] ∧ M5 = M1)) := nb_Wp s1 ⟨rfl, s5.1, s5.2.2.2.trans h764, fun _ => ⟨rfl, rfl⟩⟩
        have e : nb_R nb_P 228 0 [(13, 76)] [] M = some ([], M1) := by
          refine nb_Wq (w_rd_readEnd_0 W hSo h764 ⟨fun _ => ⟨fun _ => ?_, fun c3 => ⟨fun _ => ?_, fun c4 => ⟨fun _ => ?_, fun c5 => ?_⟩⟩⟩, fun z => absurd c z⟩)
          · exact nb_Wp s1 ⟨rfl, s5.1, s5.2.2.2.trans h764, fun _ => ⟨rfl, rfl⟩⟩
          · exact nb_Wp s1 ⟨rfl, s5.1, s5.2.2.2.trans h764, fun _ => ⟨rfl, rfl⟩⟩
          · exact nb_Wp s1 ⟨rfl, s5.1, s5.2.2.2.trans h764, fun _ => ⟨rfl, rfl⟩⟩
          · exfalso
            rw [q1.1] at c3
            rw [q1.2.1] at c4
            rw [q1.2.2.1] at c5
            rcases z with z | z | z | z
            · exact c3 (zz z).1
            · exact c3 z
            · exact c4 z
            · exact c5 z
        refine ⟨0, M1, N1, e, fun Q g => ?_, s5, s6, s3, Or.inr ⟨rfl, s4⟩, ⟨fun q => absurd q s4.1, fun q => absurd q (by decide)⟩⟩
        refine w_m_house_21 WN ⟨fun _ => ⟨fun _ => ⟨fun _ => nb_Wp s2 ⟨rfl, s6.1, g⟩, fun b0 => ⟨fun _ => nb_Wp s2 ⟨rfl, s6.1, g⟩, fun b3 => ⟨fun _ => nb_Wp s2 ⟨rfl, s6.1, g⟩, fun b4 => ⟨fun _ => nb_Wp s2 ⟨rfl, s6.1, g⟩, fun b5 => ?_⟩⟩⟩⟩, fun q => absurd (k0.1 c) q⟩, fun q => absurd l2 q⟩
        exfalso
        rcases z with z | z | z | z
        · exact b0 z
        · exact b3 z
        · exact b4 z
        · exact b5 z
      · have q1 := hR.2.1
        have b0 : N.1 607 0 ≠ 0 := fun q => z (Or.inl q)
        have b3 : N.1 607 3 ≠ 0 := fun q => z (Or.inr (Or.inl q))
        have b4 : N.1 607 4 ≠ 0 := fun q => z (Or.inr (Or.inr (Or.inl q)))
        have b5 : N.1 607 5 ≠ 0 := fun q => z (Or.inr (Or.inr (Or.inr q)))
        have e : nb_R nb_P 228 0 [(13, 76)] [] M = some ([], M) := by
          refine nb_Wq (w_rd_readEnd_0 W hSo h764 ⟨fun _ => ⟨fun c3 => absurd (q1.1.symm.trans c3) b3, fun _ => ⟨fun c4 => absurd (q1.2.1.symm.trans c4) b4, fun _ => ⟨fun c5 => absurd (q1.2.2.1.symm.trans c5) b5, fun _ _ => ⟨rfl, rfl⟩⟩⟩⟩, fun z => absurd c z⟩)
        refine ⟨1, M, N, e, fun Q g => ?_, pu_cf.id W, pu_mf.id WN, hB, Or.inl ⟨rfl, l1, l2, hR, b0, b3, b4, b5⟩, ⟨fun _ => rfl, fun _ => l1⟩⟩
        exact w_m_house_21 WN ⟨fun _ => ⟨fun _ => ⟨fun q => absurd q b0, fun _ => ⟨fun q => absurd q b3, fun _ => ⟨fun q => absurd q b4, fun _ => ⟨fun q => absurd q b5, fun _ => g⟩⟩⟩⟩, fun q => absurd (k0.1 c) q⟩, fun q => absurd l2 q⟩
    · obtain ⟨M1, N1, s1, s2, s3, s4, s5, s6⟩ := rl_fail (f := 1) (by decide) hB hL
      have e : nb_R nb_P 228 0 [(13, 76)] [] M = some ([], M1) := nb_Wq (w_rd_readEnd_0 W hSo h764 ⟨fun z => absurd z c, fun _ => nb_Wp s1 ⟨rfl, s5.1, s5.2.2.2.trans h764, fun _ => ⟨rfl, rfl⟩⟩⟩)
      have f13 : N1.1 603 13 ≠ 0 := by rw [s4.2.1]; decide
      refine ⟨0, M1, N1, e, fun Q g => ?_, s5, s6, s3, Or.inr ⟨rfl, s4⟩, ⟨fun q => absurd q s4.1, fun q => absurd q (by decide)⟩⟩
      exact w_m_house_21 WN ⟨fun _ => ⟨fun q => absurd (k0.2 q) c, fun _ => nb_Wp s2 ⟨rfl, s6.1, fun q => absurd q f13, fun _ => g⟩⟩, fun q => absurd l2 q⟩
  · have hd := hD.1
    have f13 : N.1 603 13 ≠ 0 := by rw [hD.2.1]; decide
    have e : nb_R nb_P 228 0 [(13, 76)] [] M = some ([], M) := by
      refine nb_Wq (w_rd_readEnd_0 W hSo h764 ⟨fun _ => ⟨fun _ => ?_, fun _ => ⟨fun _ => ?_, fun _ => ⟨fun _ => ?_, fun _ _ => ⟨rfl, rfl⟩⟩⟩⟩, fun _ => ?_⟩) <;> exact nb_Wp (dd_fail W hSo h764 hd) ⟨rfl, W, h764, fun _ => ⟨rfl, rfl⟩⟩
    exact ⟨0, M, N, e, fun Q g => w_m_house_21 WN ⟨fun q => absurd q f13, fun _ => g⟩, pu_cf.id W, pu_mf.id WN, hB, Or.inr ⟨rfl, hD⟩, ⟨fun q => absurd q hd, fun q => absurd q (by decide)⟩⟩
theorem pu_gk.of {f g : Int → Int} (h : pu_gk f) (e : ∀ i, 8 ≤ i → g i = f i) : pu_gk g := by
  unfold pu_gk at h ⊢
  simp (disch := omega) only [e]
  exact h
