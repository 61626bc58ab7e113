/-! CONTRACT: runTo -/
theorem sp_sc_runTo_key {M : nb_M} {A Ho np ns last : Int} {r cr pe R : Int → Int} {v2 v3 : nb_V} (W : nb_Lay M) (hA : nb_sc A) (hHo : nb_hs Ho) (hAh : M.1 A 3 = Ho) (hr : pu_Rr r) (hh : pu_Ho M Ho r) (hc : pu_Rc cr) (hp : pu_Rp pe) (hnp : np = r 5) (hns : 0 ≤ ns ∧ ns ≤ 4) (hlast : 0 ≤ last ∧ last ≤ 2000) (h7 : M.1 A 7 = R 0) (hS : pu_S M A np ns cr pe R) (hX : pu_X M A np pe R) (hI : pu_Ib pe R np ns) (hpc : ∀ p, 0 ≤ p → p < np → pe (7 * p + 2) = r (41 + 7 * p + 2)) (Q : List nb_V → nb_M → Prop) (fin : ∀ N : nb_M, nb_Lay N → N.2 = M.2 → (∀ a i, a < A ∨ A + 22 ≤ a ∨ (a = A ∧ i ≠ 6) → N.1 a i = M.1 a i) → pu_S N A np ns cr pe (pu_secs r cr pe ns (last + 1 - R 0).toNat R) → pu_X N A np pe (pu_secs r cr pe ns (last + 1 - R 0).toNat R) → pu_Ib pe (pu_secs r cr pe ns (last + 1 - R 0).toNat R) np ns → (pu_secs r cr pe ns (last + 1 - R 0).toNat R 0 = if R 0 < last + 1 then last + 1 else R 0) → Q [] (nb_wr N A 7 (pu_secs r cr pe ns (last + 1 - R 0).toNat R 0))) : nb_W 257 0 [(15, A), (0, last), v2, v3] [] M Q := by
  have hn := hr.2.2.2.2.2.2.1
  have h00 := hI.1.2.2.1
  have hAu := hA
  unfold nb_sc at hAu
  have hHu := hHo
  unfold nb_hs at hHu
  refine w_sc_runTo_0 W hA hHo hAh hlast ?_
  rw [h7]
  generalize hTT : pu_secs r cr pe ns (last + 1 - R 0).toNat R = TT at *
  have hexit : ∀ (t : Int) (N : nb_M) (T : Int → Int) (v3 : nb_V), last < t → (T 0 = if R 0 < last + 1 then last + 1 else R 0) → pu_secs r cr pe ns (last + 1 - T 0).toNat T = TT → nb_Lay N → N.2 = M.2 → (∀ a i, a < A ∨ A + 22 ≤ a ∨ (a = A ∧ i ≠ 6) → N.1 a i = M.1 a i) → pu_S N A np ns cr pe T → pu_X N A np pe T → pu_Ib pe T np ns → nb_W 257 1 [(15, A), (0, last), (0, t), v3] [] N Q := by
    intro t N T v3 hlt h0 hs WN e2 e3 gS gX gI
    have hz : (last + 1 - T 0).toNat = 0 := by
      rw [h0]
      split <;> omega
    rw [hz] at hs
    have hs' : T = TT := hs
    subst hs'
    refine w_sc_runTo_1 WN hA hHo ((e3 A 3 (by omega)).trans hAh) hlast ⟨fun _ => ?_, fun h => absurd h (by omega)⟩
    rw [e3 A 7 (by omega), h7, ← h0]
    exact fin N WN e2 e3 gS gX gI h0
  suffices H : ∀ (n : Nat) (t : Int) (N : nb_M) (T : Int → Int) (v3 : nb_V), last + 1 - t ≤ n → R 0 ≤ t → (t ≤ last → T 0 = t) → (last < t → T 0 = if R 0 < last + 1 then last + 1 else R 0) → pu_secs r cr pe ns (last + 1 - T 0).toNat T = TT → nb_Lay N → N.2 = M.2 → (∀ a i, a < A ∨ A + 22 ≤ a ∨ (a = A ∧ i ≠ 6) → N.1 a i = M.1 a i) → pu_S N A np ns cr pe T → pu_X N A np pe T → pu_Ib pe T np ns → nb_W 257 1 [(15, A), (0, last), (0, t), v3] [] N Q from
    H (last + 1 - R 0).toNat (R 0) M R v3 (by omega) (Int.le_refl _) (fun _ => rfl) (fun z => by rw [if_neg (by omega)]) hTT W rfl (fun _ _ _ => rfl) hS hX hI
  intro n
  induction n with
  | zero =>
    intro t N T v3 hle ht0 h1 h2 hs WN e2 e3 gS gX gI
    exact hexit t N T v3 (by omega) (h2 (by omega)) hs WN e2 e3 gS gX gI
  | succ n ih =>
    intro t N T v3 hle ht0 h1 h2 hs WN e2 e3 gS gX gI
    by_cases hlt : last < t
    · exact hexit t N T v3 hlt (h2 hlt) hs WN e2 e3 gS gX gI
    have hT0 := h1 (by omega)
    rw [hT0] at hs
    have htb : 0 ≤ t ∧ t ≤ 9999 := by omega
    obtain ⟨i1, i2, i3, i4⟩ := gI
    rw [hT0] at i3
    have hall := pu_cms_all (ns := ns) hp (by omega) htb i1 i2 i3 i4
    refine w_sc_runTo_1 WN hA hHo ((e3 A 3 (by omega)).trans hAh) hlast ⟨fun h => absurd h hlt, fun _ => ?_⟩
    -- who comes
    suffices H : ∀ (m k : Nat) (N' : nb_M), k + m = np.toNat → nb_Lay N' → N'.2 = M.2 → (∀ a i, a < A ∨ A + 22 ≤ a ∨ (a = A ∧ i ≠ 6) → N'.1 a i = M.1 a i) → pu_S N' A np ns cr pe (pu_cms pe t T k) → pu_X N' A np pe (pu_cms pe t T k) → nb_W 257 3 [(15, A), (0, last), (0, t), (0, (k : Int))] [] N' Q from H _ 0 N (Nat.zero_add _) WN e2 e3 gS gX
    intro m
    induction m with
    | succ m ihm =>
      intro k N' hk W' f2 f3 kS kX
      obtain ⟨a1, a2, a3, a4, a5⟩ := hall k (by omega)
      have h1r := a1.2.2.2.1
      refine w_sc_runTo_3 W' hA hHo ((f3 A 3 (by omega)).trans hAh) hlast (by omega) (by omega) ?_
      rw [kS.1]
      refine ⟨by omega, by omega, fun _ => ?_, fun h => absurd h (by omega)⟩
      have hpk := hp k (by omega) (by omega)
      refine nb_W.imp (sp_sc_comeOrGo (g := A + 4 + k) (t := t) (p := k) (pe := pe) (R := pu_cms pe t T k) (by omega) ⟨hpk.2.2.1, hpk.2.2.2.2.2.2.1⟩ htb (kS.2.2.2.2.1 k (by omega) (by omega))) ?_
      rintro r' N2 ⟨rfl, q1, q2, q3, q4, q5, q6, q7⟩
      have W2 : nb_Lay N2 := W'.mono (by rw [q1]) (fun a i w z => by
        by_cases e : a = A + 4 + k
        · subst e
          exact absurd z (nb_nsg hA (by omega) (by omega))
        · rw [q2 a e])
      refine ⟨rfl, W2, by rw [q2 A (by omega)]; exact (f3 A 3 (by omega)).trans hAh, ?_⟩
      refine ihm (k + 1) N2 (by omega) W2 (q1.trans f2) (fun a i z => by rw [q2 a (by omega)]; exact f3 a i z) (pu_cm_S (by omega) hns.2 ⟨by omega, by omega⟩ h1r.2 kS q2 q3) (fun p pa pb => ?_)
      by_cases e : p = k
      · subst e
        exact pu_cm_Gx (by omega) ⟨by omega, by omega⟩ h1r a3 (kX k (by omega) (by omega)) q4 q5 q6 q7
      · rw [q2 _ (by omega)]
        exact pu_cm_Gx2 (by omega) ⟨by omega, by omega⟩ h1r a3 ⟨pa, pb⟩ e (kX p pa pb)
    | zero =>
      intro k N' hk W' f2 f3 kS kX
      have hk2 : k = np.toNat := by omega
      subst hk2
      obtain ⟨a1, a2, a3, a4, a5⟩ := hall np.toNat (by omega)
      have hin : pu_In pe (pu_cms pe t T np.toNat) np ns t := ⟨a1, a2, ⟨fun p pa pb => a3.1 p pa pb (by omega), a3.2.2.1⟩, a4⟩
      have hwt : pu_wt pe (pu_cms pe t T np.toNat) np t := fun p pa pb z => a5 p pa (by omega) z
      have hss := pu_ss_sv (pe := pe) hr hc (by omega : 0 ≤ np ∧ np ≤ 10) hns.2 htb hin hwt
      refine w_sc_runTo_3 W' hA hHo ((f3 A 3 (by omega)).trans hAh) hlast (by omega) (by omega) ?_
      rw [kS.1]
      refine ⟨by omega, by omega, fun h => absurd h (by omega), fun _ => ?_⟩
      -- the staff
      suffices H : ∀ (m k : Nat) (N' : nb_M), k + m = ns.toNat → nb_Lay N' → N'.2 = M.2 → (∀ a i, a < A ∨ A + 22 ≤ a ∨ (a = A ∧ i ≠ 6) → N'.1 a i = M.1 a i) → pu_S N' A np ns cr pe (pu_ss r cr pe np t k (pu_cms pe t T np.toNat)) → pu_X N' A np pe (pu_ss r cr pe np t k (pu_cms pe t T np.toNat)) → nb_W 257 7 [(15, A), (0, last), (0, t), (0, (k : Int))] [] N' Q from H _ 0 N' (Nat.zero_add _) W' f2 f3 kS kX
      clear kS kX W' f2 f3
      intro m
      induction m with
      | succ m ihm =>
        intro k N' hk W' f2 f3 kS kX
        obtain ⟨b1, b2, b3, b4⟩ := hss k (by omega)
        refine w_sc_runTo_7 W' hA hHo ((f3 A 3 (by omega)).trans hAh) hlast (by omega) (by omega) ?_
        rw [kS.2.1]
        refine ⟨by omega, by omega, fun _ => ?_, fun h => absurd h (by omega)⟩
        have hHN : pu_Ho N' Ho r := pu_Ho_congr hh hr (fun a i p q => f3 a i (by omega))
        refine nb_W.imp (sp_sc_serve (np := np) (ns := ns) (s := k) (t := t) (cr := cr) (pe := pe) W' hA hHo ((f3 A 3 (by omega)).trans hAh) hr hHN hc hnp hns.2 ⟨by omega, by omega⟩ htb kS kX b1 hpc) ?_
        rintro r' N2 ⟨rfl, q1, q2, q3, q4, q5, q6⟩
        rw [← b4 (by omega)] at q4 q5
        exact ⟨rfl, q1, by rw [q3 A 3 (by omega)]; exact (f3 A 3 (by omega)).trans hAh, ihm (k + 1) N2 (by omega) q1 (q2.trans f2) (fun a i z => (q3 a i z).trans (f3 a i z)) q4 q5⟩
      | zero =>
        intro k N' hk W' f2 f3 kS kX
        have hk2 : k = ns.toNat := by omega
        subst hk2
        obtain ⟨b1, b2, b3, b4⟩ := hss ns.toNat (by omega)
        refine w_sc_runTo_7 W' hA hHo ((f3 A 3 (by omega)).trans hAh) hlast (by omega) (by omega) ?_
        rw [kS.2.1]
        refine ⟨by omega, by omega, fun h => absurd h (by omega), fun _ => ?_⟩
        refine nb_W.imp (sp_sc_nextStir (np := np) (ns := ns) (t := t) (cr := cr) (pe := pe) W' hA hHo ((f3 A 3 (by omega)).trans hAh) hp (by omega) hns (by omega) kS) ?_
        rintro r' N2 ⟨x, rfl, rfl, x1, x2⟩
        refine ⟨x, rfl, W', (f3 A 3 (by omega)).trans hAh, ?_⟩
        have hsec : pu_sec r cr pe ns T = nb_ud (pu_ss r cr pe np t ns.toNat (pu_cms pe t T np.toNat)) 0 (t + 1) := by
          unfold pu_sec
          rw [hT0, hnp]
        obtain ⟨c1, c2, c3, c4⟩ := b1
        generalize pu_ss r cr pe np t ns.toNat (pu_cms pe t T np.toNat) = U at *
        have hU1 := c1.2.2.2.1
        obtain ⟨t', ht'⟩ : ∃ t', t' = if t + 1 < x then x else t + 1 := ⟨_, rfl⟩
        obtain ⟨j, hj⟩ : ∃ j : Nat, (j : Int) = (if t' ≤ last then t' else last + 1) - (t + 1) := ⟨((if t' ≤ last then t' else last + 1) - (t + 1)).toNat, by
          rw [Int.toNat_of_nonneg]
          rw [ht']
          (repeat' split) <;> omega⟩
        have hj2 : (t' ≤ last → t + 1 + j = t') ∧ (last < t' → t + 1 + j = last + 1) ∧ (t + 1 + (j : Int) ≤ x ∨ j = 0) := by
          have hj0 := hj
          rw [hj]
          clear hj hsec hs
          refine ⟨fun z => by rw [if_pos z]; omega, fun z => by rw [if_neg (by omega)]; omega, ?_⟩
          have hx' : (t + 1 < x ∧ t' = x) ∨ (x ≤ t + 1 ∧ t' = t + 1) := by
            rw [ht']
            split
            · exact Or.inl ⟨by assumption, rfl⟩
            · exact Or.inr ⟨by omega, rfl⟩
          have hj' : (t' ≤ last ∧ (j : Int) = t' - (t + 1)) ∨ (last < t' ∧ (j : Int) = last + 1 - (t + 1)) := by
            rw [hj0]
            split
            · exact Or.inl ⟨by assumption, rfl⟩
            · exact Or.inr ⟨by omega, rfl⟩
          clear hj0 ht'
          omega
        rw [← ht']
        have hqs : pu_secs r cr pe ns j (pu_sec r cr pe ns T) = nb_ud U 0 (t + 1 + j) := by
          rw [hsec]
          refine pu_qu_secs hr hc hns j (fun v va vb => ?_)
          rw [← hnp]
          exact pu_qu_of hc hns.2 c3 b2 (fun s sa sb => b3 s sa (by omega)) x1 x2 (by omega)
        refine ih t' N2 (nb_ud U 0 (t + 1 + j)) _ ?_ ?_ (fun z => ?_) (fun z => ?_) ?_ W' f2 f3 (pu_S_ud0 hU1.1 kS) (pu_X_ud0 (fun k ka kb => (c1.2.2.2.2 k ka kb).1) kX) ⟨pu_Rw_ud0 (by omega) c1, pu_Rk_ud0 c2, ⟨fun p pa pb => ?_, pu_who_ud0 c3.2⟩, fun s sa sb => ?_⟩
        · rw [ht']
          split <;> omega
        · rw [ht']
          split <;> omega
        · rw [nb_ud_same]
          exact hj2.1 z
        · rw [nb_ud_same, hj2.2.1 z, if_pos (by omega)]
        · rw [nb_ud_same, ← hqs]
          have e5 := pu_secs_add (r := r) (cr := cr) (pe := pe) (R := T) (ns := ns) (j + 1) (last + 1 - (t + 1 + j)).toNat
          rw [show (last + 1 - (t + 1 + (j : Int))).toNat + (j + 1) = (last + 1 - t).toNat by omega, hs] at e5
          rw [e5]
          congr 1
          exact (pu_secs_add (r := r) (cr := cr) (pe := pe) (R := T) (ns := ns) 1 j).symm
        · rw [nb_ud_same]
          refine pu_hb_ud0 pa ?_
          obtain ⟨d0, d1, d2, d3, d5⟩ := pu_hm_hb (c3.1 p pa pb)
          have hst := (x1 p pa pb).1
          refine ⟨fun z => ?_, fun z => ?_, fun z => ?_, fun z => ?_, fun z => ?_⟩
          · have := d0 z
            have := hst z (by omega)
            omega
          · have := d1 z
            omega
          · obtain ⟨y1, y2, y3, y4⟩ := d2 z
            exact ⟨y1, by omega, y3, y4⟩
          · have := d3 z
            omega
          · have := d5 z
            omega
        · rw [nb_ud_other (by omega)]
          exact c4 s sa sb
theorem sp_sc_runTo {M : nb_M} {A Ho np ns last : Int} {r cr pe R : Int → Int} {v2 v3 : nb_V} (W : nb_Lay M) (hA : nb_sc A) (hHo : nb_hs Ho) (hAh : M.1 A 3 = Ho) (hr : pu_Rr r) (hh : pu_Ho M Ho r) (hc : pu_Rc cr) (hp : pu_Rp pe) (hnp : np = r 5) (hns : 0 ≤ ns ∧ ns ≤ 4) (hlast : 0 ≤ last ∧ last ≤ 2000) (h7 : M.1 A 7 = R 0) (hS : pu_S M A np ns cr pe R) (hX : pu_X M A np pe R) (hI : pu_Ib pe R np ns) (hpc : ∀ p, 0 ≤ p → p < np → pe (7 * p + 2) = r (41 + 7 * p + 2)) : nb_W 257 0 [(15, A), (0, last), v2, v3] [] M (fun r' M' => r' = [] ∧ nb_Lay M' ∧ M'.2 = M.2 ∧ (∀ a i, a < A ∨ A + 22 ≤ a ∨ (a = A ∧ i ≠ 6 ∧ i ≠ 7) → M'.1 a i = M.1 a i) ∧ pu_S M' A np ns cr pe (pu_secs r cr pe ns (last + 1 - R 0).toNat R) ∧ pu_X M' A np pe (pu_secs r cr pe ns (last + 1 - R 0).toNat R) ∧ pu_Ib pe (pu_secs r cr pe ns (last + 1 - R 0).toNat R) np ns ∧ M'.1 A 7 = pu_secs r cr pe ns (last + 1 - R 0).toNat R 0 ∧ (pu_secs r cr pe ns (last + 1 - R 0).toNat R 0 = if R 0 < last + 1 then last + 1 else R 0)) := by
  refine sp_sc_runTo_key W hA hHo hAh hr hh hc hp hnp hns hlast h7 hS hX hI hpc _ ?_
  intro N WN e2 e3 gS gX gI g0
  generalize pu_secs r cr pe ns (last + 1 - R 0).toNat R = T at *
  have e : ∀ a, a ≠ A → (nb_wr N A 7 (T 0)).1 a = N.1 a := fun a h => nb_wr_b h
  obtain ⟨h4, h5, h6, h7', hG, hV⟩ := gS
  have hn := hr.2.2.2.2.2.2.1
  refine ⟨rfl, WN.wr (fun w => nb_nss hA (by decide)), e2, fun a i h => ?_, ⟨?_, ?_, ?_, fun k a b => ?_, fun p a b => ?_, fun s a b => ?_⟩, fun p a b => ?_, gI, ?_, g0⟩
  · rw [nb_wr_1, if_neg (by omega)]
    exact e3 a i (by omega)
  · rw [nb_wr_1, if_neg (by omega)]; exact h4
  · rw [nb_wr_1, if_neg (by omega)]; exact h5
  · rw [nb_wr_1, if_neg (by omega)]; exact h6
  · rw [e _ (by omega)]; exact h7' k a b
  · rw [e _ (by omega)]; exact hG p a b
  · rw [e _ (by omega), e _ (by omega)]; exact hV s a b
  · rw [e _ (by omega)]; exact gX p a b
  · rw [nb_wr_1, if_pos ⟨rfl, rfl⟩]
