/-! CALLS: honesty, rest, rests -/
/-- people, the first of them as a set says -/
def pu_peh (M : nb_M) (set : Int) : Nat → Int → Int
  | 0 => pu_pea M
  | n + 1 => pu_bhv (pu_peh M set n) n (if nb_and (nb_shr set n) 1 = 1 then 1 else 0)
def pu_pes (M : nb_M) (set : Int) : Int → Int := pu_peh M set (M.1 606 5).toNat
def pu_lfs (M : nb_M) (pe : Int → Int) : Int → Int := pu_cpy (pu_lf (M.1 606 5) (M.1 606 4) (pu_cra M) pe) (M.1 609) 0 0 108
def pu_evh (M : nb_M) (set : Int) : Int → Int := pu_eve (M.1 606) (pu_cra M) (pu_pes M set) (M.1 606 4) (M.1 606 2) (pu_lfs M (pu_pes M set))
theorem pu_peh_ok {M : nb_M} {k set : Int} (h : pu_I M k) : ∀ n : Nat, n ≤ 10 → pu_Rp (pu_peh M set n) ∧ (∀ q, pu_peh M set n (7 * q + 2) = pu_pea M (7 * q + 2)) ∧ ∀ j, 70 ≤ j ∨ j < 0 → pu_peh M set n j = pu_pea M j
  | 0, _ => ⟨(pu_sta_ok h).2.2.2.2.2.1, fun _ => rfl, fun _ _ => rfl⟩
  | n + 1, hn => by
    obtain ⟨a, b, c⟩ := pu_peh_ok (set := set) h n (by omega)
    refine ⟨pu_bhv_Rp (by omega) (by split <;> decide) a, fun q => ?_, fun j hj => ?_⟩
    · show pu_bhv (pu_peh M set n) n _ (7 * q + 2) = _
      unfold pu_bhv
      rw [nb_ud_other (by omega), nb_ud_other (by omega), b]
    · show pu_bhv (pu_peh M set n) n _ j = _
      unfold pu_bhv
      rw [nb_ud_other (by omega), nb_ud_other (by omega), c j hj]
theorem pu_lf_bhv {np ns q m : Int} {cr pe : Int → Int} (hnp : np ≤ 10) (hq : 0 ≤ q ∧ q < np) : pu_lf np ns cr (pu_bhv pe q m) = nb_ud (pu_lf np ns cr pe) (12 + 8 * q + 3) (pu_bhs pe q m) := by
  funext j
  obtain ⟨b0, b1, b2⟩ := pu_bhv_at (pe := pe) (p := q) (m := m)
  by_cases e : j = 12 + 8 * q + 3
  · subst e
    rw [nb_ud_same, (pu_lf_at hq).2.2.2.1]
    unfold pu_sfp pu_bhs
    rw [b0, b1, b2]
    (repeat' split) <;> omega
  · rw [nb_ud_other e]
    have eo : ∀ i, i ≠ 7 * q → i ≠ 7 * q + 1 → pu_bhv pe q m i = pe i := fun i x y => by
      unfold pu_bhv
      rw [nb_ud_other y, nb_ud_other x]
    unfold pu_lf
    by_cases c : 12 ≤ j ∧ j < 12 + 8 * np
    · rw [if_pos c, if_pos c]
      by_cases c0 : (j - 12) % 8 = 0
      · rw [if_pos c0, if_pos c0]
      rw [if_neg c0, if_neg c0]
      by_cases c1 : (j - 12) % 8 = 1
      · rw [if_pos c1, if_pos c1, eo _ (by omega) (by omega)]
      rw [if_neg c1, if_neg c1]
      by_cases c2 : (j - 12) % 8 = 2
      · rw [if_pos c2, if_pos c2, eo _ (by omega) (by omega)]
      rw [if_neg c2, if_neg c2]
      by_cases c3 : (j - 12) % 8 = 3
      · rw [if_pos c3, if_pos c3]
        unfold pu_sfp
        rw [eo _ (by omega) (by omega), eo _ (by omega) (by omega), eo _ (by omega) (by omega)]
      · rw [if_neg c3, if_neg c3]
    · rw [if_neg c, if_neg c]
theorem pu_lfs_ok {M : nb_M} {k set : Int} {n : Nat} (h : pu_I M k) (hn : n ≤ 10) : pu_Rw (pu_lfs M (pu_peh M set n)) ∧ pu_Rk (pu_lfs M (pu_peh M set n)) ∧ pu_lfs M (pu_peh M set n) 0 = 0 ∧ pu_Ib (pu_peh M set n) (pu_lfs M (pu_peh M set n)) (M.1 606 5) (M.1 606 4) ∧ ∀ q, 0 ≤ q → q < M.1 606 5 → pu_lfs M (pu_peh M set n) (12 + 8 * q) = 0 := by
  obtain ⟨k1, k2, k3, k4, k5, k6, k7, k8⟩ := pu_sta_ok h
  obtain ⟨Ho, hHo, hx2, hx3, hh, hSn, hT, h14, h7, hL⟩ := pu_I_at h
  have hr := hT.1
  have n5 := hr.2.2.2.2.2.2.1
  have n4 := hr.2.2.2.2.2.1
  obtain ⟨a, b, c⟩ := pu_peh_ok (set := set) h n hn
  have e : ∀ j, 0 ≤ j → j < 108 → pu_lfs M (pu_peh M set n) j = pu_lf (M.1 606 5) (M.1 606 4) (pu_cra M) (pu_peh M set n) j := fun j p q => pu_cpy_in j p q
  obtain ⟨g1, g2, g3, g4, g5⟩ := pu_lf_ok n5 n4 k5 a e
  exact ⟨g1, g2, g3, g5, fun q p0 p1 => by rw [e _ (by omega) (by omega)]; exact (pu_lf_at ⟨p0, p1⟩).1⟩
/-- an evening of liars: nobody is away or gone at its end -/
theorem pu_evh_ok {M : nb_M} {k set : Int} (h : pu_I M k) : pu_Rp (pu_pes M set) ∧ pu_Rw (pu_evh M set) ∧ M.1 606 2 + 1 ≤ pu_evh M set 0 ∧ ∀ q, 0 ≤ q → q < M.1 606 5 → pu_evh M set (12 + 8 * q) ≠ 5 := by
  obtain ⟨k1, k2, k3, k4, k5, k6, k7, k8⟩ := pu_sta_ok h
  obtain ⟨Ho, hHo, hx2, hx3, hh, hSn, hT, h14, h7, hL⟩ := pu_I_at h
  have hr := hT.1
  have n5 := hr.2.2.2.2.2.2.1
  have n4 := hr.2.2.2.2.2.1
  have n2 := hr.2.2.2.1
  obtain ⟨a, b, c⟩ := pu_peh_ok (set := set) h (M.1 606 5).toNat (by omega)
  obtain ⟨g1, g2, g3, g4, g5⟩ := pu_lfs_ok (set := set) (n := (M.1 606 5).toNat) h (by omega)
  obtain ⟨f1, f2, f3⟩ := pu_eve_facts (pe := pu_pes M set) (ns := M.1 606 4) (bell := M.1 606 2) hr k5 (by omega) (by omega) g1 g2
  exact ⟨a, f1, f3, fun q q0 q1 z => by
    have w := (f2 q q0 (by omega)).1 z
    rw [g5 q q0 q1] at w
    exact absurd w (by decide)⟩
theorem sp_c_liarsQ {M N : nb_M} {k tr set : Int} {v2 : nb_V} (h : pu_I M k) (hq : pu_CQ M N tr) : nb_W 54 0 [(19, 2), (0, set), v2] [] N (fun r' N' => r' = [(15, 106)] ∧ pu_CQ M N' tr ∧ N'.1 106 8 = M.1 606 2 ∧ pu_St M N' (M.1 606 4) (pu_cra M) (pu_pes M set) (pu_evh M set) ∧ ∀ a i, 128 ≤ a → N'.1 a i = N.1 a i) := by
  obtain ⟨k1, k2, k3, k4, k5, k6, k7, k8⟩ := pu_sta_ok h
  obtain ⟨Ho, hHo, hx2, hx3, hh, hSn, hT, h14, h7, hL⟩ := pu_I_at h
  have hr := hT.1
  have n5 := hr.2.2.2.2.2.2.1
  have n4 := hr.2.2.2.2.2.1
  have n2 := hr.2.2.2.1
  have hhN := hq.ho hHo hr hh
  have o := hhN.1
  refine w_c_eveningOfLiars_0 hq.1 hHo (hq.x2 hx2) ?_
  refine nb_W.imp (sp_sc_open (np := M.1 606 5) (ns := M.1 606 4) hq.1 nb_sc106 hHo o.2.2.2.2.1 o.2.2.2.1 n5 n4) ?_
  rintro r' N1 ⟨rfl, hf, ⟨a3, a4, a5, a6, a7, a8⟩, eg, ev, ef⟩
  have q1 := hq.stage hf
  refine ⟨rfl, q1.1, q1.x2 hx2, ?_⟩
  rw [o.2.1] at a8
  have S1 : pu_St M N1 (M.1 606 4) (pu_cra M) (pu_peh M set 0) (pu_lfs M (pu_peh M set 0)) := by
    obtain ⟨s1, s2⟩ := pu_open_S (A := 106) (Ho := Ho) (cr := pu_cra M) (pe := pu_pea M) (R := pu_lfs M (pu_pea M)) hr hhN (fun i x y => by rw [pu_cra_eq M x y]; unfold pu_cr0; rw [if_pos y]) (fun i x y => by rw [pu_pea_eq M x y]; rfl) (fun j x y => pu_cpy_in j x y) a4 a5 a6 eg ev ef
    exact ⟨s1, s2, (pu_lfs_ok (set := set) (n := 0) h (by decide)).2.2.2.1⟩
  have f1 : ∀ a i, 128 ≤ a → N1.1 a i = N.1 a i := fun a i x => hf.2.2 a i (by omega)
  suffices hl : ∀ (n j : Nat), (j : Int) + n = M.1 606 5 → ∀ N1, pu_CQ M N1 tr → N1.1 106 3 = M.1 2 2 → N1.1 106 7 = 0 → N1.1 106 8 = M.1 606 2 → pu_St M N1 (M.1 606 4) (pu_cra M) (pu_peh M set j) (pu_lfs M (pu_peh M set j)) → (∀ a i, 128 ≤ a → N1.1 a i = N.1 a i) → nb_W 54 2 [(19, 2), (0, set), (0, (j : Int))] [] N1 (fun r' N' => r' = [(15, 106)] ∧ pu_CQ M N' tr ∧ N'.1 106 8 = M.1 606 2 ∧ pu_St M N' (M.1 606 4) (pu_cra M) (pu_pes M set) (pu_evh M set) ∧ ∀ a i, 128 ≤ a → N'.1 a i = N.1 a i) from hl (M.1 606 5).toNat 0 (by omega) N1 q1 (a3.trans hx2.symm) a7 a8 S1 f1
  clear S1 f1 q1 a3 a4 a5 a6 a7 a8 eg ev ef hf N1
  intro n
  induction n with
  | zero =>
    intro j hj N1 q1 a3 a7 a8 S1 f1
    have o := (q1.ho hHo hr hh).1
    refine w_c_eveningOfLiars_2 q1.1 hHo (q1.x2 hx2) (by omega) ?_
    rw [o.2.2.2.2.1, a8]
    refine ⟨by omega, by omega, fun c => absurd c (by omega), fun _ => ?_⟩
    rw [show j = (M.1 606 5).toNat by omega] at S1
    obtain ⟨a, b, c⟩ := pu_peh_ok (set := set) h (M.1 606 5).toNat (by omega)
    obtain ⟨g1, g2, g3, g4, g5⟩ := pu_lfs_ok (set := set) (n := (M.1 606 5).toNat) h (by omega)
    refine nb_W.imp (sp_c_runQ (x := M.1 606 2) h q1 a3 (by rw [g3]; exact a7) k5 a (by omega) S1 (fun p x y => by rw [b]; exact k7 p x y) (by omega)) ?_
    rintro r' N2 ⟨rfl, q2, b3, b8, S2, f2⟩
    exact ⟨rfl, q2.1, q2.x2 hx2, fun _ => ⟨rfl, q2, b8.trans a8, S2, fun a i x => (f2 a i x).trans (f1 a i x)⟩⟩
  | succ n ih =>
    intro j hj N1 q1 a3 a7 a8 S1 f1
    have o := (q1.ho hHo hr hh).1
    obtain ⟨a, b, c⟩ := pu_peh_ok (set := set) h j (by omega)
    have key : ∀ m : Int, m = (if nb_and (nb_shr set j) 1 = 1 then 1 else 0) → nb_W 216 0 [(11, 110 + (j : Int)), (0, m), (0, 30)] [] N1 (fun r M8 => r = [] ∧ nb_Lay M8 ∧ M8.1 2 2 = Ho ∧ nb_W 54 2 [(19, 2), (0, set), (0, (j : Int) + 1)] [] M8 (fun r' N' => r' = [(15, 106)] ∧ pu_CQ M N' tr ∧ N'.1 106 8 = M.1 606 2 ∧ pu_St M N' (M.1 606 4) (pu_cra M) (pu_pes M set) (pu_evh M set) ∧ ∀ a i, 128 ≤ a → N'.1 a i = N.1 a i)) := by
      intro m hm
      refine nb_W.imp (sp_g_behaveQ (m := m) q1 S1 n5.2 (by omega) (by omega) a) ?_
      rintro r' N2 ⟨rfl, q2, S2, eo⟩
      refine ⟨rfl, q2.1, q2.x2 hx2, ?_⟩
      have e1 : pu_bhv (pu_peh M set j) j m = pu_peh M set (j + 1) := by rw [hm]; rfl
      have e2 : nb_ud (pu_lfs M (pu_peh M set j)) (12 + 8 * (j : Int) + 3) (pu_bhs (pu_peh M set j) j m) = pu_lfs M (pu_peh M set (j + 1)) := by
        unfold pu_lfs
        rw [← e1, pu_lf_bhv n5.2 (by omega), pu_cpy_ud (by omega)]
      rw [e1, e2] at S2
      exact ih (j + 1) (by omega) N2 q2 (by rw [eo 106 3 (by omega)]; exact a3) (by rw [eo 106 7 (by omega)]; exact a7) (by rw [eo 106 8 (by omega)]; exact a8) S2 (fun a i x => (eo a i (by omega)).trans (f1 a i x))
    refine w_c_eveningOfLiars_2 q1.1 hHo (q1.x2 hx2) (by omega) ?_
    rw [o.2.2.2.2.1]
    exact ⟨by omega, by omega, fun _ => ⟨fun c => key 1 (if_pos c).symm, fun c => key 0 (if_neg c).symm⟩, fun c => absurd c (by omega)⟩
/-- the reference lays it out -/
theorem sp_m_honestQ {M N : nb_M} {set : Int} {v2 : nb_V} (hf : pu_RF M) (hP : ∀ n : Nat, n ≤ 10 → pu_Rp (pu_peh M set n)) (hl : pu_Rw (pu_lfs M (pu_pes M set)) ∧ pu_Rk (pu_lfs M (pu_pes M set))) (hq : pu_MM M N (M.1 608) (M.1 612)) : nb_W 177 0 [(20, 603), (0, set), v2] [] N (fun r' N' => r' = [] ∧ pu_MM M N' (M.1 608) (M.1 612) ∧ N'.1 609 = pu_evh M set ∧ N'.1 613 = pu_pes M set ∧ N'.1 603 26 = M.1 606 2 ∧ N'.1 615 = N.1 615) := by
  obtain ⟨hr, hc, hp, hS, hk⟩ := hf
  have n5 := hr.2.2.2.2.2.2.1
  have n4 := hr.2.2.2.2.2.1
  have n2 := hr.2.2.2.1
  refine w_m_layHonest_0 hq.1 ?_
  refine nb_W.imp (sp_m_asToldQ hq) ?_
  rintro r' N1 ⟨rfl, q1, e25, eo, e12, e13, ef⟩
  refine ⟨rfl, q1.1, ?_⟩
  rw [q1.r]
  suffices hl2 : ∀ (n j : Nat), (j : Int) + n = M.1 606 5 → ∀ N1, pu_MM M N1 (M.1 608) (M.1 612) → N1.1 603 25 = M.1 606 4 → N1.1 603 26 = M.1 606 2 → N1.1 612 = pu_cra M → N1.1 613 = pu_peh M set j → N1.1 615 = N.1 615 → nb_W 177 3 [(20, 603), (0, set), (0, (j : Int))] [] N1 (fun r' N' => r' = [] ∧ pu_MM M N' (M.1 608) (M.1 612) ∧ N'.1 609 = pu_evh M set ∧ N'.1 613 = pu_pes M set ∧ N'.1 603 26 = M.1 606 2 ∧ N'.1 615 = N.1 615) from hl2 (M.1 606 5).toNat 0 (by omega) _ (q1.fld (by omega)) (by rw [nb_wr_1, if_neg (by omega)]; exact e25) (by rw [nb_wr_1, if_pos ⟨rfl, rfl⟩]) (by rw [nb_wr_b (by decide)]; exact e12) (by rw [nb_wr_b (by decide)]; exact e13) (by rw [nb_wr_b (by decide)]; exact ef 615 (by decide))
  clear q1 e25 eo e12 e13 ef N1
  intro n
  induction n with
  | succ n ih =>
    intro j hj N1 q1 e25 e26 e12 e13 e15
    have key : ∀ m : Int, m = (if nb_and (nb_shr set j) 1 = 1 then 1 else 0) → nb_W 169 0 [(20, 603), (0, (j : Int)), (0, m)] [] N1 (fun r M6 => r = [] ∧ nb_Lay M6 ∧ nb_W 177 3 [(20, 603), (0, set), (0, (j : Int) + 1)] [] M6 (fun r' N' => r' = [] ∧ pu_MM M N' (M.1 608) (M.1 612) ∧ N'.1 609 = pu_evh M set ∧ N'.1 613 = pu_pes M set ∧ N'.1 603 26 = M.1 606 2 ∧ N'.1 615 = N.1 615)) := by
      intro m hm
      refine nb_W.imp (sp_m_beOfQ (m := m) q1 (by omega)) ?_
      rintro r' N2 ⟨rfl, q2, b13, bo⟩
      exact ⟨rfl, q2.1, ih (j + 1) (by omega) N2 q2 (by rw [bo 603 (by decide)]; exact e25) (by rw [bo 603 (by decide)]; exact e26) (by rw [bo 612 (by decide)]; exact e12) (by rw [b13, e13, hm]; rfl) (by rw [bo 615 (by decide)]; exact e15)⟩
    refine w_m_layHonest_3 q1.1 (by omega) ?_
    rw [q1.r]
    exact ⟨by omega, by omega, fun _ => ⟨fun c => key 1 (if_pos c).symm, fun c => key 0 (if_neg c).symm⟩, fun c => absurd c (by omega)⟩
  | zero =>
    intro j hj N1 q1 e25 e26 e12 e13 e15
    have ej : j = (M.1 606 5).toNat := by omega
    subst ej
    have hp' := hP (M.1 606 5).toNat (by omega)
    refine w_m_layHonest_3 q1.1 (by omega) ?_
    rw [q1.r]
    refine ⟨by omega, by omega, fun c => absurd c (by omega), fun _ => ?_⟩
    refine nb_Wp (sp_m_copy (n0 := 108) (n2 := 108) (by decide) (by decide) (by decide) (by decide) (q1.1.lk (by decide) (by decide +kernel)) (q1.1.lk (by decide) (by decide +kernel)) (by decide) (by decide) (by decide) (by decide) (by decide)) ?_
    have q1a := q1
    obtain ⟨m1, m2, m3, m4, m5, m6, m7, m8, m9⟩ := q1a
    have q2 : pu_MM M (nb_up N1 614 (pu_cpy (N1.1 608) (N1.1 614) 0 0 108)) (M.1 608) (M.1 612) := by
      refine ⟨m1.up (fun i w => nb_nnum (by decide) (by decide)), m2, ?_, ?_, fun a p q s t => ?_, fun j a b c d e f g => ?_, ?_, ?_, ?_⟩
      · rw [nb_up_other (by decide)]; exact m3
      · rw [nb_up_other (by decide)]; exact m4
      · rw [nb_up_other (by omega)]; exact m5 a p q s t
      · rw [nb_up_other (by decide)]; exact m6 j a b c d e f g
      · rw [nb_up_other (by decide)]; exact m7
      · rw [nb_up_other (by decide)]; exact m8
      · rw [nb_up_other (by decide)]; exact m9
    refine ⟨rfl, q2.1, ?_⟩
    have hlf := sp_m_layFirst (v2 := (98, 0)) (v3 := (98, 0)) (np := M.1 606 5) (ns := M.1 606 4) (cr := pu_cra M) (pe := pu_pes M set) q2.1 (by rw [q2.r]) n5 (by rw [nb_up_other (by decide)]; exact e25) n4 (by rw [nb_up_other (by decide)]; exact e12) (by rw [nb_up_other (by decide)]; exact e13) hp'
    refine nb_Wp hlf ?_
    obtain ⟨m1, m2, m3, m4, m5, m6, m7, m8, m9⟩ := q2
    have e8 : (nb_up N1 614 (pu_cpy (N1.1 608) (N1.1 614) 0 0 108)).1 608 = M.1 608 := m3
    rw [e8]
    have q3 : pu_MM M (nb_up (nb_up N1 614 (pu_cpy (N1.1 608) (N1.1 614) 0 0 108)) 608 (pu_cpy (pu_lf (M.1 606 5) (M.1 606 4) (pu_cra M) (pu_pes M set)) (M.1 608) 0 0 108)) (pu_cpy (pu_lf (M.1 606 5) (M.1 606 4) (pu_cra M) (pu_pes M set)) (M.1 608) 0 0 108) (M.1 612) := by
      refine ⟨m1.up (fun i w => nb_nrow (Or.inl rfl)), m2, nb_up_same _ _ _, ?_, fun a p q s t => ?_, fun j a b c d e f g => ?_, ?_, ?_, ?_⟩
      · rw [nb_up_other (by decide)]; exact m4
      · rw [nb_up_other q]; exact m5 a p q s t
      · rw [nb_up_other (by decide)]; exact m6 j a b c d e f g
      · rw [nb_up_other (by decide)]; exact m7
      · rw [nb_up_other (by decide)]; exact m8
      · rw [nb_up_other (by decide)]; exact m9
    refine ⟨rfl, q3.1, ?_⟩
    have ecc : ∀ g : Int → Int, pu_cpy (pu_cpy (pu_lf (M.1 606 5) (M.1 606 4) (pu_cra M) (pu_pes M set)) (M.1 608) 0 0 108) g 0 0 108 = pu_cpy (pu_lf (M.1 606 5) (M.1 606 4) (pu_cra M) (pu_pes M set)) g 0 0 108 := fun g => by
      funext j
      simp only [pu_cpy]
      rw [show j - 0 + 0 = j by omega, show j - 0 + 0 = j by omega]
      (repeat' split) <;> first | rfl | omega
    have hS3 : pu_Rw (pu_cpy (pu_lf (M.1 606 5) (M.1 606 4) (pu_cra M) (pu_pes M set)) (M.1 608) 0 0 108) := pu_Rw_congr (fun j a b => (pu_cpy_in j a b).trans (pu_cpy_in (g := M.1 609) j a b).symm) hl.1
    have hk3 : pu_Rk (pu_cpy (pu_lf (M.1 606 5) (M.1 606 4) (pu_cra M) (pu_pes M set)) (M.1 608) 0 0 108) := pu_Rk_congr (fun j a b => (pu_cpy_in j a b).trans (pu_cpy_in (g := M.1 609) j a b).symm) hl.2
    refine nb_W.imp (sp_m_eveningQ (ns := M.1 606 4) (bell := M.1 606 2) (cr := pu_cra M) (pe := pu_pes M set) q3 hr hc hp' hS3 hk3 ?_ ?_ ?_ ?_ (by omega) (by omega)) ?_
    · rw [nb_up_other (by decide), nb_up_other (by decide)]; exact e25
    · rw [nb_up_other (by decide), nb_up_other (by decide)]; exact e26
    · rw [nb_up_other (by decide), nb_up_other (by decide)]; exact e12
    · rw [nb_up_other (by decide), nb_up_other (by decide)]; exact e13
    rintro r' N4 ⟨rfl, q4, e9, eo4⟩
    rw [ecc] at e9
    refine ⟨rfl, q4.1, ?_⟩
    refine nb_Wp (sp_m_copy (n0 := 108) (n2 := 108) (by decide) (by decide) (by decide) (by decide) (q4.1.lk (by decide) (by decide +kernel)) (q4.1.lk (by decide) (by decide +kernel)) (by decide) (by decide) (by decide) (by decide) (by decide)) ?_
    have e614 : pu_cpy (N4.1 614) (N4.1 608) 0 0 108 = M.1 608 := by
      rw [eo4 614 (by decide), nb_up_other (by decide), nb_up_same, q4.2.2.1, q1.2.2.1]
      funext j
      simp only [pu_cpy]
      rw [show j - 0 + 0 = j by omega]
      (repeat' split) <;> first | rfl | omega | (rw [show j - 0 + 0 = j by omega])
    rw [e614]
    obtain ⟨m1, m2, m3, m4, m5, m6, m7, m8, m9⟩ := q4
    have q5 : pu_MM M (nb_up N4 608 (M.1 608)) (M.1 608) (M.1 612) := by
      refine ⟨m1.up (fun i w => nb_nrow (Or.inl rfl)), m2, nb_up_same _ _ _, ?_, fun a p q s t => ?_, fun j a b c d e f g => ?_, ?_, ?_, ?_⟩
      · rw [nb_up_other (by decide)]; exact m4
      · rw [nb_up_other q]; exact m5 a p q s t
      · rw [nb_up_other (by decide)]; exact m6 j a b c d e f g
      · rw [nb_up_other (by decide)]; exact m7
      · rw [nb_up_other (by decide)]; exact m8
      · rw [nb_up_other (by decide)]; exact m9
    refine ⟨rfl, q5.1, fun _ => ⟨rfl, q5, ?_, ?_, ?_, ?_⟩⟩
    · rw [nb_up_other (by decide)]; exact e9
    · rw [nb_up_other (by decide), eo4 613 (by decide), nb_up_other (by decide), nb_up_other (by decide)]; exact e13
    · rw [nb_up_other (by decide), eo4 603 (by decide), nb_up_other (by decide), nb_up_other (by decide)]; exact e26
    · rw [nb_up_other (by decide), eo4 615 (by decide), nb_up_other (by decide), nb_up_other (by decide)]; exact e15
