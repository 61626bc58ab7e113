/-! ROWS OF ORDERS: the reference's side -/
theorem pu_MM.upw {M N : nb_M} {S C : Int → Int} (h : pu_MM M N S C) {a : Int} {f : Int → Int} (ha : 614 ≤ a) : pu_MM M (nb_up N a f) S C := by
  obtain ⟨m1, m2, m3, m4, m5, m6, m7, m8, m9⟩ := h
  refine ⟨m1.up (fun i w q => ?_), m2, ?_, ?_, fun b p q s t => ?_, fun j b p c d e f g => ?_, fun j hj => ?_, fun j hj => ?_, fun j hj => ?_⟩
  · rcases q with q | q | ⟨H, hH, q⟩ | ⟨A, hA, q⟩
    · have := nb_rt_rg q
      omega
    · unfold nb_fc at q
      omega
    · unfold nb_hs at hH
      rcases q with q | q | q | q | q | q | ⟨s, q⟩ <;> omega
    · unfold nb_sc at hA
      rcases q with q | q | q | ⟨s, q⟩ <;> omega
  · rw [nb_up_other (by omega)]; exact m3
  · rw [nb_up_other (by omega)]; exact m4
  · rw [nb_up_other (by omega)]; exact m5 b p q s t
  · rw [nb_up_other (by omega)]; exact m6 j b p c d e f g
  · rw [nb_up_other (by omega)]; exact m7 j hj
  · rw [nb_up_other (by omega)]; exact m8 j hj
  · rw [nb_up_other (by omega)]; exact m9 j hj
theorem pu_wn_ct {R : Int → Int} {i : Int} : ∀ n : Nat, pu_wn R i n ≠ -1 → pu_cnt R 1 (pu_wn R i n).toNat = i
  | 0, h => absurd rfl h
  | n + 1, h => by
    have ih := pu_wn_ct (R := R) (i := i) n
    by_cases c : pu_wn R i n ≠ -1
    · have e : pu_wn R i (n + 1) = pu_wn R i n := if_pos c
      rw [e]
      exact ih c
    · have e : pu_wn R i (n + 1) = if R (12 + 8 * n) = 1 ∧ pu_cnt R 1 n = i then (n : Int) else -1 := if_neg c
      by_cases c2 : R (12 + 8 * (n : Int)) = 1 ∧ pu_cnt R 1 n = i
      · rw [e, if_pos c2]
        exact c2.2
      · rw [e, if_neg c2] at h
        exact absurd rfl h
def pu_rgo (M : nb_M) (T : Int → Int → Int) (cnt n : Nat) (S : Int) (X : Nat) : Nat → Int
  | 0 => pu_rw M X
  | j + 1 => pu_rw M (pu_lx T cnt n (pu_rm S X) X j)
def pu_rP (M N0 N : nb_M) (C : Int → Int) (t cnt : Nat) (g : Nat → Int) (v b : Int) : Prop := pu_MM M N (M.1 608) C ∧ N.1 603 33 = (if v < b then v else b) ∧ (∀ i : Nat, i < cnt → N.1 617 i = if v < b then (if i < t then N0.1 616 i else g (i - t)) else N0.1 617 i) ∧ ∀ i : Nat, i < t → N.1 616 i = N0.1 616 i
theorem pu_rP_step {M N0 N N2 : nb_M} {C : Int → Int} {t cnt c n : Nat} {T : Int → Int → Int} {S : Int} {X : Nat × Int} {b K f w : Int} (hw : w = pu_rw M c) (h : pu_rP M N0 N C t cnt (pu_rgo M T cnt n S X.1) (K + X.2) b) (g : pu_rP M (nb_wr N 616 t w) N2 C (t + 1) cnt (fun i => pu_rw M (pu_lx T cnt n (pu_rm S c) c i)) (K + f) ((nb_wr N 616 t w).1 603 33)) : pu_rP M N0 N2 C t cnt (pu_rgo M T cnt n S (if f < X.2 then (c, f) else X).1) (K + (if f < X.2 then (c, f) else X).2) b := by
  obtain ⟨h1, h2, h3, h4⟩ := h
  obtain ⟨g1, g2, g3, g4⟩ := g
  have e33 : (nb_wr N 616 t w).1 603 33 = N.1 603 33 := by rw [nb_wr_b (by decide)]
  have w616 : ∀ i : Nat, i < t → (nb_wr N 616 t w).1 616 i = N0.1 616 i := fun i hi => by
    rw [nb_wr_1, if_neg (by omega)]
    exact h4 i hi
  have w616t : (nb_wr N 616 t w).1 616 t = w := by rw [nb_wr_1, if_pos ⟨rfl, rfl⟩]
  have w617 : (nb_wr N 616 t w).1 617 = N.1 617 := nb_wr_b (by decide)
  rw [e33, h2] at g2 g3
  by_cases z : f < X.2
  · rw [if_pos z]
    have e : (K + f < (if K + X.2 < b then K + X.2 else b)) ↔ K + f < b := by
      by_cases c : K + X.2 < b
      · rw [if_pos c]; omega
      · rw [if_neg c]
    refine ⟨g1, ?_, fun i hi => ?_, fun i hi => ?_⟩
    · rw [g2]
      by_cases c2 : K + f < b
      · rw [if_pos (e.2 c2), if_pos c2]
      · rw [if_neg (fun q => c2 (e.1 q)), if_neg c2, if_neg (by omega)]
    · rw [g3 i hi]
      by_cases c2 : K + f < b
      · rw [if_pos (e.2 c2), if_pos c2]
        by_cases c3 : i < t
        · rw [if_pos (by omega), if_pos c3]
          exact w616 i c3
        · rw [if_neg c3]
          by_cases c4 : i = t
          · subst c4
            rw [if_pos (by omega), w616t, Nat.sub_self]
            exact hw
          · obtain ⟨j, hj⟩ : ∃ j : Nat, i = t + 1 + j := ⟨i - t - 1, by omega⟩
            subst hj
            rw [if_neg (by omega), show t + 1 + j - (t + 1) = j by omega, show t + 1 + j - t = j + 1 by omega]
            rfl
      · rw [if_neg (fun q => c2 (e.1 q)), if_neg c2, w617, h3 i hi, if_neg (by omega)]
    · rw [g4 i (by omega)]
      exact w616 i hi
  · rw [if_neg z]
    have e : ¬ (K + f < (if K + X.2 < b then K + X.2 else b)) := by
      by_cases c : K + X.2 < b
      · rw [if_pos c]; omega
      · rw [if_neg c]; omega
    exact ⟨g1, by rw [g2, if_neg e], fun i hi => by rw [g3 i hi, if_neg e, w617]; exact h3 i hi, fun i hi => (g4 i (by omega)).trans (w616 i hi)⟩
/-- what a step finds -/
def pu_rI (M N : nb_M) (C : Int → Int) (s : Int) (t cnt n S : Nat) (d : Nat) (used last a0 s0 : Int) : Prop :=
  pu_MM M N (M.1 608) C ∧ t + n = cnt ∧ pu_ones S = n ∧ (S : Int) < nb_shl 1 cnt ∧ pu_vl cnt d ∧ (0 ≤ used ∧ used ≤ 1023) ∧ (∀ i : Nat, i < cnt → (pu_bit used (pu_rw M i) ↔ ¬ pu_bit S i)) ∧ (-1 ≤ last ∧ last ≤ 9) ∧ (∀ i : Nat, i < cnt → pu_tb (M.1 606) last (pu_rw M i) = pu_rT M s d i) ∧ (0 ≤ a0 ∧ a0 ≤ 4500 * t) ∧ (0 ≤ s0 ∧ s0 ≤ 31500 * t) ∧ N.1 603 33 ≤ 1000000
def pu_rO (M N N' : nb_M) (C : Int → Int) (s : Int) (t cnt n S : Nat) (d : Nat) (a0 s0 : Int) : Prop := pu_rP M N N' C t cnt (fun i => pu_rw M (pu_lx (pu_rT M s) cnt n S d i)) (s0 + n * a0 + (pu_vb (pu_rT M s) cnt n S d).2) (N.1 603 33)
theorem pu_rO_leaf {M N : nb_M} {C : Int → Int} {s : Int} {cnt S d : Nat} {a0 s0 used last : Int} {Q : List nb_V → nb_M → Prop} (h7 : cnt ≤ 7) (h : pu_rI M N C s cnt cnt 0 S d used last a0 s0) (c : s0 < N.1 603 33) (hQ : ∀ N', pu_rO M N N' C s cnt cnt 0 S d a0 s0 → Q [] N') : nb_W 86 0 [(3, 616), (0, 0), (3, 617), (0, 0), (0, (cnt : Int)), (98, 0)] [] (nb_wr N 603 33 s0) (fun r M6 => r = [] ∧ nb_Lay M6 ∧ (nb_Lay M6 → Q [] M6)) := by
  have hq := h.1
  have q1 : pu_MM M (nb_wr N 603 33 s0) (M.1 608) C := hq.fld (by omega)
  refine nb_Wp (sp_m_copy (n0 := 7) (n2 := 7) (by decide) (by decide) (by decide) (by decide) (q1.1.lk (by decide) (by decide +kernel)) (q1.1.lk (by decide) (by decide +kernel)) (by decide) (by decide) (by omega) (by omega) (by omega)) ?_
  have q2 := q1.upw (a := 617) (f := pu_cpy ((nb_wr N 603 33 s0).1 616) ((nb_wr N 603 33 s0).1 617) 0 0 cnt) (by decide)
  refine ⟨rfl, q2.1, fun _ => hQ _ ?_⟩
  have hv : s0 + ((0 : Nat) : Int) * a0 + (pu_vb (pu_rT M s) cnt 0 S d).2 = s0 := by
    show s0 + 0 * a0 + 0 = s0
    omega
  unfold pu_rO
  rw [hv]
  refine ⟨q2, ?_, fun i hi => ?_, fun i hi => ?_⟩
  · rw [nb_up_other (by decide), nb_wr_1, if_pos ⟨rfl, rfl⟩, if_pos c]
  · rw [if_pos c, if_pos hi, nb_up_same]
    unfold pu_cpy
    rw [if_pos (by omega), nb_wr_b (by decide)]
    exact congrArg (N.1 616) (by omega)
  · rw [nb_up_other (by decide), nb_wr_b (by decide)]
theorem pu_rO_cut {M N : nb_M} {k : Int} {C : Int → Int} {s : Int} {t cnt n S d : Nat} {a0 s0 used last : Int} (hr : pu_Rr (M.1 606)) (hc : (cnt : Int) = pu_cnt (M.1 608) 1 (M.1 606 5).toNat) (h7 : cnt ≤ 7) (h : pu_rI M N C s t cnt n S d used last a0 s0) (c : N.1 603 33 ≤ s0) : pu_rO M N N C s t cnt n S d a0 s0 := by
  obtain ⟨h1, h2, h3, h4, h5, h6, h8, h9, h10, h11, h12, h13⟩ := h
  have hT : ∀ (d : Int) (i : Nat), pu_vl cnt d → i < cnt → 0 ≤ pu_rT M s d i ∧ pu_rT M s d i ≤ 4500 := fun d i hd hi => pu_rT_ok hr hc d i hd hi
  have vb := (pu_vb_ok (T := pu_rT M s) h7 hT n S d h5 h4 h3).1
  have na : 0 ≤ (n : Int) * a0 := Int.mul_nonneg (by omega) h11.1
  have e : ¬ (s0 + n * a0 + (pu_vb (pu_rT M s) cnt n S d).2 < N.1 603 33) := by omega
  exact ⟨h1, (if_neg e).symm, fun i _ => (if_neg e).symm, fun _ _ => rfl⟩
theorem sp_m_rowFrom7 {M N : nb_M} {C : Int → Int} {s : Int} {t cnt n S d : Nat} {a0 s0 used last : Int} {v7 v8 : nb_V} (ht : t = 7) (hr : pu_Rr (M.1 606)) (hc : (cnt : Int) = pu_cnt (M.1 608) 1 (M.1 606 5).toNat) (h7 : cnt ≤ 7) (h : pu_rI M N C s t cnt n S d used last a0 s0) : nb_W 191 0 [(20, 603), (0, (t : Int)), (0, (cnt : Int)), (0, used), (0, last), (0, a0), (0, s0), v7, v8] [] N (fun r' N' => r' = [] ∧ pu_rO M N N' C s t cnt n S d a0 s0) := by
  have hq := h.1
  have htn := h.2.1
  have n5 := hr.2.2.2.2.2.2.1
  refine w_m_rowFrom7_0 hq.1 ⟨fun c => ⟨fun e => ?_, fun e => ?_⟩, fun c _ => ⟨rfl, pu_rO_cut (k := 0) hr hc h7 h c⟩⟩
  · have e1 : t = cnt := by omega
    have e2 : n = 0 := by omega
    subst e1
    subst e2
    exact pu_rO_leaf (Q := fun r' N' => r' = [] ∧ pu_rO M N N' C s t t 0 S d a0 s0) h7 h c (fun N' g => ⟨rfl, g⟩)
  · exact absurd (by omega) e
theorem sp_m_rowFrom6 {M N : nb_M} {C : Int → Int} {s : Int} {t cnt n S d : Nat} {a0 s0 used last : Int} {v7 v8 : nb_V} (ht : t = 6) (hr : pu_Rr (M.1 606)) (hc : (cnt : Int) = pu_cnt (M.1 608) 1 (M.1 606 5).toNat) (h7 : cnt ≤ 7) (h : pu_rI M N C s t cnt n S d used last a0 s0) : nb_W 190 0 [(20, 603), (0, (t : Int)), (0, (cnt : Int)), (0, used), (0, last), (0, a0), (0, s0), v7, v8] [] N (fun r' N' => r' = [] ∧ pu_rO M N N' C s t cnt n S d a0 s0) := by
  have hq := h.1
  have htn := h.2.1
  have n5 := hr.2.2.2.2.2.2.1
  refine w_m_rowFrom6_0 hq.1 ⟨fun c => ⟨fun e => ?_, fun e => ?_⟩, fun c _ => ⟨rfl, pu_rO_cut (k := 0) hr hc h7 h c⟩⟩
  · have e1 : t = cnt := by omega
    have e2 : n = 0 := by omega
    subst e1
    subst e2
    exact pu_rO_leaf (Q := fun r' N' => r' = [] ∧ pu_rO M N N' C s t t 0 S d a0 s0) h7 h c (fun N' g => ⟨rfl, g⟩)
  · -- down
    obtain ⟨m, hm⟩ : ∃ m : Nat, n = m + 1 := ⟨n - 1, by omega⟩
    subst hm
    obtain ⟨h1, h2, h3, h4, h5, h6, h8, h9, h10, h11, h12, h13⟩ := h
    have na : 0 ≤ ((m : Int) + 1) * a0 := Int.mul_nonneg (by omega) h11.1
    have hp := pu_pow7 cnt h7
    have hcm : ∀ p : Nat, (p : Int) ≤ M.1 606 5 → 0 ≤ pu_cnt (M.1 608) 1 p ∧ pu_cnt (M.1 608) 1 p ≤ cnt := fun p hp => ⟨(pu_cnt_le p).1, by rw [hc]; exact pu_cnt_mono _ _ (by omega)⟩
    suffices hl : ∀ (j p : Nat) (v8 : nb_V) (N1 : nb_M), (p : Int) + j = M.1 606 5 → pu_rP M N N1 C t cnt (pu_rgo M (pu_rT M s) cnt m S (pu_vf (fun i => ((m : Int) + 1) * pu_rT M s d i + (pu_vb (pu_rT M s) cnt m (pu_rm S i) i).2) S (pu_cnt (M.1 608) 1 p).toNat).1) ((s0 + ((m : Int) + 1) * a0) + (pu_vf (fun i => ((m : Int) + 1) * pu_rT M s d i + (pu_vb (pu_rT M s) cnt m (pu_rm S i) i).2) S (pu_cnt (M.1 608) 1 p).toNat).2) (N.1 603 33) → nb_W 190 7 [(20, 603), (0, (t : Int)), (0, (cnt : Int)), (0, used), (0, last), (0, a0), (0, s0), (0, (p : Int)), v8] [] N1 (fun r' N' => r' = [] ∧ pu_rO M N N' C s t cnt (m + 1) S d a0 s0) by
      have z : ¬ (s0 + ((m : Int) + 1) * a0 + 1000000 < N.1 603 33) := by omega
      exact hl (M.1 606 5).toNat 0 v8 N (by omega) ⟨h1, (if_neg z).symm, fun i _ => (if_neg z).symm, fun _ _ => rfl⟩
    intro j
    induction j with
    | zero =>
      intro p v8 N1 hp1 hP
      have q1 := hP.1
      refine w_m_rowFrom6_7 q1.1 (by omega) (by omega) (by omega) (by omega) (by omega) ?_
      rw [q1.r]
      refine ⟨by omega, by omega, fun c => absurd c (by omega), fun _ _ => ⟨rfl, ?_⟩⟩
      have ep : p = (M.1 606 5).toNat := by omega
      rw [ep, ← hc, show ((cnt : Nat) : Int).toNat = cnt from rfl] at hP
      have eg : (fun i => pu_rw M (pu_lx (pu_rT M s) cnt (m + 1) S d i)) = pu_rgo M (pu_rT M s) cnt m S (pu_vb (pu_rT M s) cnt (m + 1) S d).1 := by
        funext i
        cases i <;> rfl
      unfold pu_rO
      rw [eg]
      exact hP
    | succ j ih =>
      intro p v8 N1 hp1 hP
      have q1 := hP.1
      have hcp := hcm p (by omega)
      have hcq := hcm (p + 1) (by omega)
      have ec : pu_cnt (M.1 608) 1 (p + 1) = pu_cnt (M.1 608) 1 p + (if M.1 608 (12 + 8 * (p : Int)) = 1 then 1 else 0) := rfl
      obtain ⟨c, hcc⟩ : ∃ c : Nat, pu_cnt (M.1 608) 1 p = c := ⟨(pu_cnt (M.1 608) 1 p).toNat, by omega⟩
      have ih' := fun v8 N1 => ih (p + 1) v8 N1 (by omega)
      rw [hcc] at hP hcp ec
      rw [show ((c : Nat) : Int).toNat = c from rfl] at hP
      have hwn : M.1 608 (12 + 8 * (p : Int)) = 1 → pu_rw M c = p ∧ c < cnt := fun w => by
        rw [if_pos w] at ec
        refine ⟨?_, by omega⟩
        unfold pu_rw
        rw [← hcc]
        exact pu_wn_at (by omega) w
      refine w_m_rowFrom6_7 q1.1 (by omega) (by omega) (by omega) (by omega) (by omega) ?_
      rw [q1.r, q1.2.2.1]
      refine ⟨by omega, by omega, fun _ => ⟨fun u => ?_, fun u => ⟨fun w => ?_, fun w => ?_⟩⟩, fun z => absurd z (by omega)⟩
      · -- used
        refine ih' v8 N1 ?_
        by_cases w : M.1 608 (12 + 8 * (p : Int)) = 1
        · obtain ⟨w1, w2⟩ := hwn w
          have nb := (h8 c w2).1 (by rw [w1]; exact u)
          rw [if_pos w] at ec
          rw [ec, show ((c : Int) + 1).toNat = c + 1 by omega]
          have e : pu_vf (fun i => ((m : Int) + 1) * pu_rT M s d i + (pu_vb (pu_rT M s) cnt m (pu_rm S i) i).2) S (c + 1) = pu_vf (fun i => ((m : Int) + 1) * pu_rT M s d i + (pu_vb (pu_rT M s) cnt m (pu_rm S i) i).2) S c := if_neg (fun q => nb q.1)
          rw [e]
          exact hP
        · rw [if_neg w] at ec
          rw [ec, show ((c : Int) + 0).toNat = c by omega]
          exact hP
      · -- one more
        obtain ⟨w1, w2⟩ := hwn w
        have hb : pu_bit S c := by
          by_cases q : pu_bit S c
          · exact q
          · exact absurd (by have g := (h8 c w2).2 q; rw [w1] at g; exact g) u
        rw [if_pos w] at ec
        have eT := h10 c w2
        rw [w1] at eT
        have T1 := pu_rT_ok (s := s) hr hc d c h5 w2
        rw [eT]
        have g1 := pu_rm_in S (by omega) c (by omega) hb
        have g0 := pu_rm_all S (by omega) c (by omega)
        obtain ⟨x, hx⟩ : ∃ x : Nat, pu_rm S c = x := ⟨(pu_rm S c).toNat, by omega⟩
        rw [hx] at g1 g0
        obtain ⟨un, hun⟩ : ∃ un : Nat, used = un := ⟨used.toNat, by omega⟩
        have og := pu_or_rg un (by omega) p (by omega)
        rw [← hun] at og
        refine ⟨hr, by omega, by omega, by omega, by omega, by omega, by omega, by omega, by omega, by omega, by omega, ?_⟩
        refine nb_W.imp (sp_m_rowFrom7 (s := s) (S := x) (d := c) (n := m) (t := t + 1) (N := nb_wr N1 616 t p) (by omega) hr hc h7 ⟨q1.far (by decide), by omega, by omega, by omega, Or.inl ⟨by omega, by omega⟩, by omega, fun i hi => ?_, by omega, fun i hi => ?_, by omega, by omega, ?_⟩) ?_
        · have wi := pu_rw_ok hc hi
          rw [pu_bit_or (by omega) (by omega), g1.2.2 i (by omega), h8 i hi]
          have inj : pu_rw M i = p ↔ i = c := by
            constructor
            · intro q
              have g := pu_wn_ct (R := M.1 608) (i := i) (M.1 606 5).toNat (by show pu_rw M i ≠ -1; omega)
              rw [show pu_wn (M.1 608) i (M.1 606 5).toNat = p from q, show ((p : Nat) : Int).toNat = p from rfl, hcc] at g
              omega
            · intro q
              subst q
              exact w1
          rw [inj]
          by_cases y : pu_bit S i
          · by_cases y2 : i = c
            · exact ⟨fun _ q => q.2 y2, fun _ => Or.inr y2⟩
            · exact ⟨fun q => q.elim (fun q => absurd y q) (fun q => absurd q y2), fun q => absurd ⟨y, y2⟩ q⟩
          · exact ⟨fun _ q => y q.1, fun _ => Or.inl y⟩
        · unfold pu_rT
          rw [if_neg (by omega), show ((c : Nat) : Int).toNat = c from rfl, w1]
          rfl
        · rw [nb_wr_b (by decide), hP.2.1]
          split <;> omega
        rintro r' N2 ⟨rfl, hO⟩
        refine ⟨rfl, hO.1.1, ih' _ N2 ?_⟩
        unfold pu_rO at hO
        have ev : s0 + (a0 + pu_rT M s d c) + (m : Int) * (a0 + pu_rT M s d c) + (pu_vb (pu_rT M s) cnt m x c).2 = (s0 + ((m : Int) + 1) * a0) + (((m : Int) + 1) * pu_rT M s d c + (pu_vb (pu_rT M s) cnt m x c).2) := by
          rw [Int.add_mul, Int.one_mul, Int.add_mul, Int.one_mul, Int.mul_add]
          omega
        rw [ev] at hO
        rw [← hx] at hO
        have st := pu_rP_step w1.symm hP hO
        rw [ec, show ((c : Int) + 1).toNat = c + 1 by omega]
        have e : pu_vf (fun i => ((m : Int) + 1) * pu_rT M s d i + (pu_vb (pu_rT M s) cnt m (pu_rm S i) i).2) S (c + 1) = if ((m : Int) + 1) * pu_rT M s d c + (pu_vb (pu_rT M s) cnt m (pu_rm S c) c).2 < (pu_vf (fun i => ((m : Int) + 1) * pu_rT M s d i + (pu_vb (pu_rT M s) cnt m (pu_rm S i) i).2) S c).2 then (c, ((m : Int) + 1) * pu_rT M s d c + (pu_vb (pu_rT M s) cnt m (pu_rm S c) c).2) else pu_vf (fun i => ((m : Int) + 1) * pu_rT M s d i + (pu_vb (pu_rT M s) cnt m (pu_rm S i) i).2) S c := by
          by_cases y : ((m : Int) + 1) * pu_rT M s d c + (pu_vb (pu_rT M s) cnt m (pu_rm S c) c).2 < (pu_vf (fun i => ((m : Int) + 1) * pu_rT M s d i + (pu_vb (pu_rT M s) cnt m (pu_rm S i) i).2) S c).2
          · rw [if_pos y]
            exact if_pos ⟨hb, y⟩
          · rw [if_neg y]
            exact if_neg (fun q => y q.2)
        rw [e]
        exact st
      · refine ih' v8 N1 ?_
        rw [if_neg w] at ec
        rw [ec, show ((c : Int) + 0).toNat = c by omega]
        exact hP
theorem sp_m_rowFrom5 {M N : nb_M} {C : Int → Int} {s : Int} {t cnt n S d : Nat} {a0 s0 used last : Int} {v7 v8 : nb_V} (ht : t = 5) (hr : pu_Rr (M.1 606)) (hc : (cnt : Int) = pu_cnt (M.1 608) 1 (M.1 606 5).toNat) (h7 : cnt ≤ 7) (h : pu_rI M N C s t cnt n S d used last a0 s0) : nb_W 189 0 [(20, 603), (0, (t : Int)), (0, (cnt : Int)), (0, used), (0, last), (0, a0), (0, s0), v7, v8] [] N (fun r' N' => r' = [] ∧ pu_rO M N N' C s t cnt n S d a0 s0) := by
  have hq := h.1
  have htn := h.2.1
  have n5 := hr.2.2.2.2.2.2.1
  refine w_m_rowFrom5_0 hq.1 ⟨fun c => ⟨fun e => ?_, fun e => ?_⟩, fun c _ => ⟨rfl, pu_rO_cut (k := 0) hr hc h7 h c⟩⟩
  · have e1 : t = cnt := by omega
    have e2 : n = 0 := by omega
    subst e1
    subst e2
    exact pu_rO_leaf (Q := fun r' N' => r' = [] ∧ pu_rO M N N' C s t t 0 S d a0 s0) h7 h c (fun N' g => ⟨rfl, g⟩)
  · -- down
    obtain ⟨m, hm⟩ : ∃ m : Nat, n = m + 1 := ⟨n - 1, by omega⟩
    subst hm
    obtain ⟨h1, h2, h3, h4, h5, h6, h8, h9, h10, h11, h12, h13⟩ := h
    have na : 0 ≤ ((m : Int) + 1) * a0 := Int.mul_nonneg (by omega) h11.1
    have hp := pu_pow7 cnt h7
    have hcm : ∀ p : Nat, (p : Int) ≤ M.1 606 5 → 0 ≤ pu_cnt (M.1 608) 1 p ∧ pu_cnt (M.1 608) 1 p ≤ cnt := fun p hp => ⟨(pu_cnt_le p).1, by rw [hc]; exact pu_cnt_mono _ _ (by omega)⟩
    suffices hl : ∀ (j p : Nat) (v8 : nb_V) (N1 : nb_M), (p : Int) + j = M.1 606 5 → pu_rP M N N1 C t cnt (pu_rgo M (pu_rT M s) cnt m S (pu_vf (fun i => ((m : Int) + 1) * pu_rT M s d i + (pu_vb (pu_rT M s) cnt m (pu_rm S i) i).2) S (pu_cnt (M.1 608) 1 p).toNat).1) ((s0 + ((m : Int) + 1) * a0) + (pu_vf (fun i => ((m : Int) + 1) * pu_rT M s d i + (pu_vb (pu_rT M s) cnt m (pu_rm S i) i).2) S (pu_cnt (M.1 608) 1 p).toNat).2) (N.1 603 33) → nb_W 189 7 [(20, 603), (0, (t : Int)), (0, (cnt : Int)), (0, used), (0, last), (0, a0), (0, s0), (0, (p : Int)), v8] [] N1 (fun r' N' => r' = [] ∧ pu_rO M N N' C s t cnt (m + 1) S d a0 s0) by
      have z : ¬ (s0 + ((m : Int) + 1) * a0 + 1000000 < N.1 603 33) := by omega
      exact hl (M.1 606 5).toNat 0 v8 N (by omega) ⟨h1, (if_neg z).symm, fun i _ => (if_neg z).symm, fun _ _ => rfl⟩
    intro j
    induction j with
    | zero =>
      intro p v8 N1 hp1 hP
      have q1 := hP.1
      refine w_m_rowFrom5_7 q1.1 (by omega) (by omega) (by omega) (by omega) (by omega) ?_
      rw [q1.r]
      refine ⟨by omega, by omega, fun c => absurd c (by omega), fun _ _ => ⟨rfl, ?_⟩⟩
      have ep : p = (M.1 606 5).toNat := by omega
      rw [ep, ← hc, show ((cnt : Nat) : Int).toNat = cnt from rfl] at hP
      have eg : (fun i => pu_rw M (pu_lx (pu_rT M s) cnt (m + 1) S d i)) = pu_rgo M (pu_rT M s) cnt m S (pu_vb (pu_rT M s) cnt (m + 1) S d).1 := by
        funext i
        cases i <;> rfl
      unfold pu_rO
      rw [eg]
      exact hP
    | succ j ih =>
      intro p v8 N1 hp1 hP
      have q1 := hP.1
      have hcp := hcm p (by omega)
      have hcq := hcm (p + 1) (by omega)
      have ec : pu_cnt (M.1 608) 1 (p + 1) = pu_cnt (M.1 608) 1 p + (if M.1 608 (12 + 8 * (p : Int)) = 1 then 1 else 0) := rfl
      obtain ⟨c, hcc⟩ : ∃ c : Nat, pu_cnt (M.1 608) 1 p = c := ⟨(pu_cnt (M.1 608) 1 p).toNat, by omega⟩
      have ih' := fun v8 N1 => ih (p + 1) v8 N1 (by omega)
      rw [hcc] at hP hcp ec
      rw [show ((c : Nat) : Int).toNat = c from rfl] at hP
      have hwn : M.1 608 (12 + 8 * (p : Int)) = 1 → pu_rw M c = p ∧ c < cnt := fun w => by
        rw [if_pos w] at ec
        refine ⟨?_, by omega⟩
        unfold pu_rw
        rw [← hcc]
        exact pu_wn_at (by omega) w
      refine w_m_rowFrom5_7 q1.1 (by omega) (by omega) (by omega) (by omega) (by omega) ?_
      rw [q1.r, q1.2.2.1]
      refine ⟨by omega, by omega, fun _ => ⟨fun u => ?_, fun u => ⟨fun w => ?_, fun w => ?_⟩⟩, fun z => absurd z (by omega)⟩
      · -- used
        refine ih' v8 N1 ?_
        by_cases w : M.1 608 (12 + 8 * (p : Int)) = 1
        · obtain ⟨w1, w2⟩ := hwn w
          have nb := (h8 c w2).1 (by rw [w1]; exact u)
          rw [if_pos w] at ec
          rw [ec, show ((c : Int) + 1).toNat = c + 1 by omega]
          have e : pu_vf (fun i => ((m : Int) + 1) * pu_rT M s d i + (pu_vb (pu_rT M s) cnt m (pu_rm S i) i).2) S (c + 1) = pu_vf (fun i => ((m : Int) + 1) * pu_rT M s d i + (pu_vb (pu_rT M s) cnt m (pu_rm S i) i).2) S c := if_neg (fun q => nb q.1)
          rw [e]
          exact hP
        · rw [if_neg w] at ec
          rw [ec, show ((c : Int) + 0).toNat = c by omega]
          exact hP
      · -- one more
        obtain ⟨w1, w2⟩ := hwn w
        have hb : pu_bit S c := by
          by_cases q : pu_bit S c
          · exact q
          · exact absurd (by have g := (h8 c w2).2 q; rw [w1] at g; exact g) u
        rw [if_pos w] at ec
        have eT := h10 c w2
        rw [w1] at eT
        have T1 := pu_rT_ok (s := s) hr hc d c h5 w2
        rw [eT]
        have g1 := pu_rm_in S (by omega) c (by omega) hb
        have g0 := pu_rm_all S (by omega) c (by omega)
        obtain ⟨x, hx⟩ : ∃ x : Nat, pu_rm S c = x := ⟨(pu_rm S c).toNat, by omega⟩
        rw [hx] at g1 g0
        obtain ⟨un, hun⟩ : ∃ un : Nat, used = un := ⟨used.toNat, by omega⟩
        have og := pu_or_rg un (by omega) p (by omega)
        rw [← hun] at og
        refine ⟨hr, by omega, by omega, by omega, by omega, by omega, by omega, by omega, by omega, by omega, by omega, ?_⟩
        refine nb_W.imp (sp_m_rowFrom6 (s := s) (S := x) (d := c) (n := m) (t := t + 1) (N := nb_wr N1 616 t p) (by omega) hr hc h7 ⟨q1.far (by decide), by omega, by omega, by omega, Or.inl ⟨by omega, by omega⟩, by omega, fun i hi => ?_, by omega, fun i hi => ?_, by omega, by omega, ?_⟩) ?_
        · have wi := pu_rw_ok hc hi
          rw [pu_bit_or (by omega) (by omega), g1.2.2 i (by omega), h8 i hi]
          have inj : pu_rw M i = p ↔ i = c := by
            constructor
            · intro q
              have g := pu_wn_ct (R := M.1 608) (i := i) (M.1 606 5).toNat (by show pu_rw M i ≠ -1; omega)
              rw [show pu_wn (M.1 608) i (M.1 606 5).toNat = p from q, show ((p : Nat) : Int).toNat = p from rfl, hcc] at g
              omega
            · intro q
              subst q
              exact w1
          rw [inj]
          by_cases y : pu_bit S i
          · by_cases y2 : i = c
            · exact ⟨fun _ q => q.2 y2, fun _ => Or.inr y2⟩
            · exact ⟨fun q => q.elim (fun q => absurd y q) (fun q => absurd q y2), fun q => absurd ⟨y, y2⟩ q⟩
          · exact ⟨fun _ q => y q.1, fun _ => Or.inl y⟩
        · unfold pu_rT
          rw [if_neg (by omega), show ((c : Nat) : Int).toNat = c from rfl, w1]
          rfl
        · rw [nb_wr_b (by decide), hP.2.1]
          split <;> omega
        rintro r' N2 ⟨rfl, hO⟩
        refine ⟨rfl, hO.1.1, ih' _ N2 ?_⟩
        unfold pu_rO at hO
        have ev : s0 + (a0 + pu_rT M s d c) + (m : Int) * (a0 + pu_rT M s d c) + (pu_vb (pu_rT M s) cnt m x c).2 = (s0 + ((m : Int) + 1) * a0) + (((m : Int) + 1) * pu_rT M s d c + (pu_vb (pu_rT M s) cnt m x c).2) := by
          rw [Int.add_mul, Int.one_mul, Int.add_mul, Int.one_mul, Int.mul_add]
          omega
        rw [ev] at hO
        rw [← hx] at hO
        have st := pu_rP_step w1.symm hP hO
        rw [ec, show ((c : Int) + 1).toNat = c + 1 by omega]
        have e : pu_vf (fun i => ((m : Int) + 1) * pu_rT M s d i + (pu_vb (pu_rT M s) cnt m (pu_rm S i) i).2) S (c + 1) = if ((m : Int) + 1) * pu_rT M s d c + (pu_vb (pu_rT M s) cnt m (pu_rm S c) c).2 < (pu_vf (fun i => ((m : Int) + 1) * pu_rT M s d i + (pu_vb (pu_rT M s) cnt m (pu_rm S i) i).2) S c).2 then (c, ((m : Int) + 1) * pu_rT M s d c + (pu_vb (pu_rT M s) cnt m (pu_rm S c) c).2) else pu_vf (fun i => ((m : Int) + 1) * pu_rT M s d i + (pu_vb (pu_rT M s) cnt m (pu_rm S i) i).2) S c := by
          by_cases y : ((m : Int) + 1) * pu_rT M s d c + (pu_vb (pu_rT M s) cnt m (pu_rm S c) c).2 < (pu_vf (fun i => ((m : Int) + 1) * pu_rT M s d i + (pu_vb (pu_rT M s) cnt m (pu_rm S i) i).2) S c).2
          · rw [if_pos y]
            exact if_pos ⟨hb, y⟩
          · rw [if_neg y]
            exact if_neg (fun q => y q.2)
        rw [e]
        exact st
      · refine ih' v8 N1 ?_
        rw [if_neg w] at ec
        rw [ec, show ((c : Int) + 0).toNat = c by omega]
        exact hP
theorem sp_m_rowFrom4 {M N : nb_M} {C : Int → Int} {s : Int} {t cnt n S d : Nat} {a0 s0 used last : Int} {v7 v8 : nb_V} (ht : t = 4) (hr : pu_Rr (M.1 606)) (hc : (cnt : Int) = pu_cnt (M.1 608) 1 (M.1 606 5).toNat) (h7 : cnt ≤ 7) (h : pu_rI M N C s t cnt n S d used last a0 s0) : nb_W 188 0 [(20, 603), (0, (t : Int)), (0, (cnt : Int)), (0, used), (0, last), (0, a0), (0, s0), v7, v8] [] N (fun r' N' => r' = [] ∧ pu_rO M N N' C s t cnt n S d a0 s0) := by
  have hq := h.1
  have htn := h.2.1
  have n5 := hr.2.2.2.2.2.2.1
  refine w_m_rowFrom4_0 hq.1 ⟨fun c => ⟨fun e => ?_, fun e => ?_⟩, fun c _ => ⟨rfl, pu_rO_cut (k := 0) hr hc h7 h c⟩⟩
  · have e1 : t = cnt := by omega
    have e2 : n = 0 := by omega
    subst e1
    subst e2
    exact pu_rO_leaf (Q := fun r' N' => r' = [] ∧ pu_rO M N N' C s t t 0 S d a0 s0) h7 h c (fun N' g => ⟨rfl, g⟩)
  · -- down
    obtain ⟨m, hm⟩ : ∃ m : Nat, n = m + 1 := ⟨n - 1, by omega⟩
    subst hm
    obtain ⟨h1, h2, h3, h4, h5, h6, h8, h9, h10, h11, h12, h13⟩ := h
    have na : 0 ≤ ((m : Int) + 1) * a0 := Int.mul_nonneg (by omega) h11.1
    have hp := pu_pow7 cnt h7
    have hcm : ∀ p : Nat, (p : Int) ≤ M.1 606 5 → 0 ≤ pu_cnt (M.1 608) 1 p ∧ pu_cnt (M.1 608) 1 p ≤ cnt := fun p hp => ⟨(pu_cnt_le p).1, by rw [hc]; exact pu_cnt_mono _ _ (by omega)⟩
    suffices hl : ∀ (j p : Nat) (v8 : nb_V) (N1 : nb_M), (p : Int) + j = M.1 606 5 → pu_rP M N N1 C t cnt (pu_rgo M (pu_rT M s) cnt m S (pu_vf (fun i => ((m : Int) + 1) * pu_rT M s d i + (pu_vb (pu_rT M s) cnt m (pu_rm S i) i).2) S (pu_cnt (M.1 608) 1 p).toNat).1) ((s0 + ((m : Int) + 1) * a0) + (pu_vf (fun i => ((m : Int) + 1) * pu_rT M s d i + (pu_vb (pu_rT M s) cnt m (pu_rm S i) i).2) S (pu_cnt (M.1 608) 1 p).toNat).2) (N.1 603 33) → nb_W 188 7 [(20, 603), (0, (t : Int)), (0, (cnt : Int)), (0, used), (0, last), (0, a0), (0, s0), (0, (p : Int)), v8] [] N1 (fun r' N' => r' = [] ∧ pu_rO M N N' C s t cnt (m + 1) S d a0 s0) by
      have z : ¬ (s0 + ((m : Int) + 1) * a0 + 1000000 < N.1 603 33) := by omega
      exact hl (M.1 606 5).toNat 0 v8 N (by omega) ⟨h1, (if_neg z).symm, fun i _ => (if_neg z).symm, fun _ _ => rfl⟩
    intro j
    induction j with
    | zero =>
      intro p v8 N1 hp1 hP
      have q1 := hP.1
      refine w_m_rowFrom4_7 q1.1 (by omega) (by omega) (by omega) (by omega) (by omega) ?_
      rw [q1.r]
      refine ⟨by omega, by omega, fun c => absurd c (by omega), fun _ _ => ⟨rfl, ?_⟩⟩
      have ep : p = (M.1 606 5).toNat := by omega
      rw [ep, ← hc, show ((cnt : Nat) : Int).toNat = cnt from rfl] at hP
      have eg : (fun i => pu_rw M (pu_lx (pu_rT M s) cnt (m + 1) S d i)) = pu_rgo M (pu_rT M s) cnt m S (pu_vb (pu_rT M s) cnt (m + 1) S d).1 := by
        funext i
        cases i <;> rfl
      unfold pu_rO
      rw [eg]
      exact hP
    | succ j ih =>
      intro p v8 N1 hp1 hP
      have q1 := hP.1
      have hcp := hcm p (by omega)
      have hcq := hcm (p + 1) (by omega)
      have ec : pu_cnt (M.1 608) 1 (p + 1) = pu_cnt (M.1 608) 1 p + (if M.1 608 (12 + 8 * (p : Int)) = 1 then 1 else 0) := rfl
      obtain ⟨c, hcc⟩ : ∃ c : Nat, pu_cnt (M.1 608) 1 p = c := ⟨(pu_cnt (M.1 608) 1 p).toNat, by omega⟩
      have ih' := fun v8 N1 => ih (p + 1) v8 N1 (by omega)
      rw [hcc] at hP hcp ec
      rw [show ((c : Nat) : Int).toNat = c from rfl] at hP
      have hwn : M.1 608 (12 + 8 * (p : Int)) = 1 → pu_rw M c = p ∧ c < cnt := fun w => by
        rw [if_pos w] at ec
        refine ⟨?_, by omega⟩
        unfold pu_rw
        rw [← hcc]
        exact pu_wn_at (by omega) w
      refine w_m_rowFrom4_7 q1.1 (by omega) (by omega) (by omega) (by omega) (by omega) ?_
      rw [q1.r, q1.2.2.1]
      refine ⟨by omega, by omega, fun _ => ⟨fun u => ?_, fun u => ⟨fun w => ?_, fun w => ?_⟩⟩, fun z => absurd z (by omega)⟩
      · -- used
        refine ih' v8 N1 ?_
        by_cases w : M.1 608 (12 + 8 * (p : Int)) = 1
        · obtain ⟨w1, w2⟩ := hwn w
          have nb := (h8 c w2).1 (by rw [w1]; exact u)
          rw [if_pos w] at ec
          rw [ec, show ((c : Int) + 1).toNat = c + 1 by omega]
          have e : pu_vf (fun i => ((m : Int) + 1) * pu_rT M s d i + (pu_vb (pu_rT M s) cnt m (pu_rm S i) i).2) S (c + 1) = pu_vf (fun i => ((m : Int) + 1) * pu_rT M s d i + (pu_vb (pu_rT M s) cnt m (pu_rm S i) i).2) S c := if_neg (fun q => nb q.1)
          rw [e]
          exact hP
        · rw [if_neg w] at ec
          rw [ec, show ((c : Int) + 0).toNat = c by omega]
          exact hP
      · -- one more
        obtain ⟨w1, w2⟩ := hwn w
        have hb : pu_bit S c := by
          by_cases q : pu_bit S c
          · exact q
          · exact absurd (by have g := (h8 c w2).2 q; rw [w1] at g; exact g) u
        rw [if_pos w] at ec
        have eT := h10 c w2
        rw [w1] at eT
        have T1 := pu_rT_ok (s := s) hr hc d c h5 w2
        rw [eT]
        have g1 := pu_rm_in S (by omega) c (by omega) hb
        have g0 := pu_rm_all S (by omega) c (by omega)
        obtain ⟨x, hx⟩ : ∃ x : Nat, pu_rm S c = x := ⟨(pu_rm S c).toNat, by omega⟩
        rw [hx] at g1 g0
        obtain ⟨un, hun⟩ : ∃ un : Nat, used = un := ⟨used.toNat, by omega⟩
        have og := pu_or_rg un (by omega) p (by omega)
        rw [← hun] at og
        refine ⟨hr, by omega, by omega, by omega, by omega, by omega, by omega, by omega, by omega, by omega, by omega, ?_⟩
        refine nb_W.imp (sp_m_rowFrom5 (s := s) (S := x) (d := c) (n := m) (t := t + 1) (N := nb_wr N1 616 t p) (by omega) hr hc h7 ⟨q1.far (by decide), by omega, by omega, by omega, Or.inl ⟨by omega, by omega⟩, by omega, fun i hi => ?_, by omega, fun i hi => ?_, by omega, by omega, ?_⟩) ?_
        · have wi := pu_rw_ok hc hi
          rw [pu_bit_or (by omega) (by omega), g1.2.2 i (by omega), h8 i hi]
          have inj : pu_rw M i = p ↔ i = c := by
            constructor
            · intro q
              have g := pu_wn_ct (R := M.1 608) (i := i) (M.1 606 5).toNat (by show pu_rw M i ≠ -1; omega)
              rw [show pu_wn (M.1 608) i (M.1 606 5).toNat = p from q, show ((p : Nat) : Int).toNat = p from rfl, hcc] at g
              omega
            · intro q
              subst q
              exact w1
          rw [inj]
          by_cases y : pu_bit S i
          · by_cases y2 : i = c
            · exact ⟨fun _ q => q.2 y2, fun _ => Or.inr y2⟩
            · exact ⟨fun q => q.elim (fun q => absurd y q) (fun q => absurd q y2), fun q => absurd ⟨y, y2⟩ q⟩
          · exact ⟨fun _ q => y q.1, fun _ => Or.inl y⟩
        · unfold pu_rT
          rw [if_neg (by omega), show ((c : Nat) : Int).toNat = c from rfl, w1]
          rfl
        · rw [nb_wr_b (by decide), hP.2.1]
          split <;> omega
        rintro r' N2 ⟨rfl, hO⟩
        refine ⟨rfl, hO.1.1, ih' _ N2 ?_⟩
        unfold pu_rO at hO
        have ev : s0 + (a0 + pu_rT M s d c) + (m : Int) * (a0 + pu_rT M s d c) + (pu_vb (pu_rT M s) cnt m x c).2 = (s0 + ((m : Int) + 1) * a0) + (((m : Int) + 1) * pu_rT M s d c + (pu_vb (pu_rT M s) cnt m x c).2) := by
          rw [Int.add_mul, Int.one_mul, Int.add_mul, Int.one_mul, Int.mul_add]
          omega
        rw [ev] at hO
        rw [← hx] at hO
        have st := pu_rP_step w1.symm hP hO
        rw [ec, show ((c : Int) + 1).toNat = c + 1 by omega]
        have e : pu_vf (fun i => ((m : Int) + 1) * pu_rT M s d i + (pu_vb (pu_rT M s) cnt m (pu_rm S i) i).2) S (c + 1) = if ((m : Int) + 1) * pu_rT M s d c + (pu_vb (pu_rT M s) cnt m (pu_rm S c) c).2 < (pu_vf (fun i => ((m : Int) + 1) * pu_rT M s d i + (pu_vb (pu_rT M s) cnt m (pu_rm S i) i).2) S c).2 then (c, ((m : Int) + 1) * pu_rT M s d c + (pu_vb (pu_rT M s) cnt m (pu_rm S c) c).2) else pu_vf (fun i => ((m : Int) + 1) * pu_rT M s d i + (pu_vb (pu_rT M s) cnt m (pu_rm S i) i).2) S c := by
          by_cases y : ((m : Int) + 1) * pu_rT M s d c + (pu_vb (pu_rT M s) cnt m (pu_rm S c) c).2 < (pu_vf (fun i => ((m : Int) + 1) * pu_rT M s d i + (pu_vb (pu_rT M s) cnt m (pu_rm S i) i).2) S c).2
          · rw [if_pos y]
            exact if_pos ⟨hb, y⟩
          · rw [if_neg y]
            exact if_neg (fun q => y q.2)
        rw [e]
        exact st
      · refine ih' v8 N1 ?_
        rw [if_neg w] at ec
        rw [ec, show ((c : Int) + 0).toNat = c by omega]
        exact hP
theorem sp_m_rowFrom3 {M N : nb_M} {C : Int → Int} {s : Int} {t cnt n S d : Nat} {a0 s0 used last : Int} {v7 v8 : nb_V} (ht : t = 3) (hr : pu_Rr (M.1 606)) (hc : (cnt : Int) = pu_cnt (M.1 608) 1 (M.1 606 5).toNat) (h7 : cnt ≤ 7) (h : pu_rI M N C s t cnt n S d used last a0 s0) : nb_W 187 0 [(20, 603), (0, (t : Int)), (0, (cnt : Int)), (0, used), (0, last), (0, a0), (0, s0), v7, v8] [] N (fun r' N' => r' = [] ∧ pu_rO M N N' C s t cnt n S d a0 s0) := by
  have hq := h.1
  have htn := h.2.1
  have n5 := hr.2.2.2.2.2.2.1
  refine w_m_rowFrom3_0 hq.1 ⟨fun c => ⟨fun e => ?_, fun e => ?_⟩, fun c _ => ⟨rfl, pu_rO_cut (k := 0) hr hc h7 h c⟩⟩
  · have e1 : t = cnt := by omega
    have e2 : n = 0 := by omega
    subst e1
    subst e2
    exact pu_rO_leaf (Q := fun r' N' => r' = [] ∧ pu_rO M N N' C s t t 0 S d a0 s0) h7 h c (fun N' g => ⟨rfl, g⟩)
  · -- down
    obtain ⟨m, hm⟩ : ∃ m : Nat, n = m + 1 := ⟨n - 1, by omega⟩
    subst hm
    obtain ⟨h1, h2, h3, h4, h5, h6, h8, h9, h10, h11, h12, h13⟩ := h
    have na : 0 ≤ ((m : Int) + 1) * a0 := Int.mul_nonneg (by omega) h11.1
    have hp := pu_pow7 cnt h7
    have hcm : ∀ p : Nat, (p : Int) ≤ M.1 606 5 → 0 ≤ pu_cnt (M.1 608) 1 p ∧ pu_cnt (M.1 608) 1 p ≤ cnt := fun p hp => ⟨(pu_cnt_le p).1, by rw [hc]; exact pu_cnt_mono _ _ (by omega)⟩
    suffices hl : ∀ (j p : Nat) (v8 : nb_V) (N1 : nb_M), (p : Int) + j = M.1 606 5 → pu_rP M N N1 C t cnt (pu_rgo M (pu_rT M s) cnt m S (pu_vf (fun i => ((m : Int) + 1) * pu_rT M s d i + (pu_vb (pu_rT M s) cnt m (pu_rm S i) i).2) S (pu_cnt (M.1 608) 1 p).toNat).1) ((s0 + ((m : Int) + 1) * a0) + (pu_vf (fun i => ((m : Int) + 1) * pu_rT M s d i + (pu_vb (pu_rT M s) cnt m (pu_rm S i) i).2) S (pu_cnt (M.1 608) 1 p).toNat).2) (N.1 603 33) → nb_W 187 7 [(20, 603), (0, (t : Int)), (0, (cnt : Int)), (0, used), (0, last), (0, a0), (0, s0), (0, (p : Int)), v8] [] N1 (fun r' N' => r' = [] ∧ pu_rO M N N' C s t cnt (m + 1) S d a0 s0) by
      have z : ¬ (s0 + ((m : Int) + 1) * a0 + 1000000 < N.1 603 33) := by omega
      exact hl (M.1 606 5).toNat 0 v8 N (by omega) ⟨h1, (if_neg z).symm, fun i _ => (if_neg z).symm, fun _ _ => rfl⟩
    intro j
    induction j with
    | zero =>
      intro p v8 N1 hp1 hP
      have q1 := hP.1
      refine w_m_rowFrom3_7 q1.1 (by omega) (by omega) (by omega) (by omega) (by omega) ?_
      rw [q1.r]
      refine ⟨by omega, by omega, fun c => absurd c (by omega), fun _ _ => ⟨rfl, ?_⟩⟩
      have ep : p = (M.1 606 5).toNat := by omega
      rw [ep, ← hc, show ((cnt : Nat) : Int).toNat = cnt from rfl] at hP
      have eg : (fun i => pu_rw M (pu_lx (pu_rT M s) cnt (m + 1) S d i)) = pu_rgo M (pu_rT M s) cnt m S (pu_vb (pu_rT M s) cnt (m + 1) S d).1 := by
        funext i
        cases i <;> rfl
      unfold pu_rO
      rw [eg]
      exact hP
    | succ j ih =>
      intro p v8 N1 hp1 hP
      have q1 := hP.1
      have hcp := hcm p (by omega)
      have hcq := hcm (p + 1) (by omega)
      have ec : pu_cnt (M.1 608) 1 (p + 1) = pu_cnt (M.1 608) 1 p + (if M.1 608 (12 + 8 * (p : Int)) = 1 then 1 else 0) := rfl
      obtain ⟨c, hcc⟩ : ∃ c : Nat, pu_cnt (M.1 608) 1 p = c := ⟨(pu_cnt (M.1 608) 1 p).toNat, by omega⟩
      have ih' := fun v8 N1 => ih (p + 1) v8 N1 (by omega)
      rw [hcc] at hP hcp ec
      rw [show ((c : Nat) : Int).toNat = c from rfl] at hP
      have hwn : M.1 608 (12 + 8 * (p : Int)) = 1 → pu_rw M c = p ∧ c < cnt := fun w => by
        rw [if_pos w] at ec
        refine ⟨?_, by omega⟩
        unfold pu_rw
        rw [← hcc]
        exact pu_wn_at (by omega) w
      refine w_m_rowFrom3_7 q1.1 (by omega) (by omega) (by omega) (by omega) (by omega) ?_
      rw [q1.r, q1.2.2.1]
      refine ⟨by omega, by omega, fun _ => ⟨fun u => ?_, fun u => ⟨fun w => ?_, fun w => ?_⟩⟩, fun z => absurd z (by omega)⟩
      · -- used
        refine ih' v8 N1 ?_
        by_cases w : M.1 608 (12 + 8 * (p : Int)) = 1
        · obtain ⟨w1, w2⟩ := hwn w
          have nb := (h8 c w2).1 (by rw [w1]; exact u)
          rw [if_pos w] at ec
          rw [ec, show ((c : Int) + 1).toNat = c + 1 by omega]
          have e : pu_vf (fun i => ((m : Int) + 1) * pu_rT M s d i + (pu_vb (pu_rT M s) cnt m (pu_rm S i) i).2) S (c + 1) = pu_vf (fun i => ((m : Int) + 1) * pu_rT M s d i + (pu_vb (pu_rT M s) cnt m (pu_rm S i) i).2) S c := if_neg (fun q => nb q.1)
          rw [e]
          exact hP
        · rw [if_neg w] at ec
          rw [ec, show ((c : Int) + 0).toNat = c by omega]
          exact hP
      · -- one more
        obtain ⟨w1, w2⟩ := hwn w
        have hb : pu_bit S c := by
          by_cases q : pu_bit S c
          · exact q
          · exact absurd (by have g := (h8 c w2).2 q; rw [w1] at g; exact g) u
        rw [if_pos w] at ec
        have eT := h10 c w2
        rw [w1] at eT
        have T1 := pu_rT_ok (s := s) hr hc d c h5 w2
        rw [eT]
        have g1 := pu_rm_in S (by omega) c (by omega) hb
        have g0 := pu_rm_all S (by omega) c (by omega)
        obtain ⟨x, hx⟩ : ∃ x : Nat, pu_rm S c = x := ⟨(pu_rm S c).toNat, by omega⟩
        rw [hx] at g1 g0
        obtain ⟨un, hun⟩ : ∃ un : Nat, used = un := ⟨used.toNat, by omega⟩
        have og := pu_or_rg un (by omega) p (by omega)
        rw [← hun] at og
        refine ⟨hr, by omega, by omega, by omega, by omega, by omega, by omega, by omega, by omega, by omega, by omega, ?_⟩
        refine nb_W.imp (sp_m_rowFrom4 (s := s) (S := x) (d := c) (n := m) (t := t + 1) (N := nb_wr N1 616 t p) (by omega) hr hc h7 ⟨q1.far (by decide), by omega, by omega, by omega, Or.inl ⟨by omega, by omega⟩, by omega, fun i hi => ?_, by omega, fun i hi => ?_, by omega, by omega, ?_⟩) ?_
        · have wi := pu_rw_ok hc hi
          rw [pu_bit_or (by omega) (by omega), g1.2.2 i (by omega), h8 i hi]
          have inj : pu_rw M i = p ↔ i = c := by
            constructor
            · intro q
              have g := pu_wn_ct (R := M.1 608) (i := i) (M.1 606 5).toNat (by show pu_rw M i ≠ -1; omega)
              rw [show pu_wn (M.1 608) i (M.1 606 5).toNat = p from q, show ((p : Nat) : Int).toNat = p from rfl, hcc] at g
              omega
            · intro q
              subst q
              exact w1
          rw [inj]
          by_cases y : pu_bit S i
          · by_cases y2 : i = c
            · exact ⟨fun _ q => q.2 y2, fun _ => Or.inr y2⟩
            · exact ⟨fun q => q.elim (fun q => absurd y q) (fun q => absurd q y2), fun q => absurd ⟨y, y2⟩ q⟩
          · exact ⟨fun _ q => y q.1, fun _ => Or.inl y⟩
        · unfold pu_rT
          rw [if_neg (by omega), show ((c : Nat) : Int).toNat = c from rfl, w1]
          rfl
        · rw [nb_wr_b (by decide), hP.2.1]
          split <;> omega
        rintro r' N2 ⟨rfl, hO⟩
        refine ⟨rfl, hO.1.1, ih' _ N2 ?_⟩
        unfold pu_rO at hO
        have ev : s0 + (a0 + pu_rT M s d c) + (m : Int) * (a0 + pu_rT M s d c) + (pu_vb (pu_rT M s) cnt m x c).2 = (s0 + ((m : Int) + 1) * a0) + (((m : Int) + 1) * pu_rT M s d c + (pu_vb (pu_rT M s) cnt m x c).2) := by
          rw [Int.add_mul, Int.one_mul, Int.add_mul, Int.one_mul, Int.mul_add]
          omega
        rw [ev] at hO
        rw [← hx] at hO
        have st := pu_rP_step w1.symm hP hO
        rw [ec, show ((c : Int) + 1).toNat = c + 1 by omega]
        have e : pu_vf (fun i => ((m : Int) + 1) * pu_rT M s d i + (pu_vb (pu_rT M s) cnt m (pu_rm S i) i).2) S (c + 1) = if ((m : Int) + 1) * pu_rT M s d c + (pu_vb (pu_rT M s) cnt m (pu_rm S c) c).2 < (pu_vf (fun i => ((m : Int) + 1) * pu_rT M s d i + (pu_vb (pu_rT M s) cnt m (pu_rm S i) i).2) S c).2 then (c, ((m : Int) + 1) * pu_rT M s d c + (pu_vb (pu_rT M s) cnt m (pu_rm S c) c).2) else pu_vf (fun i => ((m : Int) + 1) * pu_rT M s d i + (pu_vb (pu_rT M s) cnt m (pu_rm S i) i).2) S c := by
          by_cases y : ((m : Int) + 1) * pu_rT M s d c + (pu_vb (pu_rT M s) cnt m (pu_rm S c) c).2 < (pu_vf (fun i => ((m : Int) + 1) * pu_rT M s d i + (pu_vb (pu_rT M s) cnt m (pu_rm S i) i).2) S c).2
          · rw [if_pos y]
            exact if_pos ⟨hb, y⟩
          · rw [if_neg y]
            exact if_neg (fun q => y q.2)
        rw [e]
        exact st
      · refine ih' v8 N1 ?_
        rw [if_neg w] at ec
        rw [ec, show ((c : Int) + 0).toNat = c by omega]
        exact hP
theorem sp_m_rowFrom2 {M N : nb_M} {C : Int → Int} {s : Int} {t cnt n S d : Nat} {a0 s0 used last : Int} {v7 v8 : nb_V} (ht : t = 2) (hr : pu_Rr (M.1 606)) (hc : (cnt : Int) = pu_cnt (M.1 608) 1 (M.1 606 5).toNat) (h7 : cnt ≤ 7) (h : pu_rI M N C s t cnt n S d used last a0 s0) : nb_W 186 0 [(20, 603), (0, (t : Int)), (0, (cnt : Int)), (0, used), (0, last), (0, a0), (0, s0), v7, v8] [] N (fun r' N' => r' = [] ∧ pu_rO M N N' C s t cnt n S d a0 s0) := by
  have hq := h.1
  have htn := h.2.1
  have n5 := hr.2.2.2.2.2.2.1
  refine w_m_rowFrom2_0 hq.1 ⟨fun c => ⟨fun e => ?_, fun e => ?_⟩, fun c _ => ⟨rfl, pu_rO_cut (k := 0) hr hc h7 h c⟩⟩
  · have e1 : t = cnt := by omega
    have e2 : n = 0 := by omega
    subst e1
    subst e2
    exact pu_rO_leaf (Q := fun r' N' => r' = [] ∧ pu_rO M N N' C s t t 0 S d a0 s0) h7 h c (fun N' g => ⟨rfl, g⟩)
  · -- down
    obtain ⟨m, hm⟩ : ∃ m : Nat, n = m + 1 := ⟨n - 1, by omega⟩
    subst hm
    obtain ⟨h1, h2, h3, h4, h5, h6, h8, h9, h10, h11, h12, h13⟩ := h
    have na : 0 ≤ ((m : Int) + 1) * a0 := Int.mul_nonneg (by omega) h11.1
    have hp := pu_pow7 cnt h7
    have hcm : ∀ p : Nat, (p : Int) ≤ M.1 606 5 → 0 ≤ pu_cnt (M.1 608) 1 p ∧ pu_cnt (M.1 608) 1 p ≤ cnt := fun p hp => ⟨(pu_cnt_le p).1, by rw [hc]; exact pu_cnt_mono _ _ (by omega)⟩
    suffices hl : ∀ (j p : Nat) (v8 : nb_V) (N1 : nb_M), (p : Int) + j = M.1 606 5 → pu_rP M N N1 C t cnt (pu_rgo M (pu_rT M s) cnt m S (pu_vf (fun i => ((m : Int) + 1) * pu_rT M s d i + (pu_vb (pu_rT M s) cnt m (pu_rm S i) i).2) S (pu_cnt (M.1 608) 1 p).toNat).1) ((s0 + ((m : Int) + 1) * a0) + (pu_vf (fun i => ((m : Int) + 1) * pu_rT M s d i + (pu_vb (pu_rT M s) cnt m (pu_rm S i) i).2) S (pu_cnt (M.1 608) 1 p).toNat).2) (N.1 603 33) → nb_W 186 7 [(20, 603), (0, (t : Int)), (0, (cnt : Int)), (0, used), (0, last), (0, a0), (0, s0), (0, (p : Int)), v8] [] N1 (fun r' N' => r' = [] ∧ pu_rO M N N' C s t cnt (m + 1) S d a0 s0) by
      have z : ¬ (s0 + ((m : Int) + 1) * a0 + 1000000 < N.1 603 33) := by omega
      exact hl (M.1 606 5).toNat 0 v8 N (by omega) ⟨h1, (if_neg z).symm, fun i _ => (if_neg z).symm, fun _ _ => rfl⟩
    intro j
    induction j with
    | zero =>
      intro p v8 N1 hp1 hP
      have q1 := hP.1
      refine w_m_rowFrom2_7 q1.1 (by omega) (by omega) (by omega) (by omega) (by omega) ?_
      rw [q1.r]
      refine ⟨by omega, by omega, fun c => absurd c (by omega), fun _ _ => ⟨rfl, ?_⟩⟩
      have ep : p = (M.1 606 5).toNat := by omega
      rw [ep, ← hc, show ((cnt : Nat) : Int).toNat = cnt from rfl] at hP
      have eg : (fun i => pu_rw M (pu_lx (pu_rT M s) cnt (m + 1) S d i)) = pu_rgo M (pu_rT M s) cnt m S (pu_vb (pu_rT M s) cnt (m + 1) S d).1 := by
        funext i
        cases i <;> rfl
      unfold pu_rO
      rw [eg]
      exact hP
    | succ j ih =>
      intro p v8 N1 hp1 hP
      have q1 := hP.1
      have hcp := hcm p (by omega)
      have hcq := hcm (p + 1) (by omega)
      have ec : pu_cnt (M.1 608) 1 (p + 1) = pu_cnt (M.1 608) 1 p + (if M.1 608 (12 + 8 * (p : Int)) = 1 then 1 else 0) := rfl
      obtain ⟨c, hcc⟩ : ∃ c : Nat, pu_cnt (M.1 608) 1 p = c := ⟨(pu_cnt (M.1 608) 1 p).toNat, by omega⟩
      have ih' := fun v8 N1 => ih (p + 1) v8 N1 (by omega)
      rw [hcc] at hP hcp ec
      rw [show ((c : Nat) : Int).toNat = c from rfl] at hP
      have hwn : M.1 608 (12 + 8 * (p : Int)) = 1 → pu_rw M c = p ∧ c < cnt := fun w => by
        rw [if_pos w] at ec
        refine ⟨?_, by omega⟩
        unfold pu_rw
        rw [← hcc]
        exact pu_wn_at (by omega) w
      refine w_m_rowFrom2_7 q1.1 (by omega) (by omega) (by omega) (by omega) (by omega) ?_
      rw [q1.r, q1.2.2.1]
      refine ⟨by omega, by omega, fun _ => ⟨fun u => ?_, fun u => ⟨fun w => ?_, fun w => ?_⟩⟩, fun z => absurd z (by omega)⟩
      · -- used
        refine ih' v8 N1 ?_
        by_cases w : M.1 608 (12 + 8 * (p : Int)) = 1
        · obtain ⟨w1, w2⟩ := hwn w
          have nb := (h8 c w2).1 (by rw [w1]; exact u)
          rw [if_pos w] at ec
          rw [ec, show ((c : Int) + 1).toNat = c + 1 by omega]
          have e : pu_vf (fun i => ((m : Int) + 1) * pu_rT M s d i + (pu_vb (pu_rT M s) cnt m (pu_rm S i) i).2) S (c + 1) = pu_vf (fun i => ((m : Int) + 1) * pu_rT M s d i + (pu_vb (pu_rT M s) cnt m (pu_rm S i) i).2) S c := if_neg (fun q => nb q.1)
          rw [e]
          exact hP
        · rw [if_neg w] at ec
          rw [ec, show ((c : Int) + 0).toNat = c by omega]
          exact hP
      · -- one more
        obtain ⟨w1, w2⟩ := hwn w
        have hb : pu_bit S c := by
          by_cases q : pu_bit S c
          · exact q
          · exact absurd (by have g := (h8 c w2).2 q; rw [w1] at g; exact g) u
        rw [if_pos w] at ec
        have eT := h10 c w2
        rw [w1] at eT
        have T1 := pu_rT_ok (s := s) hr hc d c h5 w2
        rw [eT]
        have g1 := pu_rm_in S (by omega) c (by omega) hb
        have g0 := pu_rm_all S (by omega) c (by omega)
        obtain ⟨x, hx⟩ : ∃ x : Nat, pu_rm S c = x := ⟨(pu_rm S c).toNat, by omega⟩
        rw [hx] at g1 g0
        obtain ⟨un, hun⟩ : ∃ un : Nat, used = un := ⟨used.toNat, by omega⟩
        have og := pu_or_rg un (by omega) p (by omega)
        rw [← hun] at og
        refine ⟨hr, by omega, by omega, by omega, by omega, by omega, by omega, by omega, by omega, by omega, by omega, ?_⟩
        refine nb_W.imp (sp_m_rowFrom3 (s := s) (S := x) (d := c) (n := m) (t := t + 1) (N := nb_wr N1 616 t p) (by omega) hr hc h7 ⟨q1.far (by decide), by omega, by omega, by omega, Or.inl ⟨by omega, by omega⟩, by omega, fun i hi => ?_, by omega, fun i hi => ?_, by omega, by omega, ?_⟩) ?_
        · have wi := pu_rw_ok hc hi
          rw [pu_bit_or (by omega) (by omega), g1.2.2 i (by omega), h8 i hi]
          have inj : pu_rw M i = p ↔ i = c := by
            constructor
            · intro q
              have g := pu_wn_ct (R := M.1 608) (i := i) (M.1 606 5).toNat (by show pu_rw M i ≠ -1; omega)
              rw [show pu_wn (M.1 608) i (M.1 606 5).toNat = p from q, show ((p : Nat) : Int).toNat = p from rfl, hcc] at g
              omega
            · intro q
              subst q
              exact w1
          rw [inj]
          by_cases y : pu_bit S i
          · by_cases y2 : i = c
            · exact ⟨fun _ q => q.2 y2, fun _ => Or.inr y2⟩
            · exact ⟨fun q => q.elim (fun q => absurd y q) (fun q => absurd q y2), fun q => absurd ⟨y, y2⟩ q⟩
          · exact ⟨fun _ q => y q.1, fun _ => Or.inl y⟩
        · unfold pu_rT
          rw [if_neg (by omega), show ((c : Nat) : Int).toNat = c from rfl, w1]
          rfl
        · rw [nb_wr_b (by decide), hP.2.1]
          split <;> omega
        rintro r' N2 ⟨rfl, hO⟩
        refine ⟨rfl, hO.1.1, ih' _ N2 ?_⟩
        unfold pu_rO at hO
        have ev : s0 + (a0 + pu_rT M s d c) + (m : Int) * (a0 + pu_rT M s d c) + (pu_vb (pu_rT M s) cnt m x c).2 = (s0 + ((m : Int) + 1) * a0) + (((m : Int) + 1) * pu_rT M s d c + (pu_vb (pu_rT M s) cnt m x c).2) := by
          rw [Int.add_mul, Int.one_mul, Int.add_mul, Int.one_mul, Int.mul_add]
          omega
        rw [ev] at hO
        rw [← hx] at hO
        have st := pu_rP_step w1.symm hP hO
        rw [ec, show ((c : Int) + 1).toNat = c + 1 by omega]
        have e : pu_vf (fun i => ((m : Int) + 1) * pu_rT M s d i + (pu_vb (pu_rT M s) cnt m (pu_rm S i) i).2) S (c + 1) = if ((m : Int) + 1) * pu_rT M s d c + (pu_vb (pu_rT M s) cnt m (pu_rm S c) c).2 < (pu_vf (fun i => ((m : Int) + 1) * pu_rT M s d i + (pu_vb (pu_rT M s) cnt m (pu_rm S i) i).2) S c).2 then (c, ((m : Int) + 1) * pu_rT M s d c + (pu_vb (pu_rT M s) cnt m (pu_rm S c) c).2) else pu_vf (fun i => ((m : Int) + 1) * pu_rT M s d i + (pu_vb (pu_rT M s) cnt m (pu_rm S i) i).2) S c := by
          by_cases y : ((m : Int) + 1) * pu_rT M s d c + (pu_vb (pu_rT M s) cnt m (pu_rm S c) c).2 < (pu_vf (fun i => ((m : Int) + 1) * pu_rT M s d i + (pu_vb (pu_rT M s) cnt m (pu_rm S i) i).2) S c).2
          · rw [if_pos y]
            exact if_pos ⟨hb, y⟩
          · rw [if_neg y]
            exact if_neg (fun q => y q.2)
        rw [e]
        exact st
      · refine ih' v8 N1 ?_
        rw [if_neg w] at ec
        rw [ec, show ((c : Int) + 0).toNat = c by omega]
        exact hP
theorem sp_m_rowFrom1 {M N : nb_M} {C : Int → Int} {s : Int} {t cnt n S d : Nat} {a0 s0 used last : Int} {v7 v8 : nb_V} (ht : t = 1) (hr : pu_Rr (M.1 606)) (hc : (cnt : Int) = pu_cnt (M.1 608) 1 (M.1 606 5).toNat) (h7 : cnt ≤ 7) (h : pu_rI M N C s t cnt n S d used last a0 s0) : nb_W 185 0 [(20, 603), (0, (t : Int)), (0, (cnt : Int)), (0, used), (0, last), (0, a0), (0, s0), v7, v8] [] N (fun r' N' => r' = [] ∧ pu_rO M N N' C s t cnt n S d a0 s0) := by
  have hq := h.1
  have htn := h.2.1
  have n5 := hr.2.2.2.2.2.2.1
  refine w_m_rowFrom1_0 hq.1 ⟨fun c => ⟨fun e => ?_, fun e => ?_⟩, fun c _ => ⟨rfl, pu_rO_cut (k := 0) hr hc h7 h c⟩⟩
  · have e1 : t = cnt := by omega
    have e2 : n = 0 := by omega
    subst e1
    subst e2
    exact pu_rO_leaf (Q := fun r' N' => r' = [] ∧ pu_rO M N N' C s t t 0 S d a0 s0) h7 h c (fun N' g => ⟨rfl, g⟩)
  · -- down
    obtain ⟨m, hm⟩ : ∃ m : Nat, n = m + 1 := ⟨n - 1, by omega⟩
    subst hm
    obtain ⟨h1, h2, h3, h4, h5, h6, h8, h9, h10, h11, h12, h13⟩ := h
    have na : 0 ≤ ((m : Int) + 1) * a0 := Int.mul_nonneg (by omega) h11.1
    have hp := pu_pow7 cnt h7
    have hcm : ∀ p : Nat, (p : Int) ≤ M.1 606 5 → 0 ≤ pu_cnt (M.1 608) 1 p ∧ pu_cnt (M.1 608) 1 p ≤ cnt := fun p hp => ⟨(pu_cnt_le p).1, by rw [hc]; exact pu_cnt_mono _ _ (by omega)⟩
    suffices hl : ∀ (j p : Nat) (v8 : nb_V) (N1 : nb_M), (p : Int) + j = M.1 606 5 → pu_rP M N N1 C t cnt (pu_rgo M (pu_rT M s) cnt m S (pu_vf (fun i => ((m : Int) + 1) * pu_rT M s d i + (pu_vb (pu_rT M s) cnt m (pu_rm S i) i).2) S (pu_cnt (M.1 608) 1 p).toNat).1) ((s0 + ((m : Int) + 1) * a0) + (pu_vf (fun i => ((m : Int) + 1) * pu_rT M s d i + (pu_vb (pu_rT M s) cnt m (pu_rm S i) i).2) S (pu_cnt (M.1 608) 1 p).toNat).2) (N.1 603 33) → nb_W 185 7 [(20, 603), (0, (t : Int)), (0, (cnt : Int)), (0, used), (0, last), (0, a0), (0, s0), (0, (p : Int)), v8] [] N1 (fun r' N' => r' = [] ∧ pu_rO M N N' C s t cnt (m + 1) S d a0 s0) by
      have z : ¬ (s0 + ((m : Int) + 1) * a0 + 1000000 < N.1 603 33) := by omega
      exact hl (M.1 606 5).toNat 0 v8 N (by omega) ⟨h1, (if_neg z).symm, fun i _ => (if_neg z).symm, fun _ _ => rfl⟩
    intro j
    induction j with
    | zero =>
      intro p v8 N1 hp1 hP
      have q1 := hP.1
      refine w_m_rowFrom1_7 q1.1 (by omega) (by omega) (by omega) (by omega) (by omega) ?_
      rw [q1.r]
      refine ⟨by omega, by omega, fun c => absurd c (by omega), fun _ _ => ⟨rfl, ?_⟩⟩
      have ep : p = (M.1 606 5).toNat := by omega
      rw [ep, ← hc, show ((cnt : Nat) : Int).toNat = cnt from rfl] at hP
      have eg : (fun i => pu_rw M (pu_lx (pu_rT M s) cnt (m + 1) S d i)) = pu_rgo M (pu_rT M s) cnt m S (pu_vb (pu_rT M s) cnt (m + 1) S d).1 := by
        funext i
        cases i <;> rfl
      unfold pu_rO
      rw [eg]
      exact hP
    | succ j ih =>
      intro p v8 N1 hp1 hP
      have q1 := hP.1
      have hcp := hcm p (by omega)
      have hcq := hcm (p + 1) (by omega)
      have ec : pu_cnt (M.1 608) 1 (p + 1) = pu_cnt (M.1 608) 1 p + (if M.1 608 (12 + 8 * (p : Int)) = 1 then 1 else 0) := rfl
      obtain ⟨c, hcc⟩ : ∃ c : Nat, pu_cnt (M.1 608) 1 p = c := ⟨(pu_cnt (M.1 608) 1 p).toNat, by omega⟩
      have ih' := fun v8 N1 => ih (p + 1) v8 N1 (by omega)
      rw [hcc] at hP hcp ec
      rw [show ((c : Nat) : Int).toNat = c from rfl] at hP
      have hwn : M.1 608 (12 + 8 * (p : Int)) = 1 → pu_rw M c = p ∧ c < cnt := fun w => by
        rw [if_pos w] at ec
        refine ⟨?_, by omega⟩
        unfold pu_rw
        rw [← hcc]
        exact pu_wn_at (by omega) w
      refine w_m_rowFrom1_7 q1.1 (by omega) (by omega) (by omega) (by omega) (by omega) ?_
      rw [q1.r, q1.2.2.1]
      refine ⟨by omega, by omega, fun _ => ⟨fun u => ?_, fun u => ⟨fun w => ?_, fun w => ?_⟩⟩, fun z => absurd z (by omega)⟩
      · -- used
        refine ih' v8 N1 ?_
        by_cases w : M.1 608 (12 + 8 * (p : Int)) = 1
        · obtain ⟨w1, w2⟩ := hwn w
          have nb := (h8 c w2).1 (by rw [w1]; exact u)
          rw [if_pos w] at ec
          rw [ec, show ((c : Int) + 1).toNat = c + 1 by omega]
          have e : pu_vf (fun i => ((m : Int) + 1) * pu_rT M s d i + (pu_vb (pu_rT M s) cnt m (pu_rm S i) i).2) S (c + 1) = pu_vf (fun i => ((m : Int) + 1) * pu_rT M s d i + (pu_vb (pu_rT M s) cnt m (pu_rm S i) i).2) S c := if_neg (fun q => nb q.1)
          rw [e]
          exact hP
        · rw [if_neg w] at ec
          rw [ec, show ((c : Int) + 0).toNat = c by omega]
          exact hP
      · -- one more
        obtain ⟨w1, w2⟩ := hwn w
        have hb : pu_bit S c := by
          by_cases q : pu_bit S c
          · exact q
          · exact absurd (by have g := (h8 c w2).2 q; rw [w1] at g; exact g) u
        rw [if_pos w] at ec
        have eT := h10 c w2
        rw [w1] at eT
        have T1 := pu_rT_ok (s := s) hr hc d c h5 w2
        rw [eT]
        have g1 := pu_rm_in S (by omega) c (by omega) hb
        have g0 := pu_rm_all S (by omega) c (by omega)
        obtain ⟨x, hx⟩ : ∃ x : Nat, pu_rm S c = x := ⟨(pu_rm S c).toNat, by omega⟩
        rw [hx] at g1 g0
        obtain ⟨un, hun⟩ : ∃ un : Nat, used = un := ⟨used.toNat, by omega⟩
        have og := pu_or_rg un (by omega) p (by omega)
        rw [← hun] at og
        refine ⟨hr, by omega, by omega, by omega, by omega, by omega, by omega, by omega, by omega, by omega, by omega, ?_⟩
        refine nb_W.imp (sp_m_rowFrom2 (s := s) (S := x) (d := c) (n := m) (t := t + 1) (N := nb_wr N1 616 t p) (by omega) hr hc h7 ⟨q1.far (by decide), by omega, by omega, by omega, Or.inl ⟨by omega, by omega⟩, by omega, fun i hi => ?_, by omega, fun i hi => ?_, by omega, by omega, ?_⟩) ?_
        · have wi := pu_rw_ok hc hi
          rw [pu_bit_or (by omega) (by omega), g1.2.2 i (by omega), h8 i hi]
          have inj : pu_rw M i = p ↔ i = c := by
            constructor
            · intro q
              have g := pu_wn_ct (R := M.1 608) (i := i) (M.1 606 5).toNat (by show pu_rw M i ≠ -1; omega)
              rw [show pu_wn (M.1 608) i (M.1 606 5).toNat = p from q, show ((p : Nat) : Int).toNat = p from rfl, hcc] at g
              omega
            · intro q
              subst q
              exact w1
          rw [inj]
          by_cases y : pu_bit S i
          · by_cases y2 : i = c
            · exact ⟨fun _ q => q.2 y2, fun _ => Or.inr y2⟩
            · exact ⟨fun q => q.elim (fun q => absurd y q) (fun q => absurd q y2), fun q => absurd ⟨y, y2⟩ q⟩
          · exact ⟨fun _ q => y q.1, fun _ => Or.inl y⟩
        · unfold pu_rT
          rw [if_neg (by omega), show ((c : Nat) : Int).toNat = c from rfl, w1]
          rfl
        · rw [nb_wr_b (by decide), hP.2.1]
          split <;> omega
        rintro r' N2 ⟨rfl, hO⟩
        refine ⟨rfl, hO.1.1, ih' _ N2 ?_⟩
        unfold pu_rO at hO
        have ev : s0 + (a0 + pu_rT M s d c) + (m : Int) * (a0 + pu_rT M s d c) + (pu_vb (pu_rT M s) cnt m x c).2 = (s0 + ((m : Int) + 1) * a0) + (((m : Int) + 1) * pu_rT M s d c + (pu_vb (pu_rT M s) cnt m x c).2) := by
          rw [Int.add_mul, Int.one_mul, Int.add_mul, Int.one_mul, Int.mul_add]
          omega
        rw [ev] at hO
        rw [← hx] at hO
        have st := pu_rP_step w1.symm hP hO
        rw [ec, show ((c : Int) + 1).toNat = c + 1 by omega]
        have e : pu_vf (fun i => ((m : Int) + 1) * pu_rT M s d i + (pu_vb (pu_rT M s) cnt m (pu_rm S i) i).2) S (c + 1) = if ((m : Int) + 1) * pu_rT M s d c + (pu_vb (pu_rT M s) cnt m (pu_rm S c) c).2 < (pu_vf (fun i => ((m : Int) + 1) * pu_rT M s d i + (pu_vb (pu_rT M s) cnt m (pu_rm S i) i).2) S c).2 then (c, ((m : Int) + 1) * pu_rT M s d c + (pu_vb (pu_rT M s) cnt m (pu_rm S c) c).2) else pu_vf (fun i => ((m : Int) + 1) * pu_rT M s d i + (pu_vb (pu_rT M s) cnt m (pu_rm S i) i).2) S c := by
          by_cases y : ((m : Int) + 1) * pu_rT M s d c + (pu_vb (pu_rT M s) cnt m (pu_rm S c) c).2 < (pu_vf (fun i => ((m : Int) + 1) * pu_rT M s d i + (pu_vb (pu_rT M s) cnt m (pu_rm S i) i).2) S c).2
          · rw [if_pos y]
            exact if_pos ⟨hb, y⟩
          · rw [if_neg y]
            exact if_neg (fun q => y q.2)
        rw [e]
        exact st
      · refine ih' v8 N1 ?_
        rw [if_neg w] at ec
        rw [ec, show ((c : Int) + 0).toNat = c by omega]
        exact hP
theorem sp_m_rowFrom0 {M N : nb_M} {C : Int → Int} {s : Int} {t cnt n S d : Nat} {a0 s0 used last : Int} {v7 v8 : nb_V} (ht : t = 0) (hr : pu_Rr (M.1 606)) (hc : (cnt : Int) = pu_cnt (M.1 608) 1 (M.1 606 5).toNat) (h7 : cnt ≤ 7) (h : pu_rI M N C s t cnt n S d used last a0 s0) : nb_W 184 0 [(20, 603), (0, (t : Int)), (0, (cnt : Int)), (0, used), (0, last), (0, a0), (0, s0), v7, v8] [] N (fun r' N' => r' = [] ∧ pu_rO M N N' C s t cnt n S d a0 s0) := by
  have hq := h.1
  have htn := h.2.1
  have n5 := hr.2.2.2.2.2.2.1
  refine w_m_rowFrom0_0 hq.1 ⟨fun c => ⟨fun e => ?_, fun e => ?_⟩, fun c _ => ⟨rfl, pu_rO_cut (k := 0) hr hc h7 h c⟩⟩
  · have e1 : t = cnt := by omega
    have e2 : n = 0 := by omega
    subst e1
    subst e2
    exact pu_rO_leaf (Q := fun r' N' => r' = [] ∧ pu_rO M N N' C s t t 0 S d a0 s0) h7 h c (fun N' g => ⟨rfl, g⟩)
  · -- down
    obtain ⟨m, hm⟩ : ∃ m : Nat, n = m + 1 := ⟨n - 1, by omega⟩
    subst hm
    obtain ⟨h1, h2, h3, h4, h5, h6, h8, h9, h10, h11, h12, h13⟩ := h
    have na : 0 ≤ ((m : Int) + 1) * a0 := Int.mul_nonneg (by omega) h11.1
    have hp := pu_pow7 cnt h7
    have hcm : ∀ p : Nat, (p : Int) ≤ M.1 606 5 → 0 ≤ pu_cnt (M.1 608) 1 p ∧ pu_cnt (M.1 608) 1 p ≤ cnt := fun p hp => ⟨(pu_cnt_le p).1, by rw [hc]; exact pu_cnt_mono _ _ (by omega)⟩
    suffices hl : ∀ (j p : Nat) (v8 : nb_V) (N1 : nb_M), (p : Int) + j = M.1 606 5 → pu_rP M N N1 C t cnt (pu_rgo M (pu_rT M s) cnt m S (pu_vf (fun i => ((m : Int) + 1) * pu_rT M s d i + (pu_vb (pu_rT M s) cnt m (pu_rm S i) i).2) S (pu_cnt (M.1 608) 1 p).toNat).1) ((s0 + ((m : Int) + 1) * a0) + (pu_vf (fun i => ((m : Int) + 1) * pu_rT M s d i + (pu_vb (pu_rT M s) cnt m (pu_rm S i) i).2) S (pu_cnt (M.1 608) 1 p).toNat).2) (N.1 603 33) → nb_W 184 7 [(20, 603), (0, (t : Int)), (0, (cnt : Int)), (0, used), (0, last), (0, a0), (0, s0), (0, (p : Int)), v8] [] N1 (fun r' N' => r' = [] ∧ pu_rO M N N' C s t cnt (m + 1) S d a0 s0) by
      have z : ¬ (s0 + ((m : Int) + 1) * a0 + 1000000 < N.1 603 33) := by omega
      exact hl (M.1 606 5).toNat 0 v8 N (by omega) ⟨h1, (if_neg z).symm, fun i _ => (if_neg z).symm, fun _ _ => rfl⟩
    intro j
    induction j with
    | zero =>
      intro p v8 N1 hp1 hP
      have q1 := hP.1
      refine w_m_rowFrom0_7 q1.1 (by omega) (by omega) (by omega) (by omega) (by omega) ?_
      rw [q1.r]
      refine ⟨by omega, by omega, fun c => absurd c (by omega), fun _ _ => ⟨rfl, ?_⟩⟩
      have ep : p = (M.1 606 5).toNat := by omega
      rw [ep, ← hc, show ((cnt : Nat) : Int).toNat = cnt from rfl] at hP
      have eg : (fun i => pu_rw M (pu_lx (pu_rT M s) cnt (m + 1) S d i)) = pu_rgo M (pu_rT M s) cnt m S (pu_vb (pu_rT M s) cnt (m + 1) S d).1 := by
        funext i
        cases i <;> rfl
      unfold pu_rO
      rw [eg]
      exact hP
    | succ j ih =>
      intro p v8 N1 hp1 hP
      have q1 := hP.1
      have hcp := hcm p (by omega)
      have hcq := hcm (p + 1) (by omega)
      have ec : pu_cnt (M.1 608) 1 (p + 1) = pu_cnt (M.1 608) 1 p + (if M.1 608 (12 + 8 * (p : Int)) = 1 then 1 else 0) := rfl
      obtain ⟨c, hcc⟩ : ∃ c : Nat, pu_cnt (M.1 608) 1 p = c := ⟨(pu_cnt (M.1 608) 1 p).toNat, by omega⟩
      have ih' := fun v8 N1 => ih (p + 1) v8 N1 (by omega)
      rw [hcc] at hP hcp ec
      rw [show ((c : Nat) : Int).toNat = c from rfl] at hP
      have hwn : M.1 608 (12 + 8 * (p : Int)) = 1 → pu_rw M c = p ∧ c < cnt := fun w => by
        rw [if_pos w] at ec
        refine ⟨?_, by omega⟩
        unfold pu_rw
        rw [← hcc]
        exact pu_wn_at (by omega) w
      refine w_m_rowFrom0_7 q1.1 (by omega) (by omega) (by omega) (by omega) (by omega) ?_
      rw [q1.r, q1.2.2.1]
      refine ⟨by omega, by omega, fun _ => ⟨fun u => ?_, fun u => ⟨fun w => ?_, fun w => ?_⟩⟩, fun z => absurd z (by omega)⟩
      · -- used
        refine ih' v8 N1 ?_
        by_cases w : M.1 608 (12 + 8 * (p : Int)) = 1
        · obtain ⟨w1, w2⟩ := hwn w
          have nb := (h8 c w2).1 (by rw [w1]; exact u)
          rw [if_pos w] at ec
          rw [ec, show ((c : Int) + 1).toNat = c + 1 by omega]
          have e : pu_vf (fun i => ((m : Int) + 1) * pu_rT M s d i + (pu_vb (pu_rT M s) cnt m (pu_rm S i) i).2) S (c + 1) = pu_vf (fun i => ((m : Int) + 1) * pu_rT M s d i + (pu_vb (pu_rT M s) cnt m (pu_rm S i) i).2) S c := if_neg (fun q => nb q.1)
          rw [e]
          exact hP
        · rw [if_neg w] at ec
          rw [ec, show ((c : Int) + 0).toNat = c by omega]
          exact hP
      · -- one more
        obtain ⟨w1, w2⟩ := hwn w
        have hb : pu_bit S c := by
          by_cases q : pu_bit S c
          · exact q
          · exact absurd (by have g := (h8 c w2).2 q; rw [w1] at g; exact g) u
        rw [if_pos w] at ec
        have eT := h10 c w2
        rw [w1] at eT
        have T1 := pu_rT_ok (s := s) hr hc d c h5 w2
        rw [eT]
        have g1 := pu_rm_in S (by omega) c (by omega) hb
        have g0 := pu_rm_all S (by omega) c (by omega)
        obtain ⟨x, hx⟩ : ∃ x : Nat, pu_rm S c = x := ⟨(pu_rm S c).toNat, by omega⟩
        rw [hx] at g1 g0
        obtain ⟨un, hun⟩ : ∃ un : Nat, used = un := ⟨used.toNat, by omega⟩
        have og := pu_or_rg un (by omega) p (by omega)
        rw [← hun] at og
        refine ⟨hr, by omega, by omega, by omega, by omega, by omega, by omega, by omega, by omega, by omega, by omega, ?_⟩
        refine nb_W.imp (sp_m_rowFrom1 (s := s) (S := x) (d := c) (n := m) (t := t + 1) (N := nb_wr N1 616 t p) (by omega) hr hc h7 ⟨q1.far (by decide), by omega, by omega, by omega, Or.inl ⟨by omega, by omega⟩, by omega, fun i hi => ?_, by omega, fun i hi => ?_, by omega, by omega, ?_⟩) ?_
        · have wi := pu_rw_ok hc hi
          rw [pu_bit_or (by omega) (by omega), g1.2.2 i (by omega), h8 i hi]
          have inj : pu_rw M i = p ↔ i = c := by
            constructor
            · intro q
              have g := pu_wn_ct (R := M.1 608) (i := i) (M.1 606 5).toNat (by show pu_rw M i ≠ -1; omega)
              rw [show pu_wn (M.1 608) i (M.1 606 5).toNat = p from q, show ((p : Nat) : Int).toNat = p from rfl, hcc] at g
              omega
            · intro q
              subst q
              exact w1
          rw [inj]
          by_cases y : pu_bit S i
          · by_cases y2 : i = c
            · exact ⟨fun _ q => q.2 y2, fun _ => Or.inr y2⟩
            · exact ⟨fun q => q.elim (fun q => absurd y q) (fun q => absurd q y2), fun q => absurd ⟨y, y2⟩ q⟩
          · exact ⟨fun _ q => y q.1, fun _ => Or.inl y⟩
        · unfold pu_rT
          rw [if_neg (by omega), show ((c : Nat) : Int).toNat = c from rfl, w1]
          rfl
        · rw [nb_wr_b (by decide), hP.2.1]
          split <;> omega
        rintro r' N2 ⟨rfl, hO⟩
        refine ⟨rfl, hO.1.1, ih' _ N2 ?_⟩
        unfold pu_rO at hO
        have ev : s0 + (a0 + pu_rT M s d c) + (m : Int) * (a0 + pu_rT M s d c) + (pu_vb (pu_rT M s) cnt m x c).2 = (s0 + ((m : Int) + 1) * a0) + (((m : Int) + 1) * pu_rT M s d c + (pu_vb (pu_rT M s) cnt m x c).2) := by
          rw [Int.add_mul, Int.one_mul, Int.add_mul, Int.one_mul, Int.mul_add]
          omega
        rw [ev] at hO
        rw [← hx] at hO
        have st := pu_rP_step w1.symm hP hO
        rw [ec, show ((c : Int) + 1).toNat = c + 1 by omega]
        have e : pu_vf (fun i => ((m : Int) + 1) * pu_rT M s d i + (pu_vb (pu_rT M s) cnt m (pu_rm S i) i).2) S (c + 1) = if ((m : Int) + 1) * pu_rT M s d c + (pu_vb (pu_rT M s) cnt m (pu_rm S c) c).2 < (pu_vf (fun i => ((m : Int) + 1) * pu_rT M s d i + (pu_vb (pu_rT M s) cnt m (pu_rm S i) i).2) S c).2 then (c, ((m : Int) + 1) * pu_rT M s d c + (pu_vb (pu_rT M s) cnt m (pu_rm S c) c).2) else pu_vf (fun i => ((m : Int) + 1) * pu_rT M s d i + (pu_vb (pu_rT M s) cnt m (pu_rm S i) i).2) S c := by
          by_cases y : ((m : Int) + 1) * pu_rT M s d c + (pu_vb (pu_rT M s) cnt m (pu_rm S c) c).2 < (pu_vf (fun i => ((m : Int) + 1) * pu_rT M s d i + (pu_vb (pu_rT M s) cnt m (pu_rm S i) i).2) S c).2
          · rw [if_pos y]
            exact if_pos ⟨hb, y⟩
          · rw [if_neg y]
            exact if_neg (fun q => y q.2)
        rw [e]
        exact st
      · refine ih' v8 N1 ?_
        rw [if_neg w] at ec
        rw [ec, show ((c : Int) + 0).toNat = c by omega]
        exact hP
