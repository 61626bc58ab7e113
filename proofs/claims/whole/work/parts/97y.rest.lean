/-! CALLS: honesty, rest, rests -/
theorem pu_bit_not {s p : Int} (hp : 0 ≤ p ∧ p < 31) : pu_bit (nb_xor s (-1)) p ↔ ¬ pu_bit s p := by
  obtain ⟨k, rfl⟩ : ∃ k : Nat, p = k := ⟨p.toNat, by omega⟩
  rw [pu_bit_iff (by omega), pu_bit_iff (by omega)]
  unfold nb_xor
  rw [nb_o32, b_xor, show Int32.ofInt (-1) = -1 from by decide, b_m1 k (by omega)]
  simp
theorem pu_pow10 : ∀ n : Nat, n ≤ 10 → 1 ≤ nb_shl 1 n ∧ nb_shl 1 n ≤ 1024 := by decide +kernel
theorem pu_pow7 : ∀ n : Nat, n ≤ 7 → 1 ≤ nb_shl 1 n ∧ nb_shl 1 n ≤ 128 := by decide +kernel
theorem pu_xor7 : ∀ n : Nat, n ≤ 7 → ∀ s : Nat, s < 128 → (s : Int) < nb_shl 1 n → ∀ p : Nat, p < n → 0 ≤ nb_xor s (nb_shl 1 p) ∧ nb_xor s (nb_shl 1 p) < nb_shl 1 n := by decide +kernel
theorem pu_shl_rg {x : Int} (h : 0 ≤ x ∧ x ≤ 10) : 1 ≤ nb_shl 1 x ∧ nb_shl 1 x ≤ 1024 := by
  obtain ⟨n, rfl⟩ : ∃ n : Nat, x = n := ⟨x.toNat, by omega⟩
  exact pu_pow10 n (by omega)
/-- what someone waits if just those of a set lie -/
def pu_hw (M : nb_M) (set p : Int) : Int := pu_wo (pu_pes M set) (pu_evh M set) (M.1 606 2) p
theorem pu_hw_eq {M : nb_M} {k set p : Int} (h : pu_I M k) (hp : 0 ≤ p ∧ p < M.1 606 5) : pu_wc (pu_pes M set) (pu_evh M set) (M.1 606 2) p = pu_hw M set p ∧ -700 ≤ pu_hw M set p ∧ pu_hw M set p ≤ 10000 := by
  obtain ⟨k1, k2, k3, k4, k5, k6, k7, k8⟩ := pu_sta_ok h
  obtain ⟨Ho, hHo, hx2, hx3, hh, hSn, hT, h14, h7, hL⟩ := pu_I_at h
  have hr := hT.1
  have n5 := hr.2.2.2.2.2.2.1
  have n2 := hr.2.2.2.1
  obtain ⟨r3, M3, x3, rfl, c3, e8, S3, -⟩ := sp_c_liarsQ (set := set) (v2 := (98, 0)) h (pu_CQ_id hL)
  obtain ⟨a, b, c, d⟩ := pu_evh_ok (set := set) h
  have hb := S3.2.2.2.2.1.1 p hp.1 hp.2
  have hc : pu_pes M set (7 * p + 2) ≤ M.1 606 2 := by
    unfold pu_pes
    rw [(pu_peh_ok h _ (by omega)).2.1]
    exact k8 p hp.1 hp.2
  exact ⟨(pu_wo_wc (b.1 p hp.1 (by omega)).1 hb (fun z => by have := (hb.1 z).1; omega) (d p hp.1 hp.2)).symm, pu_wo_rg b a (by omega) (by omega)⟩
theorem pu_CQ_h {M M1 : nb_M} {k tr : Int} (h : pu_I M k) (hq : pu_CQ M M1 tr) : (∀ set n, pu_peh M1 set n = pu_peh M set n) ∧ (∀ set, pu_pes M1 set = pu_pes M set) ∧ (∀ set, pu_evh M1 set = pu_evh M set) ∧ (∀ set p, pu_hw M1 set p = pu_hw M set p) ∧ ∀ pe, pu_lfs M1 pe = pu_lfs M pe := by
  obtain ⟨b3, b6, b8, b9, b12, b13, h7', c1, c2, c3⟩ := pu_CQ_ref h hq
  have e1 : ∀ set n, pu_peh M1 set n = pu_peh M set n := fun set n => by
    induction n with
    | zero => exact c2
    | succ n ih =>
      unfold pu_peh
      rw [ih]
  have e2 : ∀ set, pu_pes M1 set = pu_pes M set := fun set => by
    unfold pu_pes
    rw [b6, e1]
  have e3 : ∀ pe, pu_lfs M1 pe = pu_lfs M pe := fun pe => by
    unfold pu_lfs
    rw [b6, c1, b9]
  have e4 : ∀ set, pu_evh M1 set = pu_evh M set := fun set => by
    unfold pu_evh
    rw [b6, c1, e2, e3]
  refine ⟨e1, e2, e4, fun set p => ?_, e3⟩
  unfold pu_hw
  rw [e2, e4, b6]
/-- what the reference needs for it -/
theorem pu_RH_of {M M1 : nb_M} {k tr : Int} (h : pu_I M k) (hq : pu_CQ M M1 tr) : pu_RF M1 ∧ (∀ set (n : Nat), n ≤ 10 → pu_Rp (pu_peh M1 set n)) ∧ (∀ set, pu_Rw (pu_lfs M1 (pu_pes M1 set)) ∧ pu_Rk (pu_lfs M1 (pu_pes M1 set))) ∧ ∀ set, pu_Rp (pu_pes M1 set) ∧ pu_Rw (pu_evh M1 set) := by
  obtain ⟨Ho, hHo, hx2, hx3, hh, hSn, hT, h14, h7, hL⟩ := pu_I_at h
  have n5 := hT.1.2.2.2.2.2.2.1
  obtain ⟨e1, e2, e3, e4, e5⟩ := pu_CQ_h h hq
  refine ⟨pu_RF_of h hq, fun set n hn => ?_, fun set => ?_, fun set => ?_⟩
  · rw [e1]; exact (pu_peh_ok h n hn).1
  · rw [e2, e5]
    obtain ⟨g1, g2, g3, g4, g5⟩ := pu_lfs_ok (set := set) (n := (M.1 606 5).toNat) h (by omega)
    exact ⟨g1, g2⟩
  · rw [e2, e3]
    obtain ⟨a, b, c, d⟩ := pu_evh_ok (set := set) h
    exact ⟨a, b⟩
theorem sp_m_hwQ {M N : nb_M} {set p : Int} {v2 : nb_V} (hA : pu_Rp (pu_pes M set) ∧ pu_Rw (pu_evh M set)) (hr : pu_Rr (M.1 606)) (q : pu_MM M N (M.1 608) (M.1 612)) (e9 : N.1 609 = pu_evh M set) (e13 : N.1 613 = pu_pes M set) (e26 : N.1 603 26 = M.1 606 2) (hp : 0 ≤ p ∧ p ≤ 9) : nb_R nb_P 136 0 [(20, 603), (0, p), v2] [] N = some ([(0, pu_hw M set p)], N) := by
  have n2 := hr.2.2.2.1
  have w := sp_m_waitOf (M := N) (p := p) (v2 := v2) q.1 hp (by rw [e9]; exact hA.2) (by rw [e13]; exact hA.1) (by rw [e26]; omega)
  rw [e9, e13, e26] at w
  exact w
def pu_hs (M : nb_M) (set others : Int) : Nat → Int
  | 0 => 0
  | n + 1 => pu_hs M set others n + (if (nb_and (nb_shr set n) 1 = 1 ∧ others ≠ 1) ∨ (nb_and (nb_shr set n) 1 ≠ 1 ∧ others ≠ 0) then pu_hw M set n else 0)
theorem pu_hs_ws {M : nb_M} {k set others : Int} (h : pu_I M k) (ho : others = 0 ∨ others = 1) : ∀ n : Nat, (n : Int) ≤ M.1 606 5 → pu_ws (pu_pes M set) (pu_evh M set) (M.1 606 2) (if others = 0 then set else nb_xor set (-1)) n = pu_hs M set others n ∧ (-700 * (n : Int) ≤ pu_hs M set others n ∧ pu_hs M set others n ≤ 10000 * n)
  | 0, _ => ⟨rfl, by unfold pu_hs; omega⟩
  | n + 1, hn => by
    obtain ⟨Ho, hHo, hx2, hx3, hh, hSn, hT, h14, h7, hL⟩ := pu_I_at h
    have n5 := hT.1.2.2.2.2.2.2.1
    obtain ⟨ih, i1, i2⟩ := pu_hs_ws (set := set) h ho n (by omega)
    obtain ⟨g, g1, g2⟩ := pu_hw_eq (set := set) (p := n) h (by omega)
    unfold pu_ws pu_hs
    rw [ih, g]
    refine ⟨?_, by split <;> omega⟩
    congr 1
    rcases ho with rfl | rfl
    · rw [if_pos rfl]
      by_cases c : nb_and (nb_shr set n) 1 = 1
      · rw [if_pos c, if_pos (Or.inl ⟨c, by decide⟩)]
      · rw [if_neg c, if_neg (by omega)]
    · rw [if_neg (show ¬ (1 : Int) = 0 by decide)]
      have b := pu_bit_not (s := set) (p := n) (by omega)
      unfold pu_bit at b
      by_cases c : nb_and (nb_shr set n) 1 = 1
      · rw [if_neg (fun z => b.1 z c), if_neg (by omega)]
      · rw [if_pos (b.2 c), if_pos (Or.inr ⟨c, by decide⟩)]
theorem pa_honesty (set others : Int) (ho : others = 0 ∨ others = 1) : pu_pair 52 [(19, 2), (0, set), (0, others)] 180 [(20, 603), (0, set), (0, others), (98, 0), (98, 0), (98, 0)] := by
  apply pu_pair_q
  intro M k hI hk0 hk1
  obtain ⟨Ho, hHo, hx2, hx3, hh, hSn, hT, -, h7, hL⟩ := pu_I_at hI
  have hr := hT.1
  have n5 := hr.2.2.2.2.2.2.1
  have n2 := hr.2.2.2.1
  have h14 := pu_house hI
  have o := hh.1
  have hsh := pu_shl_rg n5
  by_cases c : M.1 606 5 = 0
  case pos =>
    refine ⟨-1, 1, fun h => absurd h (by decide), ?_, fun M1 hq => ?_⟩
    · refine w_c_honesty_0 hL hHo hx2 ?_
      rw [o.2.2.2.2.1]
      repeat' (first | assumption | with_reducible apply And.intro | intro _)
      all_goals (first | omega | (exfalso; omega) | rfl | exact pu_CQ_g hL | exact pu_CQ.tr (pu_CQ_g hL) | exact pu_CQ.tr (pu_CQ.tr (pu_CQ_g hL)))
    · obtain ⟨b3, b6, b8, b9, b12, b13, h7', -⟩ := pu_CQ_ref hI hq
      refine w_m_honesty_0 hq.1 ?_
      rw [b3, b6]
      repeat' (first | assumption | with_reducible apply And.intro | intro _)
      all_goals (first | omega | (exfalso; omega) | rfl | exact pu_MQ_no h7' (by assumption))
  by_cases d : 0 ≤ set ∧ set < nb_shl 1 (M.1 606 5)
  case neg =>
    refine ⟨-1, 2, fun h => absurd h (by decide), ?_, fun M1 hq => ?_⟩
    · refine w_c_honesty_0 hL hHo hx2 ?_
      rw [o.2.2.2.2.1]
      repeat' (first | assumption | with_reducible apply And.intro | intro _)
      all_goals (first | omega | (exfalso; omega) | rfl | exact pu_CQ_g hL | exact pu_CQ.tr (pu_CQ_g hL) | exact pu_CQ.tr (pu_CQ.tr (pu_CQ_g hL)))
    · obtain ⟨b3, b6, b8, b9, b12, b13, h7', -⟩ := pu_CQ_ref hI hq
      refine w_m_honesty_0 hq.1 ?_
      rw [b3, b6]
      repeat' (first | assumption | with_reducible apply And.intro | intro _)
      all_goals (first | omega | (exfalso; omega) | rfl | exact pu_MQ_no h7' (by assumption))
  obtain ⟨hw, -⟩ := pu_hs_ws (set := set) hI ho (M.1 606 5).toNat (by omega)
  refine ⟨pu_hs M set others (M.1 606 5).toNat, 0, fun h => absurd h (by decide), ?_, fun M1 hq => ?_⟩
  · obtain ⟨a, b, -⟩ := pu_evh_ok (set := set) hI
    refine w_c_honesty_0 hL hHo hx2 ?_
    rw [o.2.2.2.2.1]
    repeat' (first | assumption | with_reducible apply And.intro | intro _)
    all_goals try (first | omega | (exfalso; omega))
    refine nb_W.imp (sp_c_liarsQ hI ((pu_CQ_g hL).tr)) ?_
    rintro r' M2 ⟨rfl, q2, e8, S2, -⟩
    refine ⟨rfl, q2.1, q2.x2 hx2, fun e => ?_, fun e => ?_⟩
    · rw [if_pos e] at hw
      refine nb_Wp (sp_sc_waitsOfSet q2.1 nb_sc106 n5 b a S2.1 S2.2.1 e8 (by omega)) ⟨_, rfl, q2.1, q2.x2 hx2, fun _ => ⟨?_, q2⟩⟩
      rw [hw]
    · rw [if_neg e] at hw
      refine nb_Wp (sp_sc_waitsOfSet q2.1 nb_sc106 n5 b a S2.1 S2.2.1 e8 (by omega)) ⟨_, rfl, q2.1, q2.x2 hx2, fun _ => ⟨?_, q2⟩⟩
      rw [hw]
  · obtain ⟨b3, b6, b8, b9, b12, b13, h7', c1, c2, c3⟩ := pu_CQ_ref hI hq
    obtain ⟨f0, f1, f2, f3⟩ := pu_RH_of hI hq
    obtain ⟨e1, e2, e3, e4, e5⟩ := pu_CQ_h hI hq
    clear hw
    refine w_m_honesty_0 hq.1 ?_
    rw [b3, b6]
    repeat' (first | assumption | with_reducible apply And.intro | intro _)
    all_goals try (first | omega | (exfalso; omega))
    refine nb_W.imp (sp_m_honestQ f0 (f1 set) (f2 set) (pu_MM_g hq.1)) ?_
    rintro r' N ⟨rfl, q, g9, g13, g26, -⟩
    refine ⟨rfl, q.1, ?_⟩
    suffices hl : ∀ (n j : Nat), (j : Int) + n = M.1 606 5 → ∀ v3, nb_W 180 7 [(20, 603), (0, set), (0, others), v3, (0, pu_hs M set others j), (0, (j : Int))] [] N (fun r2 M2 => r2 = [(0, pu_hs M set others (M.1 606 5).toNat)] ∧ pu_MQ M1 M2 0) from hl (M.1 606 5).toNat 0 (by omega) _
    intro n
    induction n with
    | zero =>
      intro j hj v3
      have hrg := (pu_hs_ws (set := set) hI ho j (by omega)).2
      refine w_m_honesty_7 q.1 (by omega) (by omega) ?_
      rw [q.r, b6]
      refine ⟨by omega, by omega, fun z => absurd z (by omega), fun _ _ => ⟨?_, q.mq h7'⟩⟩
      rw [show (M.1 606 5).toNat = j by omega]
    | succ n ih =>
      intro j hj v3
      have hrg := (pu_hs_ws (set := set) hI ho j (by omega)).2
      have hrg2 := (pu_hs_ws (set := set) hI ho (j + 1) (by omega)).2
      have hwq := sp_m_hwQ (p := j) (v2 := (98, 0)) (f3 set) f0.1 q g9 g13 g26 (by omega)
      rw [e4] at hwq
      obtain ⟨-, x1, x2⟩ := pu_hw_eq (set := set) (p := j) hI (by omega)
      have es : pu_hs M set others (j + 1) = pu_hs M set others j + (if (nb_and (nb_shr set j) 1 = 1 ∧ others ≠ 1) ∨ (nb_and (nb_shr set j) 1 ≠ 1 ∧ others ≠ 0) then pu_hw M set j else 0) := rfl
      have ih := ih (j + 1) (by omega) (nb_clr v3)
      rw [es] at ih
      refine w_m_honesty_7 q.1 (by omega) (by omega) ?_
      rw [q.r, b6]
      refine ⟨by omega, by omega, fun _ => ⟨fun z => ⟨fun y => ?_, fun y => nb_Wp hwq ⟨_, rfl, q.1, by omega, by omega, ?_⟩⟩, fun z => ⟨fun y => ?_, fun y => nb_Wp hwq ⟨_, rfl, q.1, by omega, by omega, ?_⟩⟩⟩, fun z => absurd z (by omega)⟩
      · rw [if_neg (by omega), Int.add_zero] at ih
        exact ih
      · rw [if_pos (by omega)] at ih
        exact ih
      · rw [if_neg (by omega), Int.add_zero] at ih
        exact ih
      · rw [if_pos (by omega)] at ih
        exact ih
/-! at rest -/
def pu_rst (f g : Nat → Int) : Nat → Int
  | 0 => 1
  | n + 1 => if pu_rst f g n = 0 then 0 else if g n < f n then 0 else 1
theorem pu_rst_stay {f g : Nat → Int} {j : Nat} (h : pu_rst f g j = 0) : ∀ n : Nat, pu_rst f g (j + n) = 0
  | 0 => h
  | n + 1 => if_pos (pu_rst_stay h n)
theorem pu_rst_01 {f g : Nat → Int} : ∀ n : Nat, pu_rst f g n = 0 ∨ pu_rst f g n = 1
  | 0 => Or.inr rfl
  | n + 1 => by
    unfold pu_rst
    (repeat' split) <;> first | exact Or.inl rfl | exact Or.inr rfl
theorem pu_rst_lt {f g : Nat → Int} {j m : Nat} (h : g j < f j) (hm : j < m) : pu_rst f g m = 0 := by
  have e : pu_rst f g (j + 1) = 0 := by
    unfold pu_rst
    rw [if_pos h]
    split <;> rfl
  have := pu_rst_stay e (m - (j + 1))
  rwa [show j + 1 + (m - (j + 1)) = m by omega] at this
theorem pu_rst_ge {f g : Nat → Int} {j : Nat} (h : f j ≤ g j) (h1 : pu_rst f g j = 1) : pu_rst f g (j + 1) = 1 := by
  unfold pu_rst
  rw [if_neg (by omega), if_neg (by omega)]
def pu_rf (M : nb_M) (set : Int) (j : Nat) : Int := pu_hw M set j
def pu_rg (M : nb_M) (set : Int) (j : Nat) : Int := pu_hw M (nb_xor set (nb_shl 1 j)) j
def pu_rest (M : nb_M) (set : Int) : Int := pu_rst (pu_rf M set) (pu_rg M set) (M.1 606 5).toNat
theorem sp_m_isAtRestQ {M N : nb_M} {set : Int} {v2 : nb_V} (f0 : pu_RF M) (f1 : ∀ set (n : Nat), n ≤ 10 → pu_Rp (pu_peh M set n)) (f2 : ∀ set, pu_Rw (pu_lfs M (pu_pes M set)) ∧ pu_Rk (pu_lfs M (pu_pes M set))) (f3 : ∀ set, pu_Rp (pu_pes M set) ∧ pu_Rw (pu_evh M set)) (q : pu_MM M N (M.1 608) (M.1 612)) : nb_W 181 0 [(20, 603), (0, set), v2] [] N (fun r' N' => r' = [(0, pu_rest M set)] ∧ pu_MM M N' (M.1 608) (M.1 612)) := by
  have hr := f0.1
  have n5 := hr.2.2.2.2.2.2.1
  refine w_m_isAtRest_0 q.1 ?_
  refine nb_W.imp (sp_m_honestQ f0 (f1 set) (f2 set) q) ?_
  rintro r' N1 ⟨rfl, q1, g9, g13, g26, -⟩
  refine ⟨rfl, q1.1, ?_⟩
  clear q
  -- the second loop
  have l2 : ∀ (n j : Nat), (j : Int) + n = M.1 606 5 → ∀ N, pu_MM M N (M.1 608) (M.1 612) → (∀ p : Nat, (p : Int) < M.1 606 5 → N.1 615 p = pu_rf M set p) → pu_rst (pu_rf M set) (pu_rg M set) j = 1 → nb_W 181 7 [(20, 603), (0, set), (0, (j : Int))] [] N (fun r' N' => r' = [(0, pu_rest M set)] ∧ pu_MM M N' (M.1 608) (M.1 612)) := by
    intro n
    induction n with
    | zero =>
      intro j hj N q hw hs
      refine w_m_isAtRest_7 q.1 (by omega) ?_
      rw [q.r]
      refine ⟨by omega, by omega, fun z => absurd z (by omega), fun _ _ => ⟨?_, q⟩⟩
      unfold pu_rest
      rw [show (M.1 606 5).toNat = j by omega, hs]
    | succ n ih =>
      intro j hj N q hw hs
      refine w_m_isAtRest_7 q.1 (by omega) ?_
      rw [q.r]
      refine ⟨by omega, by omega, fun _ => ?_, fun z => absurd z (by omega)⟩
      refine nb_W.imp (sp_m_honestQ f0 (f1 _) (f2 _) q) ?_
      rintro r' N2 ⟨rfl, q2, t9, t13, t26, t15⟩
      have e15 : N2.1 615 j = pu_rf M set j := by rw [t15]; exact hw j (by omega)
      refine ⟨rfl, q2.1, nb_Wp (sp_m_hwQ (p := j) (f3 _) hr q2 t9 t13 t26 (by omega)) ⟨pu_rg M set j, rfl, q2.1, by omega, by omega, ?_⟩⟩
      rw [e15]
      refine ⟨fun d _ => ⟨?_, q2⟩, fun d => ?_⟩
      · unfold pu_rest
        rw [pu_rst_lt d (by omega)]
      · exact ih (j + 1) (by omega) N2 q2 (fun p hp => by rw [t15]; exact hw p hp) (pu_rst_ge d hs)
  suffices l1 : ∀ (n j : Nat), (j : Int) + n = M.1 606 5 → ∀ N, pu_MM M N (M.1 608) (M.1 612) → N.1 609 = pu_evh M set → N.1 613 = pu_pes M set → N.1 603 26 = M.1 606 2 → (∀ p : Nat, p < j → N.1 615 p = pu_rf M set p) → nb_W 181 2 [(20, 603), (0, set), (0, (j : Int))] [] N (fun r' N' => r' = [(0, pu_rest M set)] ∧ pu_MM M N' (M.1 608) (M.1 612)) from l1 (M.1 606 5).toNat 0 (by omega) N1 q1 g9 g13 g26 (fun p hp => absurd hp (by omega))
  intro n
  induction n with
  | zero =>
    intro j hj N q t9 t13 t26 hw
    refine w_m_isAtRest_2 q.1 (by omega) ?_
    rw [q.r]
    refine ⟨by omega, by omega, fun z => absurd z (by omega), fun _ => ?_⟩
    exact l2 (M.1 606 5).toNat 0 (by omega) N q (fun p hp => hw p (by omega)) rfl
  | succ n ih =>
    intro j hj N q t9 t13 t26 hw
    refine w_m_isAtRest_2 q.1 (by omega) ?_
    rw [q.r]
    refine ⟨by omega, by omega, fun _ => ?_, fun z => absurd z (by omega)⟩
    refine nb_Wp (sp_m_hwQ (p := j) (f3 _) hr q t9 t13 t26 (by omega)) ⟨pu_rf M set j, rfl, q.1, by omega, by omega, ?_⟩
    refine ih (j + 1) (by omega) _ (q.far (by decide)) ?_ ?_ ?_ (fun p hp => ?_)
    · rw [nb_wr_b (by decide)]; exact t9
    · rw [nb_wr_b (by decide)]; exact t13
    · rw [nb_wr_b (by decide)]; exact t26
    · by_cases e : p = j
      · subst e
        rw [nb_wr_1, if_pos ⟨rfl, rfl⟩]
      · rw [nb_wr_1, if_neg (by omega)]
        exact hw p (by omega)
theorem pu_rest_CQ {M M1 : nb_M} {k tr : Int} (h : pu_I M k) (hq : pu_CQ M M1 tr) (set : Int) : pu_rest M1 set = pu_rest M set := by
  obtain ⟨b3, b6, b8, b9, b12, b13, h7', c1, c2, c3⟩ := pu_CQ_ref h hq
  obtain ⟨e1, e2, e3, e4, e5⟩ := pu_CQ_h h hq
  have a : pu_rf M1 set = pu_rf M set := funext fun j => e4 _ _
  have b : pu_rg M1 set = pu_rg M set := funext fun j => e4 _ _
  unfold pu_rest
  rw [a, b, b6]
theorem sp_c_waitOfQ {M N : nb_M} {k tr set p : Int} {v2 : nb_V} (h : pu_I M k) (hq : pu_CQ M N tr) (e8 : N.1 106 8 = M.1 606 2) (S : pu_St M N (M.1 606 4) (pu_cra M) (pu_pes M set) (pu_evh M set)) (hp : 0 ≤ p ∧ p < M.1 606 5) : nb_R nb_P 266 0 [(15, 106), (0, p), v2] [] N = some ([(0, pu_hw M set p)], N) := by
  obtain ⟨Ho, hHo, hx2, hx3, hh, hSn, hT, h14, h7, hL⟩ := pu_I_at h
  have hr := hT.1
  have n5 := hr.2.2.2.2.2.2.1
  have n2 := hr.2.2.2.1
  obtain ⟨a, b, -⟩ := pu_evh_ok (set := set) h
  rw [← (pu_hw_eq (set := set) h hp).1]
  exact sp_sc_waitOf hq.1 nb_sc106 n5.2 hp b (a p hp.1 (by omega)).2.2.1 S.1 S.2.1 e8 (by omega)
theorem pa_rest (set : Int) : pu_pair 55 [(19, 2), (0, set), (98, 0), (98, 0)] 182 [(20, 603), (0, set), (98, 0)] := by
  apply pu_pair_q
  intro M k hI hk0 hk1
  obtain ⟨Ho, hHo, hx2, hx3, hh, hSn, hT, -, h7, hL⟩ := pu_I_at hI
  have hr := hT.1
  have n5 := hr.2.2.2.2.2.2.1
  have n2 := hr.2.2.2.1
  have h14 := pu_house hI
  have o := hh.1
  have hsh := pu_shl_rg n5
  by_cases c : M.1 606 5 = 0
  case pos =>
    refine ⟨-1, 1, fun h => absurd h (by decide), ?_, fun M1 hq => ?_⟩
    · refine w_c_rest_0 hL hHo hx2 ?_
      rw [o.2.2.2.2.1]
      repeat' (first | assumption | with_reducible apply And.intro | intro _)
      all_goals (first | omega | (exfalso; omega) | rfl | exact pu_CQ_g hL | exact pu_CQ.tr (pu_CQ_g hL) | exact pu_CQ.tr (pu_CQ.tr (pu_CQ_g hL)))
    · obtain ⟨b3, b6, b8, b9, b12, b13, h7', -⟩ := pu_CQ_ref hI hq
      refine w_m_rest_0 hq.1 ?_
      rw [b3, b6]
      repeat' (first | assumption | with_reducible apply And.intro | intro _)
      all_goals (first | omega | (exfalso; omega) | rfl | exact pu_MQ_no h7' (by assumption))
  by_cases d : 0 ≤ set ∧ set < nb_shl 1 (M.1 606 5)
  case neg =>
    refine ⟨-1, 2, fun h => absurd h (by decide), ?_, fun M1 hq => ?_⟩
    · refine w_c_rest_0 hL hHo hx2 ?_
      rw [o.2.2.2.2.1]
      repeat' (first | assumption | with_reducible apply And.intro | intro _)
      all_goals (first | omega | (exfalso; omega) | rfl | exact pu_CQ_g hL | exact pu_CQ.tr (pu_CQ_g hL) | exact pu_CQ.tr (pu_CQ.tr (pu_CQ_g hL)))
    · obtain ⟨b3, b6, b8, b9, b12, b13, h7', -⟩ := pu_CQ_ref hI hq
      refine w_m_rest_0 hq.1 ?_
      rw [b3, b6]
      repeat' (first | assumption | with_reducible apply And.intro | intro _)
      all_goals (first | omega | (exfalso; omega) | rfl | exact pu_MQ_no h7' (by assumption))
  refine ⟨pu_rest M set, 0, fun h => absurd h (by decide), ?_, fun M1 hq => ?_⟩
  · refine w_c_rest_0 hL hHo hx2 ?_
    rw [o.2.2.2.2.1]
    repeat' (first | assumption | with_reducible apply And.intro | intro _)
    all_goals try (first | omega | (exfalso; omega))
    suffices hl : ∀ (n j : Nat), (j : Int) + n = M.1 606 5 → ∀ N v3, pu_CQ M N 0 → pu_rst (pu_rf M set) (pu_rg M set) j = 1 → nb_W 55 4 [(19, 2), (0, set), (0, (j : Int)), v3] [] N (fun r1 M1 => r1 = [(0, pu_rest M set)] ∧ pu_CQ M M1 0) from hl (M.1 606 5).toNat 0 (by omega) _ _ ((pu_CQ_g hL).tr) rfl
    intro n
    induction n with
    | zero =>
      intro j hj N v3 q hs
      have o := (q.ho hHo hr hh).1
      refine w_c_rest_4 q.1 hHo (q.x2 hx2) (by omega) ?_
      rw [o.2.2.2.2.1]
      refine ⟨by omega, by omega, fun z => absurd z (by omega), fun _ _ => ⟨?_, q⟩⟩
      unfold pu_rest
      rw [show (M.1 606 5).toNat = j by omega, hs]
    | succ n ih =>
      intro j hj N v3 q hs
      have o := (q.ho hHo hr hh).1
      refine w_c_rest_4 q.1 hHo (q.x2 hx2) (by omega) ?_
      rw [o.2.2.2.2.1]
      refine ⟨by omega, by omega, fun _ => ?_, fun z => absurd z (by omega)⟩
      refine nb_W.imp (sp_c_liarsQ hI q) ?_
      rintro r' N1 ⟨rfl, q1, e8, S1, -⟩
      refine ⟨rfl, q1.1, q1.x2 hx2, nb_Wp (sp_c_waitOfQ hI q1 e8 S1 (by omega)) ⟨pu_rf M set j, rfl, q1.1, q1.x2 hx2, ?_⟩⟩
      refine nb_W.imp (sp_c_liarsQ hI q1) ?_
      rintro r' N2 ⟨rfl, q2, e8', S2, -⟩
      refine ⟨rfl, q2.1, q2.x2 hx2, nb_Wp (sp_c_waitOfQ hI q2 e8' S2 (by omega)) ⟨pu_rg M set j, rfl, q2.1, q2.x2 hx2, fun e _ => ⟨?_, q2⟩, fun e => ?_⟩⟩
      · unfold pu_rest
        rw [pu_rst_lt e (by omega)]
      · exact ih (j + 1) (by omega) N2 _ q2 (pu_rst_ge e hs)
  · obtain ⟨b3, b6, b8, b9, b12, b13, h7', c1, c2, c3⟩ := pu_CQ_ref hI hq
    obtain ⟨f0, f1, f2, f3⟩ := pu_RH_of hI hq
    have er := pu_rest_CQ hI hq set
    have h01 : pu_rest M set = 0 ∨ pu_rest M set = 1 := pu_rst_01 _
    refine w_m_rest_0 hq.1 ?_
    rw [b3, b6]
    repeat' (first | assumption | with_reducible apply And.intro | intro _)
    all_goals try (first | omega | (exfalso; omega))
    refine nb_W.imp (sp_m_isAtRestQ f0 f1 f2 f3 (pu_MM_g hq.1)) ?_
    rintro r' N ⟨rfl, q⟩
    rw [er]
    refine ⟨_, rfl, q.1, fun e _ => ⟨?_, q.mq h7'⟩, fun e _ => ⟨?_, q.mq h7'⟩⟩
    · rw [e]
    · rw [show pu_rest M set = 1 by omega]
/-! rests -/
def pu_rsc (M : nb_M) : Nat → Int
  | 0 => 0
  | n + 1 => pu_rsc M n + (if pu_rest M n = 0 then 0 else 1)
theorem pu_rsc_rg {M : nb_M} : ∀ n : Nat, 0 ≤ pu_rsc M n ∧ pu_rsc M n ≤ n
  | 0 => by unfold pu_rsc; omega
  | n + 1 => by
    have := pu_rsc_rg (M := M) n
    unfold pu_rsc
    split <;> omega
theorem pu_St.far {M N N' : nb_M} {ns : Int} {cr pe R : Int → Int} (h : pu_St M N ns cr pe R) (hnp : M.1 606 5 ≤ 10) (hns : ns ≤ 4) (e : ∀ a, 106 ≤ a → a < 128 → N'.1 a = N.1 a) : pu_St M N' ns cr pe R := by
  refine ⟨pu_S_take h.2.2.1.2.2.2.1.2 h.1 (fun j _ _ => by rw [e _ (by omega) (by omega)]) (fun k _ _ => by rw [e _ (by omega) (by omega)]) (fun p j _ _ _ _ => by rw [e _ (by omega) (by omega)]) (fun s j _ _ _ _ => by rw [e _ (by omega) (by omega)]) (fun s j _ _ _ _ => by rw [e _ (by omega) (by omega)]), pu_X_take h.2.1 (fun p j _ _ _ _ => by rw [e _ (by omega) (by omega)]), h.2.2⟩
theorem pu_CQ.cellw {M N : nb_M} {tr a i v : Int} (h : pu_CQ M N tr) (ha : (133 ≤ a ∧ a < 141) ∨ (145 ≤ a ∧ a < 273)) : pu_CQ M (nb_wr N a i v) tr := by
  obtain ⟨h1, h2, h3, h4⟩ := h
  refine ⟨h1.wr (fun w => nb_nnum2 (by omega)), h2, ?_, fun b j p q => ?_⟩
  · rw [nb_wr_1, if_neg (by omega)]; exact h3
  · rw [nb_wr_1, if_neg (by omega)]; exact h4 b j p q
/-- the table: what each waits by each set -/
def pu_tab (M N : nb_M) (s : Int) : Prop := ∀ (t p : Nat), (t : Int) < s → (p : Int) < M.1 606 5 → N.1 (145 + t) p = pu_hw M t p
theorem sp_c_nobodyQ {M N : nb_M} {k : Int} {s : Nat} {v2 : nb_V} (h : pu_I M k) (h7 : M.1 606 5 ≤ 7) (hs : (s : Int) < nb_shl 1 (M.1 606 5)) (q : pu_CQ M N 0) (ht : pu_tab M N (nb_shl 1 (M.1 606 5))) : nb_W 57 0 [(19, 2), (0, (s : Int)), v2] [] N (fun r' N' => r' = [(0, pu_rest M s)] ∧ N' = N) := by
  obtain ⟨Ho, hHo, hx2, hx3, hh, hSn, hT, h14, -, hL⟩ := pu_I_at h
  have hr := hT.1
  have n5 := hr.2.2.2.2.2.2.1
  have o := (q.ho hHo hr hh).1
  obtain ⟨m, hm⟩ : ∃ m : Nat, M.1 606 5 = m := ⟨(M.1 606 5).toNat, by omega⟩
  have hp7 := pu_pow7 m (by omega)
  rw [← hm] at hp7
  refine w_c_nobodyGains_0 q.1 hHo (q.x2 hx2) ?_
  suffices hl : ∀ (n j : Nat), (j : Int) + n = M.1 606 5 → pu_rst (pu_rf M s) (pu_rg M s) j = 1 → nb_W 57 1 [(19, 2), (0, (s : Int)), (0, (j : Int))] [] N (fun r' N' => r' = [(0, pu_rest M s)] ∧ N' = N) from hl (M.1 606 5).toNat 0 (by omega) rfl
  intro n
  induction n with
  | zero =>
    intro j hj hs1
    refine w_c_nobodyGains_1 q.1 hHo (q.x2 hx2) (by omega) (by omega) ?_
    rw [o.2.2.2.2.1]
    refine ⟨by omega, by omega, fun z => absurd z (by omega), fun _ _ => ⟨?_, rfl⟩⟩
    unfold pu_rest
    rw [show (M.1 606 5).toNat = j by omega, hs1]
  | succ n ih =>
    intro j hj hs1
    have hx := pu_xor7 m (by omega) s (by omega) (by rw [← hm]; exact hs) j (by omega)
    rw [← hm] at hx
    have e1 : N.1 (145 + (s : Int)) j = pu_rf M s j := ht s j hs (by omega)
    have e2 : N.1 (145 + nb_xor s (nb_shl 1 j)) j = pu_rg M s j := by
      obtain ⟨x, hx'⟩ : ∃ x : Nat, nb_xor s (nb_shl 1 j) = x := ⟨(nb_xor s (nb_shl 1 j)).toNat, by omega⟩
      unfold pu_rg
      rw [hx']
      exact ht x j (by omega) (by omega)
    refine w_c_nobodyGains_1 q.1 hHo (q.x2 hx2) (by omega) (by omega) ?_
    rw [o.2.2.2.2.1, e1, e2]
    refine ⟨by omega, by omega, fun _ => ⟨by omega, by omega, by omega, by omega, fun d _ => ⟨?_, rfl⟩, fun d => ih (j + 1) (by omega) (pu_rst_ge d hs1)⟩, fun z => absurd z (by omega)⟩
    unfold pu_rest
    rw [pu_rst_lt d (by omega)]
theorem sp_c_rests_19 {M : nb_M} {k : Int} (h : pu_I M k) (h7 : M.1 606 5 ≤ 7) : ∀ (n s : Nat), (s : Int) + n = nb_shl 1 (M.1 606 5) → ∀ N v3, pu_CQ M N 0 → pu_tab M N (nb_shl 1 (M.1 606 5)) → nb_W 56 19 [(19, 2), (0, pu_rsc M s), (0, (s : Int)), v3] [] N (fun r' N' => r' = [(0, pu_rsc M (nb_shl 1 (M.1 606 5)).toNat)] ∧ pu_CQ M N' 0) := by
  obtain ⟨Ho, hHo, hx2, hx3, hh, hSn, hT, h14, -, hL⟩ := pu_I_at h
  have hr := hT.1
  have n5 := hr.2.2.2.2.2.2.1
  obtain ⟨m, hm⟩ : ∃ m : Nat, M.1 606 5 = m := ⟨(M.1 606 5).toNat, by omega⟩
  have hp7 := pu_pow7 m (by omega)
  rw [← hm] at hp7
  intro n
  induction n with
  | zero =>
    intro s hs N v3 q ht
    have o := (q.ho hHo hr hh).1
    have hc := pu_rsc_rg (M := M) s
    refine w_c_rests_19 q.1 hHo (q.x2 hx2) (by omega) (by omega) ?_
    rw [o.2.2.2.2.1]
    refine ⟨by omega, by omega, fun z => absurd z (by omega), fun _ _ => ⟨?_, q⟩⟩
    rw [show (nb_shl 1 (M.1 606 5)).toNat = s by omega]
  | succ n ih =>
    intro s hs N v3 q ht
    have o := (q.ho hHo hr hh).1
    have hc := pu_rsc_rg (M := M) s
    have ih := ih (s + 1) (by omega) N v3 q ht
    have e : pu_rsc M (s + 1) = pu_rsc M s + (if pu_rest M s = 0 then 0 else 1) := rfl
    rw [e] at ih
    refine w_c_rests_19 q.1 hHo (q.x2 hx2) (by omega) (by omega) ?_
    rw [o.2.2.2.2.1]
    refine ⟨by omega, by omega, fun _ => ?_, fun z => absurd z (by omega)⟩
    refine nb_W.imp (sp_c_nobodyQ h h7 (by omega) q ht) ?_
    rintro r' N' ⟨rfl, rfl⟩
    refine ⟨_, rfl, q.1, q.x2 hx2, fun z => ?_, fun z => ?_⟩
    · rw [if_pos z, Int.add_zero] at ih
      exact ih
    · rw [if_neg z] at ih
      exact ih
theorem sp_c_rests_10 {M : nb_M} {k : Int} (h : pu_I M k) (h7 : M.1 606 5 ≤ 7) (h1 : 1 ≤ M.1 606 5) : ∀ (n s : Nat), (s : Int) + n = nb_shl 1 (M.1 606 5) → ∀ N v2 v3, pu_CQ M N 0 → pu_tab M N s → nb_W 56 10 [(19, 2), (0, (s : Int)), v2, v3] [] N (fun r' N' => r' = [(0, pu_rsc M (nb_shl 1 (M.1 606 5)).toNat)] ∧ pu_CQ M N' 0) := by
  obtain ⟨Ho, hHo, hx2, hx3, hh, hSn, hT, h14, -, hL⟩ := pu_I_at h
  have hr := hT.1
  have n5 := hr.2.2.2.2.2.2.1
  have n4 := hr.2.2.2.2.2.1
  obtain ⟨m, hm⟩ : ∃ m : Nat, M.1 606 5 = m := ⟨(M.1 606 5).toNat, by omega⟩
  have hp7 := pu_pow7 m (by omega)
  rw [← hm] at hp7
  intro n
  induction n with
  | zero =>
    intro s hs N v2 v3 q ht
    have o := (q.ho hHo hr hh).1
    refine w_c_rests_10 q.1 hHo (q.x2 hx2) (by omega) ?_
    rw [o.2.2.2.2.1]
    refine ⟨by omega, by omega, fun z => absurd z (by omega), fun _ => ?_⟩
    exact sp_c_rests_19 h h7 (nb_shl 1 (M.1 606 5)).toNat 0 (by omega) N v3 q (fun t p a b => ht t p (by omega) b)
  | succ n ih =>
    intro s hs N v2 v3 q ht
    have o := (q.ho hHo hr hh).1
    refine w_c_rests_10 q.1 hHo (q.x2 hx2) (by omega) ?_
    rw [o.2.2.2.2.1]
    refine ⟨by omega, by omega, fun _ => ?_, fun z => absurd z (by omega)⟩
    refine nb_W.imp (sp_c_liarsQ h q) ?_
    rintro r' N1 ⟨rfl, q1, e8, S1, f1⟩
    refine ⟨rfl, q1.1, q1.x2 hx2, ?_⟩
    have ht1 : pu_tab M N1 s := fun t p a b => by rw [f1 _ _ (by omega)]; exact ht t p a b
    suffices hl : ∀ (n j : Nat), (j : Int) + n = M.1 606 5 → ∀ N1, pu_CQ M N1 0 → N1.1 106 8 = M.1 606 2 → pu_St M N1 (M.1 606 4) (pu_cra M) (pu_pes M s) (pu_evh M s) → pu_tab M N1 s → (∀ p : Nat, p < j → N1.1 (145 + (s : Int)) p = pu_hw M s p) → nb_W 56 13 [(19, 2), (0, (s : Int)), (15, 106), (0, (j : Int))] [] N1 (fun r' N' => r' = [(0, pu_rsc M (nb_shl 1 (M.1 606 5)).toNat)] ∧ pu_CQ M N' 0) from hl (M.1 606 5).toNat 0 (by omega) N1 q1 e8 S1 ht1 (fun p hp => absurd hp (by omega))
    clear ht1 S1 f1 e8 q1 N1
    intro n'
    induction n' with
    | zero =>
      intro j hj N1 q1 e8 S1 ht1 hw
      have o := (q1.ho hHo hr hh).1
      refine w_c_rests_13 q1.1 hHo (q1.x2 hx2) (by omega) (by omega) ?_
      rw [o.2.2.2.2.1]
      refine ⟨by omega, by omega, fun z => absurd z (by omega), fun _ => ?_⟩
      exact ih (s + 1) (by omega) N1 _ _ q1 (fun t p a b => by
        by_cases e : t = s
        · subst e
          exact hw p (by omega)
        · exact ht1 t p (by omega) b)
    | succ n' ih2 =>
      intro j hj N1 q1 e8 S1 ht1 hw
      have o := (q1.ho hHo hr hh).1
      refine w_c_rests_13 q1.1 hHo (q1.x2 hx2) (by omega) (by omega) ?_
      rw [o.2.2.2.2.1]
      refine ⟨by omega, by omega, fun _ => ?_, fun z => absurd z (by omega)⟩
      refine nb_Wp (sp_c_waitOfQ h q1 e8 S1 (by omega)) ⟨_, rfl, q1.1, q1.x2 hx2, by omega, by omega, ?_⟩
      refine ih2 (j + 1) (by omega) _ (q1.cellw (by omega)) ?_ (S1.far n5.2 (by omega) (fun a x y => nb_wr_b (by omega))) (fun t p a b => ?_) (fun p hp => ?_)
      · rw [nb_wr_b (by omega)]; exact e8
      · rw [nb_wr_b (by omega)]; exact ht1 t p a b
      · by_cases e : p = j
        · subst e
          rw [nb_wr_1, if_pos ⟨rfl, rfl⟩]
        · rw [nb_wr_1, if_neg (by omega)]
          exact hw p (by omega)
theorem pa_rests : pu_pair 56 [(19, 2), (98, 0), (98, 0), (98, 0)] 183 [(20, 603), (98, 0), (98, 0)] := by
  apply pu_pair_q
  intro M k hI hk0 hk1
  obtain ⟨Ho, hHo, hx2, hx3, hh, hSn, hT, -, h7, hL⟩ := pu_I_at hI
  have hr := hT.1
  have n5 := hr.2.2.2.2.2.2.1
  have h14 := pu_house hI
  have o := hh.1
  by_cases c : M.1 606 5 = 0
  case pos =>
    refine ⟨-1, 1, fun h => absurd h (by decide), ?_, fun M1 hq => ?_⟩
    · refine w_c_rests_0 hL hHo hx2 ?_
      rw [o.2.2.2.2.1]
      exact ⟨by omega, by omega, fun z => absurd z (by omega), fun _ _ => ⟨rfl, pu_CQ_g hL⟩⟩
    · obtain ⟨b3, b6, b8, b9, b12, b13, h7', -⟩ := pu_CQ_ref hI hq
      refine w_m_rests_0 hq.1 ?_
      rw [b3, b6]
      exact ⟨by omega, by omega, fun _ hL' => ⟨rfl, pu_MQ_no h7' hL'⟩, fun z => absurd z (by omega)⟩
  by_cases d : M.1 606 5 ≤ 7
  case neg =>
    refine ⟨-1, 3, fun h => absurd h (by decide), ?_, fun M1 hq => ?_⟩
    · refine w_c_rests_0 hL hHo hx2 ?_
      rw [o.2.2.2.2.1]
      exact ⟨by omega, by omega, fun _ => ⟨fun _ _ => ⟨rfl, (pu_CQ_g hL).tr⟩, fun z => absurd z (by omega)⟩, fun z => absurd z (by omega)⟩
    · obtain ⟨b3, b6, b8, b9, b12, b13, h7', -⟩ := pu_CQ_ref hI hq
      refine w_m_rests_0 hq.1 ?_
      rw [b3, b6]
      exact ⟨by omega, by omega, fun z => absurd z (by omega), fun _ => ⟨by omega, by omega, fun _ hL' => ⟨rfl, pu_MQ_no h7' hL'⟩, fun z => absurd z (by omega)⟩⟩
  obtain ⟨m, hm⟩ : ∃ m : Nat, M.1 606 5 = m := ⟨(M.1 606 5).toNat, by omega⟩
  have hp7 := pu_pow7 m (by omega)
  rw [← hm] at hp7
  refine ⟨pu_rsc M (nb_shl 1 (M.1 606 5)).toNat, 0, fun h => absurd h (by decide), ?_, fun M1 hq => ?_⟩
  · refine w_c_rests_0 hL hHo hx2 ?_
    rw [o.2.2.2.2.1]
    exact ⟨by omega, by omega, fun _ => ⟨fun z => absurd z (by omega), fun _ => sp_c_rests_10 hI d (by omega) (nb_shl 1 (M.1 606 5)).toNat 0 (by omega) _ _ _ ((pu_CQ_g hL).tr) (fun t p a b => absurd a (by omega))⟩, fun z => absurd z (by omega)⟩
  · obtain ⟨b3, b6, b8, b9, b12, b13, h7', c1, c2, c3⟩ := pu_CQ_ref hI hq
    obtain ⟨f0, f1, f2, f3⟩ := pu_RH_of hI hq
    have er := pu_rest_CQ hI hq
    refine w_m_rests_0 hq.1 ?_
    rw [b3, b6]
    refine ⟨by omega, by omega, fun z => absurd z (by omega), fun _ => ⟨by omega, by omega, fun z => absurd z (by omega), fun _ => ?_⟩⟩
    suffices hl : ∀ (n s : Nat), (s : Int) + n = nb_shl 1 (M.1 606 5) → ∀ N, pu_MM M1 N (M1.1 608) (M1.1 612) → nb_W 183 8 [(20, 603), (0, pu_rsc M s), (0, (s : Int))] [] N (fun r2 M2 => r2 = [(0, pu_rsc M (nb_shl 1 (M.1 606 5)).toNat)] ∧ pu_MQ M1 M2 0) from hl (nb_shl 1 (M.1 606 5)).toNat 0 (by omega) _ (pu_MM_g hq.1)
    intro n
    induction n with
    | zero =>
      intro s hs N q
      have hc := pu_rsc_rg (M := M) s
      refine w_m_rests_8 q.1 (by omega) (by omega) ?_
      rw [q.r, b6]
      refine ⟨by omega, by omega, by omega, by omega, fun _ _ => ⟨?_, q.mq h7'⟩, fun z => absurd z (by omega)⟩
      rw [show (nb_shl 1 (M.1 606 5)).toNat = s by omega]
    | succ n ih =>
      intro s hs N q
      have hc := pu_rsc_rg (M := M) s
      refine w_m_rests_8 q.1 (by omega) (by omega) ?_
      rw [q.r, b6]
      refine ⟨by omega, by omega, by omega, by omega, fun z => absurd z (by omega), fun _ => ?_⟩
      refine nb_W.imp (sp_m_isAtRestQ f0 f1 f2 f3 q) ?_
      rintro r' N' ⟨rfl, q'⟩
      have ih := ih (s + 1) (by omega) N' q'
      have e : pu_rsc M (s + 1) = pu_rsc M s + (if pu_rest M s = 0 then 0 else 1) := rfl
      rw [e] at ih
      rw [er]
      refine ⟨_, rfl, q'.1, fun z => ?_, fun z => ?_⟩
      · rw [if_pos z, Int.add_zero] at ih
        exact ih
      · rw [if_neg z] at ih
        exact ih
