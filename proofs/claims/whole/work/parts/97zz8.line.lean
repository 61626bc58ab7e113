/-! A LINE, both -/
variable {So n d s p : Int} {tx : Int → Int} {cnt j : Nat} {E : Nat → Int} {M N : nb_M}
theorem nv_2 {l2 : Int} {N0 N1 : nb_M} (WN : nb_Lay N) (r3 : 0 ≤ N.1 607 3 ∧ N.1 607 3 ≤ 5) (r4 : 0 ≤ N.1 607 4 ∧ N.1 607 4 ≤ 3) (r5 : 0 ≤ N.1 607 5 ∧ N.1 607 5 ≤ 10) (r7 : 0 ≤ N.1 607 7 ∧ N.1 607 7 ≤ 8) (i1 : nb_R nb_P 93 0 [(20, 603), (2, 1), (98, 0), (98, 0)] [] N = some ([(0, 0)], N)) (hl : (l2 = 1 ∧ N.1 607 3 < 5) ∨ (l2 = 0 ∧ ¬ N.1 607 3 < 5)) (hb : nb_R nb_P 106 0 [(20, 603), (2, 2), (0, l2)] [] N = some ([(0, 1)], N0)) (W0 : nb_Lay N0) (hn : nb_R nb_P 109 0 [(20, 603), (98, 0)] [] N0 = some ([], N1)) (W1 : nb_Lay N1) : nb_R nb_P 107 0 [(20, 603)] [] N = some ([], N1) := by
  rcases hl with ⟨e, c⟩ | ⟨e, c⟩
  · subst e
    exact nb_Wq (w_m_readLine_0 WN (nb_Wp i1 ⟨0, rfl, WN, fun _ => w_m_readLine_4 WN ⟨r3.1, r3.2, fun _ => nb_Wp hb ⟨1, rfl, W0, fun z => absurd z (by decide), fun _ => nb_Wp hn ⟨rfl, W1, fun _ => ⟨rfl, rfl⟩⟩⟩, fun z => absurd z (by omega)⟩, fun z => absurd rfl z⟩))
  · subst e
    exact nb_Wq (w_m_readLine_0 WN (nb_Wp i1 ⟨0, rfl, WN, fun _ => w_m_readLine_4 WN ⟨r3.1, r3.2, fun z => absurd z (by omega), fun _ => nb_Wp hb ⟨1, rfl, W0, fun z => absurd z (by decide), fun _ => nb_Wp hn ⟨rfl, W1, fun _ => ⟨rfl, rfl⟩⟩⟩⟩, fun z => absurd rfl z⟩))
theorem nv_3 {l2 : Int} {N0 N1 : nb_M} (WN : nb_Lay N) (r3 : 0 ≤ N.1 607 3 ∧ N.1 607 3 ≤ 5) (r4 : 0 ≤ N.1 607 4 ∧ N.1 607 4 ≤ 3) (r5 : 0 ≤ N.1 607 5 ∧ N.1 607 5 ≤ 10) (r7 : 0 ≤ N.1 607 7 ∧ N.1 607 7 ≤ 8) (i1 : nb_R nb_P 93 0 [(20, 603), (2, 1), (98, 0), (98, 0)] [] N = some ([(0, 0)], N)) (i2 : nb_R nb_P 93 0 [(20, 603), (2, 2), (98, 0), (98, 0)] [] N = some ([(0, 0)], N)) (hl : (l2 = 1 ∧ N.1 607 4 < 3) ∨ (l2 = 0 ∧ ¬ N.1 607 4 < 3)) (hb : nb_R nb_P 106 0 [(20, 603), (2, 3), (0, l2)] [] N = some ([(0, 1)], N0)) (W0 : nb_Lay N0) (hn : nb_R nb_P 110 0 [(20, 603), (98, 0), (98, 0)] [] N0 = some ([], N1)) (W1 : nb_Lay N1) : nb_R nb_P 107 0 [(20, 603)] [] N = some ([], N1) := by
  rcases hl with ⟨e, c⟩ | ⟨e, c⟩
  · subst e
    exact nb_Wq (w_m_readLine_0 WN (nb_Wp i1 ⟨0, rfl, WN, fun _ => (have K2 := w_m_readLine_11 WN ⟨r4.1, r4.2, fun _ => nb_Wp hb ⟨1, rfl, W0, fun z => absurd z (by decide), fun _ => nb_Wp hn ⟨rfl, W1, fun _ => ⟨rfl, rfl⟩⟩⟩, fun z => absurd z (by omega)⟩; w_m_readLine_4 WN ⟨r3.1, r3.2, fun _ => nb_Wp (rl_beginNo (kr := 2) (l2 := 1) WN i2) ⟨0, rfl, WN, fun _ => K2, fun z => absurd rfl z⟩, fun _ => nb_Wp (rl_beginNo (kr := 2) (l2 := 0) WN i2) ⟨0, rfl, WN, fun _ => K2, fun z => absurd rfl z⟩⟩), fun z => absurd rfl z⟩))
  · subst e
    exact nb_Wq (w_m_readLine_0 WN (nb_Wp i1 ⟨0, rfl, WN, fun _ => (have K2 := w_m_readLine_11 WN ⟨r4.1, r4.2, fun z => absurd z (by omega), fun _ => nb_Wp hb ⟨1, rfl, W0, fun z => absurd z (by decide), fun _ => nb_Wp hn ⟨rfl, W1, fun _ => ⟨rfl, rfl⟩⟩⟩⟩; w_m_readLine_4 WN ⟨r3.1, r3.2, fun _ => nb_Wp (rl_beginNo (kr := 2) (l2 := 1) WN i2) ⟨0, rfl, WN, fun _ => K2, fun z => absurd rfl z⟩, fun _ => nb_Wp (rl_beginNo (kr := 2) (l2 := 0) WN i2) ⟨0, rfl, WN, fun _ => K2, fun z => absurd rfl z⟩⟩), fun z => absurd rfl z⟩))
theorem nv_4 {l2 : Int} {N0 N1 : nb_M} (WN : nb_Lay N) (r3 : 0 ≤ N.1 607 3 ∧ N.1 607 3 ≤ 5) (r4 : 0 ≤ N.1 607 4 ∧ N.1 607 4 ≤ 3) (r5 : 0 ≤ N.1 607 5 ∧ N.1 607 5 ≤ 10) (r7 : 0 ≤ N.1 607 7 ∧ N.1 607 7 ≤ 8) (i1 : nb_R nb_P 93 0 [(20, 603), (2, 1), (98, 0), (98, 0)] [] N = some ([(0, 0)], N)) (i2 : nb_R nb_P 93 0 [(20, 603), (2, 2), (98, 0), (98, 0)] [] N = some ([(0, 0)], N)) (i3 : nb_R nb_P 93 0 [(20, 603), (2, 3), (98, 0), (98, 0)] [] N = some ([(0, 0)], N)) (hl : (l2 = 1 ∧ N.1 607 5 < 10) ∨ (l2 = 0 ∧ ¬ N.1 607 5 < 10)) (hb : nb_R nb_P 106 0 [(20, 603), (2, 4), (0, l2)] [] N = some ([(0, 1)], N0)) (W0 : nb_Lay N0) (hn : nb_R nb_P 111 0 [(20, 603), (98, 0), (98, 0), (98, 0), (98, 0), (98, 0), (98, 0)] [] N0 = some ([], N1)) (W1 : nb_Lay N1) : nb_R nb_P 107 0 [(20, 603)] [] N = some ([], N1) := by
  rcases hl with ⟨e, c⟩ | ⟨e, c⟩
  · subst e
    exact nb_Wq (w_m_readLine_0 WN (nb_Wp i1 ⟨0, rfl, WN, fun _ => (have K2 := (have K3 := w_m_readLine_18 WN ⟨r5.1, r5.2, fun _ => nb_Wp hb ⟨1, rfl, W0, fun z => absurd z (by decide), fun _ => nb_Wp hn ⟨rfl, W1, fun _ => ⟨rfl, rfl⟩⟩⟩, fun z => absurd z (by omega)⟩; w_m_readLine_11 WN ⟨r4.1, r4.2, fun _ => nb_Wp (rl_beginNo (kr := 3) (l2 := 1) WN i3) ⟨0, rfl, WN, fun _ => K3, fun z => absurd rfl z⟩, fun _ => nb_Wp (rl_beginNo (kr := 3) (l2 := 0) WN i3) ⟨0, rfl, WN, fun _ => K3, fun z => absurd rfl z⟩⟩); w_m_readLine_4 WN ⟨r3.1, r3.2, fun _ => nb_Wp (rl_beginNo (kr := 2) (l2 := 1) WN i2) ⟨0, rfl, WN, fun _ => K2, fun z => absurd rfl z⟩, fun _ => nb_Wp (rl_beginNo (kr := 2) (l2 := 0) WN i2) ⟨0, rfl, WN, fun _ => K2, fun z => absurd rfl z⟩⟩), fun z => absurd rfl z⟩))
  · subst e
    exact nb_Wq (w_m_readLine_0 WN (nb_Wp i1 ⟨0, rfl, WN, fun _ => (have K2 := (have K3 := w_m_readLine_18 WN ⟨r5.1, r5.2, fun z => absurd z (by omega), fun _ => nb_Wp hb ⟨1, rfl, W0, fun z => absurd z (by decide), fun _ => nb_Wp hn ⟨rfl, W1, fun _ => ⟨rfl, rfl⟩⟩⟩⟩; w_m_readLine_11 WN ⟨r4.1, r4.2, fun _ => nb_Wp (rl_beginNo (kr := 3) (l2 := 1) WN i3) ⟨0, rfl, WN, fun _ => K3, fun z => absurd rfl z⟩, fun _ => nb_Wp (rl_beginNo (kr := 3) (l2 := 0) WN i3) ⟨0, rfl, WN, fun _ => K3, fun z => absurd rfl z⟩⟩); w_m_readLine_4 WN ⟨r3.1, r3.2, fun _ => nb_Wp (rl_beginNo (kr := 2) (l2 := 1) WN i2) ⟨0, rfl, WN, fun _ => K2, fun z => absurd rfl z⟩, fun _ => nb_Wp (rl_beginNo (kr := 2) (l2 := 0) WN i2) ⟨0, rfl, WN, fun _ => K2, fun z => absurd rfl z⟩⟩), fun z => absurd rfl z⟩))
theorem nv_5 {N0 N1 : nb_M} (WN : nb_Lay N) (r3 : 0 ≤ N.1 607 3 ∧ N.1 607 3 ≤ 5) (r4 : 0 ≤ N.1 607 4 ∧ N.1 607 4 ≤ 3) (r5 : 0 ≤ N.1 607 5 ∧ N.1 607 5 ≤ 10) (r7 : 0 ≤ N.1 607 7 ∧ N.1 607 7 ≤ 8) (i1 : nb_R nb_P 93 0 [(20, 603), (2, 1), (98, 0), (98, 0)] [] N = some ([(0, 0)], N)) (i2 : nb_R nb_P 93 0 [(20, 603), (2, 2), (98, 0), (98, 0)] [] N = some ([(0, 0)], N)) (i3 : nb_R nb_P 93 0 [(20, 603), (2, 3), (98, 0), (98, 0)] [] N = some ([(0, 0)], N)) (i4 : nb_R nb_P 93 0 [(20, 603), (2, 4), (98, 0), (98, 0)] [] N = some ([(0, 0)], N)) (hb : nb_R nb_P 106 0 [(20, 603), (2, 5), (0, 1)] [] N = some ([(0, 1)], N0)) (W0 : nb_Lay N0) (hn : nb_R nb_P 112 0 [(20, 603), (98, 0), (98, 0)] [] N0 = some ([], N1)) (W1 : nb_Lay N1) : nb_R nb_P 107 0 [(20, 603)] [] N = some ([], N1) := nb_Wq (w_m_readLine_0 WN (nb_Wp i1 ⟨0, rfl, WN, fun _ => (have K2 := (have K3 := (have K4 := w_m_readLine_25 WN (nb_Wp hb ⟨1, rfl, W0, fun z => absurd z (by decide), fun _ => nb_Wp hn ⟨rfl, W1, fun _ => ⟨rfl, rfl⟩⟩⟩); w_m_readLine_18 WN ⟨r5.1, r5.2, fun _ => nb_Wp (rl_beginNo (kr := 4) (l2 := 1) WN i4) ⟨0, rfl, WN, fun _ => K4, fun z => absurd rfl z⟩, fun _ => nb_Wp (rl_beginNo (kr := 4) (l2 := 0) WN i4) ⟨0, rfl, WN, fun _ => K4, fun z => absurd rfl z⟩⟩); w_m_readLine_11 WN ⟨r4.1, r4.2, fun _ => nb_Wp (rl_beginNo (kr := 3) (l2 := 1) WN i3) ⟨0, rfl, WN, fun _ => K3, fun z => absurd rfl z⟩, fun _ => nb_Wp (rl_beginNo (kr := 3) (l2 := 0) WN i3) ⟨0, rfl, WN, fun _ => K3, fun z => absurd rfl z⟩⟩); w_m_readLine_4 WN ⟨r3.1, r3.2, fun _ => nb_Wp (rl_beginNo (kr := 2) (l2 := 1) WN i2) ⟨0, rfl, WN, fun _ => K2, fun z => absurd rfl z⟩, fun _ => nb_Wp (rl_beginNo (kr := 2) (l2 := 0) WN i2) ⟨0, rfl, WN, fun _ => K2, fun z => absurd rfl z⟩⟩), fun z => absurd rfl z⟩))
theorem nv_6 {l2 : Int} {N0 N1 : nb_M} (WN : nb_Lay N) (r3 : 0 ≤ N.1 607 3 ∧ N.1 607 3 ≤ 5) (r4 : 0 ≤ N.1 607 4 ∧ N.1 607 4 ≤ 3) (r5 : 0 ≤ N.1 607 5 ∧ N.1 607 5 ≤ 10) (r7 : 0 ≤ N.1 607 7 ∧ N.1 607 7 ≤ 8) (i1 : nb_R nb_P 93 0 [(20, 603), (2, 1), (98, 0), (98, 0)] [] N = some ([(0, 0)], N)) (i2 : nb_R nb_P 93 0 [(20, 603), (2, 2), (98, 0), (98, 0)] [] N = some ([(0, 0)], N)) (i3 : nb_R nb_P 93 0 [(20, 603), (2, 3), (98, 0), (98, 0)] [] N = some ([(0, 0)], N)) (i4 : nb_R nb_P 93 0 [(20, 603), (2, 4), (98, 0), (98, 0)] [] N = some ([(0, 0)], N)) (i5 : nb_R nb_P 93 0 [(20, 603), (2, 5), (98, 0), (98, 0)] [] N = some ([(0, 0)], N)) (hl : (l2 = 1 ∧ N.1 607 7 < 8) ∨ (l2 = 0 ∧ ¬ N.1 607 7 < 8)) (hb : nb_R nb_P 106 0 [(20, 603), (2, 6), (0, l2)] [] N = some ([(0, 1)], N0)) (W0 : nb_Lay N0) (hn : nb_R nb_P 113 0 [(20, 603), (98, 0), (98, 0)] [] N0 = some ([], N1)) (W1 : nb_Lay N1) : nb_R nb_P 107 0 [(20, 603)] [] N = some ([], N1) := by
  rcases hl with ⟨e, c⟩ | ⟨e, c⟩
  · subst e
    exact nb_Wq (w_m_readLine_0 WN (nb_Wp i1 ⟨0, rfl, WN, fun _ => (have K2 := (have K3 := (have K4 := w_m_readLine_25 WN (nb_Wp (rl_beginNo (kr := 5) (l2 := 1) WN i5) ⟨0, rfl, WN, fun _ => w_m_readLine_29 WN ⟨r7.1, r7.2, fun _ => nb_Wp hb ⟨1, rfl, W0, fun z => absurd z (by decide), fun _ => nb_Wp hn ⟨rfl, W1, fun _ => ⟨rfl, rfl⟩⟩⟩, fun z => absurd z (by omega)⟩, fun z => absurd rfl z⟩); w_m_readLine_18 WN ⟨r5.1, r5.2, fun _ => nb_Wp (rl_beginNo (kr := 4) (l2 := 1) WN i4) ⟨0, rfl, WN, fun _ => K4, fun z => absurd rfl z⟩, fun _ => nb_Wp (rl_beginNo (kr := 4) (l2 := 0) WN i4) ⟨0, rfl, WN, fun _ => K4, fun z => absurd rfl z⟩⟩); w_m_readLine_11 WN ⟨r4.1, r4.2, fun _ => nb_Wp (rl_beginNo (kr := 3) (l2 := 1) WN i3) ⟨0, rfl, WN, fun _ => K3, fun z => absurd rfl z⟩, fun _ => nb_Wp (rl_beginNo (kr := 3) (l2 := 0) WN i3) ⟨0, rfl, WN, fun _ => K3, fun z => absurd rfl z⟩⟩); w_m_readLine_4 WN ⟨r3.1, r3.2, fun _ => nb_Wp (rl_beginNo (kr := 2) (l2 := 1) WN i2) ⟨0, rfl, WN, fun _ => K2, fun z => absurd rfl z⟩, fun _ => nb_Wp (rl_beginNo (kr := 2) (l2 := 0) WN i2) ⟨0, rfl, WN, fun _ => K2, fun z => absurd rfl z⟩⟩), fun z => absurd rfl z⟩))
  · subst e
    exact nb_Wq (w_m_readLine_0 WN (nb_Wp i1 ⟨0, rfl, WN, fun _ => (have K2 := (have K3 := (have K4 := w_m_readLine_25 WN (nb_Wp (rl_beginNo (kr := 5) (l2 := 1) WN i5) ⟨0, rfl, WN, fun _ => w_m_readLine_29 WN ⟨r7.1, r7.2, fun z => absurd z (by omega), fun _ => nb_Wp hb ⟨1, rfl, W0, fun z => absurd z (by decide), fun _ => nb_Wp hn ⟨rfl, W1, fun _ => ⟨rfl, rfl⟩⟩⟩⟩, fun z => absurd rfl z⟩); w_m_readLine_18 WN ⟨r5.1, r5.2, fun _ => nb_Wp (rl_beginNo (kr := 4) (l2 := 1) WN i4) ⟨0, rfl, WN, fun _ => K4, fun z => absurd rfl z⟩, fun _ => nb_Wp (rl_beginNo (kr := 4) (l2 := 0) WN i4) ⟨0, rfl, WN, fun _ => K4, fun z => absurd rfl z⟩⟩); w_m_readLine_11 WN ⟨r4.1, r4.2, fun _ => nb_Wp (rl_beginNo (kr := 3) (l2 := 1) WN i3) ⟨0, rfl, WN, fun _ => K3, fun z => absurd rfl z⟩, fun _ => nb_Wp (rl_beginNo (kr := 3) (l2 := 0) WN i3) ⟨0, rfl, WN, fun _ => K3, fun z => absurd rfl z⟩⟩); w_m_readLine_4 WN ⟨r3.1, r3.2, fun _ => nb_Wp (rl_beginNo (kr := 2) (l2 := 1) WN i2) ⟨0, rfl, WN, fun _ => K2, fun z => absurd rfl z⟩, fun _ => nb_Wp (rl_beginNo (kr := 2) (l2 := 0) WN i2) ⟨0, rfl, WN, fun _ => K2, fun z => absurd rfl z⟩⟩), fun z => absurd rfl z⟩))
theorem nv_7 {N1 : nb_M} (WN : nb_Lay N) (r3 : 0 ≤ N.1 607 3 ∧ N.1 607 3 ≤ 5) (r4 : 0 ≤ N.1 607 4 ∧ N.1 607 4 ≤ 3) (r5 : 0 ≤ N.1 607 5 ∧ N.1 607 5 ≤ 10) (r7 : 0 ≤ N.1 607 7 ∧ N.1 607 7 ≤ 8) (i1 : nb_R nb_P 93 0 [(20, 603), (2, 1), (98, 0), (98, 0)] [] N = some ([(0, 0)], N)) (i2 : nb_R nb_P 93 0 [(20, 603), (2, 2), (98, 0), (98, 0)] [] N = some ([(0, 0)], N)) (i3 : nb_R nb_P 93 0 [(20, 603), (2, 3), (98, 0), (98, 0)] [] N = some ([(0, 0)], N)) (i4 : nb_R nb_P 93 0 [(20, 603), (2, 4), (98, 0), (98, 0)] [] N = some ([(0, 0)], N)) (i5 : nb_R nb_P 93 0 [(20, 603), (2, 5), (98, 0), (98, 0)] [] N = some ([(0, 0)], N)) (i6 : nb_R nb_P 93 0 [(20, 603), (2, 6), (98, 0), (98, 0)] [] N = some ([(0, 0)], N)) (s2 : nb_R nb_P 92 0 [(20, 603), (0, 1), (0, N.1 603 4)] [] N = some ([], N1)) (s6 : nb_Lay N1 ∧ True) : nb_R nb_P 107 0 [(20, 603)] [] N = some ([], N1) := nb_Wq (w_m_readLine_0 WN (nb_Wp i1 ⟨0, rfl, WN, fun _ => (have K2 := (have K3 := (have K4 := w_m_readLine_25 WN (nb_Wp (rl_beginNo (kr := 5) (l2 := 1) WN i5) ⟨0, rfl, WN, fun _ => w_m_readLine_29 WN ⟨r7.1, r7.2, fun _ => nb_Wp (rl_beginNo (kr := 6) (l2 := 1) WN i6) ⟨0, rfl, WN, fun _ => nb_Wp s2 ⟨rfl, s6.1, fun _ => ⟨rfl, rfl⟩⟩, fun z => absurd rfl z⟩, fun _ => nb_Wp (rl_beginNo (kr := 6) (l2 := 0) WN i6) ⟨0, rfl, WN, fun _ => nb_Wp s2 ⟨rfl, s6.1, fun _ => ⟨rfl, rfl⟩⟩, fun z => absurd rfl z⟩⟩, fun z => absurd rfl z⟩); w_m_readLine_18 WN ⟨r5.1, r5.2, fun _ => nb_Wp (rl_beginNo (kr := 4) (l2 := 1) WN i4) ⟨0, rfl, WN, fun _ => K4, fun z => absurd rfl z⟩, fun _ => nb_Wp (rl_beginNo (kr := 4) (l2 := 0) WN i4) ⟨0, rfl, WN, fun _ => K4, fun z => absurd rfl z⟩⟩); w_m_readLine_11 WN ⟨r4.1, r4.2, fun _ => nb_Wp (rl_beginNo (kr := 3) (l2 := 1) WN i3) ⟨0, rfl, WN, fun _ => K3, fun z => absurd rfl z⟩, fun _ => nb_Wp (rl_beginNo (kr := 3) (l2 := 0) WN i3) ⟨0, rfl, WN, fun _ => K3, fun z => absurd rfl z⟩⟩); w_m_readLine_4 WN ⟨r3.1, r3.2, fun _ => nb_Wp (rl_beginNo (kr := 2) (l2 := 1) WN i2) ⟨0, rfl, WN, fun _ => K2, fun z => absurd rfl z⟩, fun _ => nb_Wp (rl_beginNo (kr := 2) (l2 := 0) WN i2) ⟨0, rfl, WN, fun _ => K2, fun z => absurd rfl z⟩⟩), fun z => absurd rfl z⟩))
theorem pu_eq01 {x y : Int} (a : x = 0 ∨ x = 1) (b : y = 0 ∨ y = 1) (h : x = 1 ↔ y = 1) : x = y := by omega
theorem rl_line (h : pu_RL So tx n cnt E M N j (N.1 607 3) (N.1 607 4) (N.1 607 5)) (hl : M.1 76 9 = 0) (hH : pu_HR M So (N.1 607)) (gk : ∀ a, So + 20 ≤ a → a < So + 30 → pu_gk (M.1 a)) : ∃ M1 N1, nb_R nb_P 229 0 [(13, 76)] [] M = some ([], M1) ∧ nb_R nb_P 107 0 [(20, 603)] [] N = some ([], N1) ∧ pu_LO So tx n cnt E M N M1 N1 j := by
  have h' := h
  obtain ⟨⟨W, WN, hSo, h764, -⟩, -⟩ := h'
  have H1 := hH.2.1
  have r3 := H1.2.2.2.2.2.1
  have r4 := H1.2.2.2.2.2.2.1
  have r5 := H1.2.2.2.2.2.2.2.1
  have r7 := H1.2.2.2.2.2.2.2.2.1
  have zero := H1.2.2.2.2.2.2.2.2.2
  replace zero := nb_Hw zero
  obtain ⟨i, hi, hL⟩ := h.lv hl
  have l2 := hL.2.1
  have rt := hL.2.2.2.2.2.2.2.1
  -- the six words
  have yy : ∀ k : Nat, 1 ≤ k → k ≤ 6 → ∃ y : Int, (y = 1 ↔ ((M.1 76 7 = 1 ∨ M.1 76 7 = 2) ∧ M.1 76 8 = pu_tv k)) ∧ (y = 0 ∨ y = 1) ∧ nb_R nb_P 93 0 [(20, 603), (2, (k : Int)), (98, 0), (98, 0)] [] N = some ([(0, y)], N) := fun k a b => by
    obtain ⟨y, y1, y2, y3⟩ := sp_m_isWord (v2 := (98, 0)) (v3 := (98, 0)) WN (pu_tok_at k a (by omega))
    exact ⟨y, y2.trans (pu_isw_iff rt l2 (pu_tok_at k a (by omega))), y1, y3⟩
  obtain ⟨y1, e1, b1, i1⟩ := yy 1 (by decide) (by decide)
  have t1 : pu_tv ((1 : Nat) : Int) = pu_tv 60 := by decide +kernel
  rw [t1] at e1
  replace b1 := nb_Hw b1
  obtain ⟨y2, e2, b2, i2⟩ := yy 2 (by decide) (by decide)
  have t2 : pu_tv ((2 : Nat) : Int) = pu_tv 61 := by decide +kernel
  rw [t2] at e2
  replace b2 := nb_Hw b2
  obtain ⟨y3, e3, b3, i3⟩ := yy 3 (by decide) (by decide)
  have t3 : pu_tv ((3 : Nat) : Int) = pu_tv 62 := by decide +kernel
  rw [t3] at e3
  replace b3 := nb_Hw b3
  obtain ⟨y4, e4, b4, i4⟩ := yy 4 (by decide) (by decide)
  have t4 : pu_tv ((4 : Nat) : Int) = pu_tv 63 := by decide +kernel
  rw [t4] at e4
  replace b4 := nb_Hw b4
  obtain ⟨y5, e5, b5, i5⟩ := yy 5 (by decide) (by decide)
  have t5 : pu_tv ((5 : Nat) : Int) = pu_tv 64 := by decide +kernel
  rw [t5] at e5
  replace b5 := nb_Hw b5
  obtain ⟨y6, e6, b6, i6⟩ := yy 6 (by decide) (by decide)
  have t6 : pu_tv ((6 : Nat) : Int) = pu_tv 65 := by decide +kernel
  rw [t6] at e6
  replace b6 := nb_Hw b6
  clear yy
  obtain ⟨x1, a1, c1, j1⟩ := sp_rd_stands W hSo h764 (pu_tok_at 31 (by decide) (by decide))
  have u1 : pu_tv ((31 : Nat) : Int) = pu_tv 60 := by decide +kernel
  rw [u1] at c1
  have q1 : x1 = y1 := pu_eq01 a1 (nb_Hu b1) (c1.trans e1.symm)
  clear c1 a1 u1
  subst q1
  obtain ⟨x2, a2, c2, j2⟩ := sp_rd_stands W hSo h764 (pu_tok_at 32 (by decide) (by decide))
  have u2 : pu_tv ((32 : Nat) : Int) = pu_tv 61 := by decide +kernel
  rw [u2] at c2
  have q2 : x2 = y2 := pu_eq01 a2 (nb_Hu b2) (c2.trans e2.symm)
  clear c2 a2 u2
  subst q2
  obtain ⟨x3, a3, c3, j3⟩ := sp_rd_stands W hSo h764 (pu_tok_at 33 (by decide) (by decide))
  have u3 : pu_tv ((33 : Nat) : Int) = pu_tv 62 := by decide +kernel
  rw [u3] at c3
  have q3 : x3 = y3 := pu_eq01 a3 (nb_Hu b3) (c3.trans e3.symm)
  clear c3 a3 u3
  subst q3
  obtain ⟨x4, a4, c4, j4⟩ := sp_rd_stands W hSo h764 (pu_tok_at 34 (by decide) (by decide))
  have u4 : pu_tv ((34 : Nat) : Int) = pu_tv 63 := by decide +kernel
  rw [u4] at c4
  have q4 : x4 = y4 := pu_eq01 a4 (nb_Hu b4) (c4.trans e4.symm)
  clear c4 a4 u4
  subst q4
  obtain ⟨x5, a5, c5, j5⟩ := sp_rd_stands W hSo h764 (pu_tok_at 35 (by decide) (by decide))
  have u5 : pu_tv ((35 : Nat) : Int) = pu_tv 64 := by decide +kernel
  rw [u5] at c5
  have q5 : x5 = y5 := pu_eq01 a5 (nb_Hu b5) (c5.trans e5.symm)
  clear c5 a5 u5
  subst q5
  replace e1 := nb_Hw e1
  replace e2 := nb_Hw e2
  replace e3 := nb_Hw e3
  replace e4 := nb_Hw e4
  replace e5 := nb_Hw e5
  replace e6 := nb_Hw e6
  have kind : M.1 76 7 = 2 ↔ (x1 = 1 ∨ x2 = 1 ∨ x3 = 1 ∨ x4 = 1 ∨ x5 = 1 ∨ y6 = 1) := by
    have ln : M.1 76 7 = 2 ↔ (M.1 76 7 = 1 ∨ M.1 76 7 = 2) ∧ pu_line (M.1 76 8) := by
      rcases rt.2 with z | ⟨z, -, -, -, -, w⟩ | z | z | z | z
      · exact ⟨fun y => absurd z.1 (by omega), fun y => absurd z.1 (by omega)⟩
      · exact ⟨fun y => ⟨z, w.1 y⟩, fun y => w.2 y.2⟩
      · exact ⟨fun y => absurd z.1 (by omega), fun y => absurd z.1 (by omega)⟩
      · exact ⟨fun y => absurd z.1 (by omega), fun y => absurd z.1 (by omega)⟩
      · exact ⟨fun y => absurd z.1 (by omega), fun y => absurd z.1 (by omega)⟩
      · exact ⟨fun y => absurd z.1 (by omega), fun y => absurd z.1 (by omega)⟩
    rw [ln]
    constructor
    · rintro ⟨z, w⟩
      rcases w with w | w | w | w | w | w
      · exact Or.inl ((nb_Hu e1).2 ⟨z, w⟩)
      · exact Or.inr (Or.inl ((nb_Hu e2).2 ⟨z, w⟩))
      · exact Or.inr (Or.inr (Or.inl ((nb_Hu e3).2 ⟨z, w⟩)))
      · exact Or.inr (Or.inr (Or.inr (Or.inl ((nb_Hu e4).2 ⟨z, w⟩))))
      · exact Or.inr (Or.inr (Or.inr (Or.inr (Or.inl ((nb_Hu e5).2 ⟨z, w⟩)))))
      · exact Or.inr (Or.inr (Or.inr (Or.inr (Or.inr ((nb_Hu e6).2 ⟨z, w⟩)))))
    · rintro (z | z | z | z | z | z)
      · exact ⟨((nb_Hu e1).1 z).1, Or.inl ((nb_Hu e1).1 z).2⟩
      · exact ⟨((nb_Hu e2).1 z).1, Or.inr (Or.inl ((nb_Hu e2).1 z).2)⟩
      · exact ⟨((nb_Hu e3).1 z).1, Or.inr (Or.inr (Or.inl ((nb_Hu e3).1 z).2))⟩
      · exact ⟨((nb_Hu e4).1 z).1, Or.inr (Or.inr (Or.inr (Or.inl ((nb_Hu e4).1 z).2)))⟩
      · exact ⟨((nb_Hu e5).1 z).1, Or.inr (Or.inr (Or.inr (Or.inr (Or.inl ((nb_Hu e5).1 z).2))))⟩
      · exact ⟨((nb_Hu e6).1 z).1, Or.inr (Or.inr (Or.inr (Or.inr (Or.inr ((nb_Hu e6).1 z).2))))⟩
  replace kind := nb_Hw kind
  by_cases k2 : M.1 76 7 = 2
  case neg =>
    -- no line begins so
    have z1 : x1 = 0 := (nb_Hu b1).resolve_right (fun z => k2 ((nb_Hu kind).2 (Or.inl z)))
    have z2 : x2 = 0 := (nb_Hu b2).resolve_right (fun z => k2 ((nb_Hu kind).2 (Or.inr (Or.inl z))))
    have z3 : x3 = 0 := (nb_Hu b3).resolve_right (fun z => k2 ((nb_Hu kind).2 (Or.inr (Or.inr (Or.inl z)))))
    have z4 : x4 = 0 := (nb_Hu b4).resolve_right (fun z => k2 ((nb_Hu kind).2 (Or.inr (Or.inr (Or.inr (Or.inl z))))))
    have z5 : x5 = 0 := (nb_Hu b5).resolve_right (fun z => k2 ((nb_Hu kind).2 (Or.inr (Or.inr (Or.inr (Or.inr (Or.inl z)))))))
    have z6 : y6 = 0 := (nb_Hu b6).resolve_right (fun z => k2 ((nb_Hu kind).2 (Or.inr (Or.inr (Or.inr (Or.inr (Or.inr z)))))))
    subst z1 z2 z3 z4 z5 z6
    obtain ⟨M1, N1, s1, s1b, s2, s3, s4, s5, s6, s7⟩ := rl_bad (f := 1) (by decide) h
    exact ⟨M1, N1, nb_Wq (w_rd_readLine_0 W hSo h764 ⟨fun z => absurd z k2, fun _ => nb_Wp s1 ⟨rfl, s5.1, s5.2.2.2.trans h764, fun _ => ⟨rfl, rfl⟩⟩⟩), nv_7 WN r3 r4 r5 r7 i1 i2 i3 i4 i5 i6 s2 ⟨s6.1, trivial⟩, ⟨s3, Or.inr s4⟩, s5.cl hSo, s6.ml, fun z => absurd z s4.1⟩
  have hk : M.1 76 7 ≠ 0 ∧ M.1 76 7 ≠ 6 := by rw [k2]; decide
  by_cases c1 : x1 = 0
  case neg =>
    obtain ⟨M1, N1, s1, s2, s3⟩ := rl_house h hl hk hH
    exact ⟨M1, N1, nb_Wq (w_rd_readLine_0 W hSo h764 ⟨fun _ => nb_Wp j1 ⟨x1, rfl, W, h764, fun z => absurd z c1, fun _ => nb_Wp s1 ⟨rfl, s3.2.1.1, s3.1.1.2.2.2.1, fun _ => ⟨rfl, rfl⟩⟩⟩, fun z => absurd k2 z⟩), nb_Wq (w_m_readLine_0 WN (nb_Wp i1 ⟨x1, rfl, WN, fun z => absurd z c1, fun _ => nb_Wp s2 ⟨rfl, s3.2.2.1.1, fun _ => ⟨rfl, rfl⟩⟩⟩)), s3⟩
  subst c1
  have m9 : (M.1 So 9 = 0 ∧ N.1 607 0 = 0) ∨ (M.1 So 9 ≠ 0 ∧ N.1 607 0 ≠ 0) := by rcases hH.1 with z | z <;> omega
  rcases m9 with ⟨g9, g0⟩ | ⟨g9, g0⟩
  · -- no house yet
    have zz := nb_Hu zero g0
    have runC : ∀ M1 : nb_M, nb_R nb_P 226 0 [(13, 76), (0, 6)] [] M = some ([], M1) → pu_cf M M1 → nb_R nb_P 229 0 [(13, 76)] [] M = some ([], M1) := fun M1 s1 s5 => nb_Wq (w_rd_readLine_0 W hSo h764 ⟨fun _ => nb_Wp j1 ⟨0, rfl, W, h764, fun _ => ⟨fun _ => nb_Wp s1 ⟨rfl, s5.1, s5.2.2.2.trans h764, fun _ => ⟨rfl, rfl⟩⟩, fun z => absurd g9 z⟩, fun z => absurd rfl z⟩, fun z => absurd k2 z⟩)
    by_cases c2 : x2 = 0
    case neg =>
      obtain ⟨M1, N1, s1, s2, s3, s4, s5, s6, s7⟩ := rl_lacks h i2 c2 g0
      exact ⟨M1, N1, runC M1 s1 s5, nv_2 WN r3 r4 r5 r7 i1 (Or.inl ⟨rfl, by omega⟩) s2 s6.1 (nb_Wq (w_m_drinkLine_0 s6.1 ⟨fun z => absurd z s7, fun _ _ => ⟨rfl, rfl⟩⟩)) s6.1, ⟨s3, Or.inr s4⟩, s5.cl hSo, s6.ml, fun z => absurd z s4.1⟩
    subst c2
    by_cases c3 : x3 = 0
    case neg =>
      obtain ⟨M1, N1, s1, s2, s3, s4, s5, s6, s7⟩ := rl_lacks h i3 c3 g0
      exact ⟨M1, N1, runC M1 s1 s5, nv_3 WN r3 r4 r5 r7 i1 i2 (Or.inl ⟨rfl, by omega⟩) s2 s6.1 (nb_Wq (w_m_staffLine_0 s6.1 ⟨fun z => absurd z s7, fun _ _ => ⟨rfl, rfl⟩⟩)) s6.1, ⟨s3, Or.inr s4⟩, s5.cl hSo, s6.ml, fun z => absurd z s4.1⟩
    subst c3
    by_cases c4 : x4 = 0
    case neg =>
      obtain ⟨M1, N1, s1, s2, s3, s4, s5, s6, s7⟩ := rl_lacks h i4 c4 g0
      exact ⟨M1, N1, runC M1 s1 s5, nv_4 WN r3 r4 r5 r7 i1 i2 i3 (Or.inl ⟨rfl, by omega⟩) s2 s6.1 (nb_Wq (w_m_personLine_0 s6.1 ⟨fun z => absurd z s7, fun _ _ => ⟨rfl, rfl⟩⟩)) s6.1, ⟨s3, Or.inr s4⟩, s5.cl hSo, s6.ml, fun z => absurd z s4.1⟩
    subst c4
    by_cases c5 : x5 = 0
    case neg =>
      obtain ⟨M1, N1, s1, s2, s3, s4, s5, s6, s7⟩ := rl_lacks h i5 c5 g0
      exact ⟨M1, N1, runC M1 s1 s5, nv_5 WN r3 r4 r5 r7 i1 i2 i3 i4 s2 s6.1 (nb_Wq (w_m_shelfLine_0 s6.1 ⟨fun z => absurd z s7, fun _ _ => ⟨rfl, rfl⟩⟩)) s6.1, ⟨s3, Or.inr s4⟩, s5.cl hSo, s6.ml, fun z => absurd z s4.1⟩
    subst c5
    have c6 : y6 ≠ 0 := by
      rcases (nb_Hu kind).1 k2 with z | z | z | z | z | z
      · exact absurd z (by decide)
      · exact absurd z (by decide)
      · exact absurd z (by decide)
      · exact absurd z (by decide)
      · exact absurd z (by decide)
      · rw [z]; decide
    obtain ⟨M1, N1, s1, s2, s3, s4, s5, s6, s7⟩ := rl_lacks h i6 c6 g0
    exact ⟨M1, N1, runC M1 s1 s5, nv_6 WN r3 r4 r5 r7 i1 i2 i3 i4 i5 (Or.inl ⟨rfl, by omega⟩) s2 s6.1 (nb_Wq (w_m_saysLine_0 s6.1 ⟨fun z => absurd z s7, fun _ _ => ⟨rfl, rfl⟩⟩)) s6.1, ⟨s3, Or.inr s4⟩, s5.cl hSo, s6.ml, fun z => absurd z s4.1⟩
  · -- a house is there
    by_cases c2 : x2 = 0
    case neg =>
      obtain ⟨l, hl1, hl2⟩ : ∃ l : Int, (l ≠ 0 ↔ N.1 607 3 < 5) ∧ ((l = 1 ∧ N.1 607 3 < 5) ∨ (l = 0 ∧ ¬ N.1 607 3 < 5)) := by
        by_cases c : N.1 607 3 < 5
        · exact ⟨1, ⟨fun _ => c, fun _ => by decide⟩, Or.inl ⟨rfl, c⟩⟩
        · exact ⟨0, ⟨fun z => absurd rfl z, fun z => absurd z c⟩, Or.inr ⟨rfl, c⟩⟩
      obtain ⟨M1, N0, N1, s1, s2, s3, s4, s5⟩ := rl_drink h hl hk i2 c2 g0 hl1 hH
      exact ⟨M1, N1, nb_Wq (w_rd_readLine_0 W hSo h764 ⟨fun _ => nb_Wp j1 ⟨0, rfl, W, h764, fun _ => ⟨fun z => absurd z g9, fun _ => nb_Wp j2 ⟨x2, rfl, W, h764, fun z => absurd z c2, fun _ => nb_Wp s1 ⟨rfl, s5.2.1.1, s5.1.1.2.2.2.1, fun _ => ⟨rfl, rfl⟩⟩⟩⟩, fun z => absurd rfl z⟩, fun z => absurd k2 z⟩), nv_2 WN r3 r4 r5 r7 i1 hl2 s2 s3 s4 s5.2.2.1.1, s5⟩
    subst c2
    by_cases c3 : x3 = 0
    case neg =>
      obtain ⟨l, hl1, hl2⟩ : ∃ l : Int, (l ≠ 0 ↔ N.1 607 4 < 3) ∧ ((l = 1 ∧ N.1 607 4 < 3) ∨ (l = 0 ∧ ¬ N.1 607 4 < 3)) := by
        by_cases c : N.1 607 4 < 3
        · exact ⟨1, ⟨fun _ => c, fun _ => by decide⟩, Or.inl ⟨rfl, c⟩⟩
        · exact ⟨0, ⟨fun z => absurd rfl z, fun z => absurd z c⟩, Or.inr ⟨rfl, c⟩⟩
      obtain ⟨M1, N0, N1, s1, s2, s3, s4, s5⟩ := rl_staff h hl hk i3 c3 g0 hl1 hH
      exact ⟨M1, N1, nb_Wq (w_rd_readLine_0 W hSo h764 ⟨fun _ => nb_Wp j1 ⟨0, rfl, W, h764, fun _ => ⟨fun z => absurd z g9, fun _ => nb_Wp j2 ⟨0, rfl, W, h764, fun _ => nb_Wp j3 ⟨x3, rfl, W, h764, fun z => absurd z c3, fun _ => nb_Wp s1 ⟨rfl, s5.2.1.1, s5.1.1.2.2.2.1, fun _ => ⟨rfl, rfl⟩⟩⟩, fun z => absurd rfl z⟩⟩, fun z => absurd rfl z⟩, fun z => absurd k2 z⟩), nv_3 WN r3 r4 r5 r7 i1 i2 hl2 s2 s3 s4 s5.2.2.1.1, s5⟩
    subst c3
    by_cases c4 : x4 = 0
    case neg =>
      obtain ⟨l, hl1, hl2⟩ : ∃ l : Int, (l ≠ 0 ↔ N.1 607 5 < 10) ∧ ((l = 1 ∧ N.1 607 5 < 10) ∨ (l = 0 ∧ ¬ N.1 607 5 < 10)) := by
        by_cases c : N.1 607 5 < 10
        · exact ⟨1, ⟨fun _ => c, fun _ => by decide⟩, Or.inl ⟨rfl, c⟩⟩
        · exact ⟨0, ⟨fun z => absurd rfl z, fun z => absurd z c⟩, Or.inr ⟨rfl, c⟩⟩
      obtain ⟨M1, N0, N1, s1, s2, s3, s4, s5⟩ := rl_person h hl hk i4 c4 g0 hl1 hH gk
      exact ⟨M1, N1, nb_Wq (w_rd_readLine_0 W hSo h764 ⟨fun _ => nb_Wp j1 ⟨0, rfl, W, h764, fun _ => ⟨fun z => absurd z g9, fun _ => nb_Wp j2 ⟨0, rfl, W, h764, fun _ => nb_Wp j3 ⟨0, rfl, W, h764, fun _ => nb_Wp j4 ⟨x4, rfl, W, h764, fun z => absurd z c4, fun _ => nb_Wp s1 ⟨rfl, s5.2.1.1, s5.1.1.2.2.2.1, fun _ => ⟨rfl, rfl⟩⟩⟩, fun z => absurd rfl z⟩, fun z => absurd rfl z⟩⟩, fun z => absurd rfl z⟩, fun z => absurd k2 z⟩), nv_4 WN r3 r4 r5 r7 i1 i2 i3 hl2 s2 s3 s4 s5.2.2.1.1, s5⟩
    subst c4
    by_cases c5 : x5 = 0
    case neg =>
      obtain ⟨M1, N0, N1, s1, s2, s3, s4, s5⟩ := rl_shelf h hl hk i5 c5 g0 hH
      exact ⟨M1, N1, nb_Wq (w_rd_readLine_0 W hSo h764 ⟨fun _ => nb_Wp j1 ⟨0, rfl, W, h764, fun _ => ⟨fun z => absurd z g9, fun _ => nb_Wp j2 ⟨0, rfl, W, h764, fun _ => nb_Wp j3 ⟨0, rfl, W, h764, fun _ => nb_Wp j4 ⟨0, rfl, W, h764, fun _ => nb_Wp j5 ⟨x5, rfl, W, h764, fun z => absurd z c5, fun _ => nb_Wp s1 ⟨rfl, s5.2.1.1, s5.1.1.2.2.2.1, fun _ => ⟨rfl, rfl⟩⟩⟩, fun z => absurd rfl z⟩, fun z => absurd rfl z⟩, fun z => absurd rfl z⟩⟩, fun z => absurd rfl z⟩, fun z => absurd k2 z⟩), nv_5 WN r3 r4 r5 r7 i1 i2 i3 i4 s2 s3 s4 s5.2.2.1.1, s5⟩
    subst c5
    have c6 : y6 ≠ 0 := by
      rcases (nb_Hu kind).1 k2 with z | z | z | z | z | z
      · exact absurd z (by decide)
      · exact absurd z (by decide)
      · exact absurd z (by decide)
      · exact absurd z (by decide)
      · exact absurd z (by decide)
      · rw [z]; decide
    obtain ⟨l, hl1, hl2⟩ : ∃ l : Int, (l ≠ 0 ↔ N.1 607 7 < 8) ∧ ((l = 1 ∧ N.1 607 7 < 8) ∨ (l = 0 ∧ ¬ N.1 607 7 < 8)) := by
      by_cases c : N.1 607 7 < 8
      · exact ⟨1, ⟨fun _ => c, fun _ => by decide⟩, Or.inl ⟨rfl, c⟩⟩
      · exact ⟨0, ⟨fun z => absurd rfl z, fun z => absurd z c⟩, Or.inr ⟨rfl, c⟩⟩
    obtain ⟨M1, N0, N1, s1, s2, s3, s4, s5⟩ := rl_says h hl hk i6 c6 g0 hl1 hH
    exact ⟨M1, N1, nb_Wq (w_rd_readLine_0 W hSo h764 ⟨fun _ => nb_Wp j1 ⟨0, rfl, W, h764, fun _ => ⟨fun z => absurd z g9, fun _ => nb_Wp j2 ⟨0, rfl, W, h764, fun _ => nb_Wp j3 ⟨0, rfl, W, h764, fun _ => nb_Wp j4 ⟨0, rfl, W, h764, fun _ => nb_Wp j5 ⟨0, rfl, W, h764, fun _ => nb_Wp s1 ⟨rfl, s5.2.1.1, s5.1.1.2.2.2.1, fun _ => ⟨rfl, rfl⟩⟩, fun z => absurd rfl z⟩, fun z => absurd rfl z⟩, fun z => absurd rfl z⟩, fun z => absurd rfl z⟩⟩, fun z => absurd rfl z⟩, fun z => absurd k2 z⟩), nv_6 WN r3 r4 r5 r7 i1 i2 i3 i4 i5 hl2 s2 s3 s4 s5.2.2.1.1, s5⟩
