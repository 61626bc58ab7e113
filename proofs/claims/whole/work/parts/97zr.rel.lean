/-! BOTH READERS SIDE BY SIDE -/
theorem pu_isw_iff {N : nb_M} {p k v kr : Int} (h : pu_rt N p k v) (hf : N.1 603 13 = 0) (hk : pu_tok kr) : pu_isw N kr ↔ ((k = 1 ∨ k = 2) ∧ v = pu_tv kr) := by
  obtain ⟨-, h⟩ := h
  obtain ⟨-, ⟨l1, l8⟩, ha⟩ := hk
  rcases h with ⟨a, b⟩ | ⟨a, b, c, d, e, f⟩ | ⟨a, b, -⟩ | ⟨a, b⟩ | ⟨a, b⟩ | ⟨a, b⟩
  · exact ⟨fun z => absurd z.2.1 (by omega), fun z => absurd z.1 (by omega)⟩
  · constructor
    · rintro ⟨-, -, z1, z2⟩
      refine ⟨a, ?_⟩
      rw [e, z1]
      exact pu_wv_congr _ z2
    · rintro ⟨-, z⟩
      rw [e] at z
      obtain ⟨g1, g2⟩ := pu_wv_inj _ _ d ha z
      exact ⟨hf, b, by omega, fun i hi => g2 i (by omega)⟩
  · exact ⟨fun z => absurd z.2.1 (by omega), fun z => absurd z.1 (by omega)⟩
  · exact ⟨fun z => absurd z.2.1 (by omega), fun z => absurd z.1 (by omega)⟩
  · exact ⟨fun z => absurd z.2.1 (by omega), fun z => absurd z.1 (by omega)⟩
  · exact ⟨fun z => absurd z.2.1 (by omega), fun z => absurd z.1 (by omega)⟩
/-- a name's number with the reference -/
def pu_sl (so nu : Int) : Int := (if so = 0 then 0 else if so = 1 then 5 else 8) + nu
theorem pu_sl_0 (nu : Int) : pu_sl 0 nu = nu := by unfold pu_sl; rw [if_pos rfl]; omega
theorem pu_sl_1 (nu : Int) : pu_sl 1 nu = 5 + nu := by unfold pu_sl; rw [if_neg (by decide), if_pos rfl]
theorem pu_sl_2 (nu : Int) : pu_sl 2 nu = 8 + nu := by unfold pu_sl; rw [if_neg (by decide), if_neg (by decide)]
def pu_nl (g : Int → Int) (m : Int) : Int → Int := fun q => g (203 + 8 * m + q)
def pu_sot (so nu d s p : Int) : Prop := (so = 0 ∧ 0 ≤ nu ∧ nu < d) ∨ (so = 1 ∧ 0 ≤ nu ∧ nu < s) ∨ (so = 2 ∧ 0 ≤ nu ∧ nu < p)
/-- the names of both -/
def pu_NR (M N : nb_M) (d s p : Int) : Prop :=
  M.1 76 5 = d + s + p ∧ ((0 ≤ d ∧ d ≤ 5) ∧ (0 ≤ s ∧ s ≤ 3) ∧ (0 ≤ p ∧ p ≤ 10)) ∧
  (∀ i : Nat, (i : Int) < d + s + p → pu_sot (M.1 82 i) (M.1 83 i) d s p ∧ (1 ≤ N.1 607 (185 + pu_sl (M.1 82 i) (M.1 83 i)) ∧ N.1 607 (185 + pu_sl (M.1 82 i) (M.1 83 i)) ≤ 8) ∧ pu_abc (pu_nl (N.1 607) (pu_sl (M.1 82 i) (M.1 83 i))) (N.1 607 (185 + pu_sl (M.1 82 i) (M.1 83 i))).toNat ∧ M.1 81 i = pu_wv (pu_nl (N.1 607) (pu_sl (M.1 82 i) (M.1 83 i))) (N.1 607 (185 + pu_sl (M.1 82 i) (M.1 83 i))).toNat) ∧
  (∀ a b : Nat, a < b → (b : Int) < d + s + p → M.1 81 a ≠ M.1 81 b) ∧
  ∀ m : Int, 0 ≤ m → m < 18 → 0 < N.1 607 (185 + m) → ∃ i : Nat, (i : Int) < d + s + p ∧ pu_sl (M.1 82 i) (M.1 83 i) = m
theorem pu_NR.congr {M N M' N' : nb_M} {d s p : Int} (h : pu_NR M N d s p) (h5 : M'.1 76 5 = M.1 76 5) (h1 : M'.1 81 = M.1 81) (h2 : M'.1 82 = M.1 82) (h3 : M'.1 83 = M.1 83) (h7 : ∀ j, 185 ≤ j → N'.1 607 j = N.1 607 j) : pu_NR M' N' d s p := by
  obtain ⟨a1, a2, a3, a4, a5⟩ := h
  have sl0 : ∀ i : Nat, (i : Int) < d + s + p → 0 ≤ pu_sl (M.1 82 i) (M.1 83 i) := fun i hi => by
    have g := (a3 i hi).1
    unfold pu_sot at g
    rcases g with ⟨e, q⟩ | ⟨e, q⟩ | ⟨e, q⟩
    · rw [e, pu_sl_0]; omega
    · rw [e, pu_sl_1]; omega
    · rw [e, pu_sl_2]; omega
  refine ⟨by rw [h5]; exact a1, a2, fun i hi => ?_, fun a b x y => by rw [h1]; exact a4 a b x y, fun m p0 p1 hm => ?_⟩
  · have g := a3 i hi
    have s0 := sl0 i hi
    rw [h1, h2, h3, h7 _ (by omega)]
    have e : ∀ q : Nat, pu_nl (N'.1 607) (pu_sl (M.1 82 i) (M.1 83 i)) q = pu_nl (N.1 607) (pu_sl (M.1 82 i) (M.1 83 i)) q := fun q => h7 _ (by omega)
    refine ⟨g.1, g.2.1, fun q hq => ?_, ?_⟩
    · rw [e q]; exact g.2.2.1 q hq
    · rw [g.2.2.2]
      exact pu_wv_congr _ (fun q _ => (e q).symm)
  · rw [h7 _ (by omega)] at hm
    rw [h2, h3]
    exact a5 m p0 p1 hm
/-- what the class's reader changes by a token -/
def pu_cf (M M' : nb_M) : Prop := nb_Lay M' ∧ M'.2 = M.2 ∧ (∀ a, a ≠ 76 → a ≠ 81 → a ≠ 82 → a ≠ 83 → M'.1 a = M.1 a) ∧ M'.1 76 4 = M.1 76 4
theorem pu_cf.id {M : nb_M} (W : nb_Lay M) : pu_cf M M := ⟨W, rfl, fun _ _ _ _ _ => rfl, rfl⟩
theorem pu_cf.tr {M M1 M2 : nb_M} (h : pu_cf M M1) (g : pu_cf M1 M2) : pu_cf M M2 := ⟨g.1, g.2.1.trans h.2.1, fun a p q r s => (g.2.2.1 a p q r s).trans (h.2.2.1 a p q r s), g.2.2.2.trans h.2.2.2⟩
theorem pu_cf.wr {M M1 : nb_M} (h : pu_cf M M1) {i v : Int} (hi : 4 < i) : pu_cf M (nb_wr M1 76 i v) := by
  refine ⟨h.1.wr (fun w q => ?_), h.2.1, fun a p q r s => ?_, ?_⟩
  · rcases q with q | q | ⟨H, hH, q⟩ | ⟨A, hA, q⟩
    · have h1 : (nb_rt.all fun q => decide (q.1 = 76 → q.2.1 ≤ 3)) = true := by decide
      have h2 := of_decide_eq_true (List.all_eq_true.mp h1 _ q) rfl
      have h3 : i ≤ 3 := h2
      omega
    · unfold nb_fc at q
      omega
    · unfold nb_hs at hH
      rcases q with q | q | q | q | q | q | ⟨s, q⟩ <;> omega
    · unfold nb_sc at hA
      rcases q with q | q | q | ⟨s, q⟩ <;> omega
  · rw [nb_wr_b p]; exact h.2.2.1 a p q r s
  · rw [nb_wr_1, if_neg (by omega)]; exact h.2.2.2
theorem pu_cf.nam {M M1 : nb_M} (h : pu_cf M M1) {a i v : Int} (ha : a = 81 ∨ a = 82 ∨ a = 83) : pu_cf M (nb_wr M1 a i v) := by
  refine ⟨h.1.wr (fun w => by rcases ha with rfl | rfl | rfl <;> exact nb_nnum (by decide) (by decide)), h.2.1, fun b p q r s => ?_, ?_⟩
  · rw [nb_wr_b (by omega)]; exact h.2.2.1 b p q r s
  · rw [nb_wr_b (by omega)]; exact h.2.2.2
/-- no fault, no fault's number -/
def pu_ph (N : nb_M) : Prop := N.1 603 13 = 0 → N.1 603 9 = 0
/-- what the reference's reader changes by a token -/
def pu_mf (N N' : nb_M) : Prop := nb_Lay N' ∧ N'.2 = N.2 ∧ (∀ a, a ≠ 603 → a ≠ 605 → a ≠ 607 → N'.1 a = N.1 a) ∧ ((∀ i, (i < 4 ∨ i = 11 ∨ i = 12 ∨ 13 < i) → N'.1 603 i = N.1 603 i) ∧ (pu_ph N → pu_ph N')) ∧ ∀ j, j < 185 → N'.1 607 j = N.1 607 j
theorem pu_mf.id {N : nb_M} (W : nb_Lay N) : pu_mf N N := ⟨W, rfl, fun _ _ _ _ => rfl, ⟨fun _ _ => rfl, fun z => z⟩, fun _ _ => rfl⟩
theorem pu_mf.tr {M M1 M2 : nb_M} (h : pu_mf M M1) (g : pu_mf M1 M2) : pu_mf M M2 := ⟨g.1, g.2.1.trans h.2.1, fun a p q r => (g.2.2.1 a p q r).trans (h.2.2.1 a p q r), ⟨fun i hi => (g.2.2.2.1.1 i hi).trans (h.2.2.2.1.1 i hi), fun z => g.2.2.2.1.2 (h.2.2.2.1.2 z)⟩, fun j hj => (g.2.2.2.2 j hj).trans (h.2.2.2.2 j hj)⟩
theorem pu_nt.mf {N N' : nb_M} (h : pu_nt N N') : pu_mf N N' := ⟨h.1, h.2.1, fun a p q _ => h.2.2.1 a p q, ⟨fun i hi => h.2.2.2 i (by omega), fun z q => by rw [h.2.2.2 9 (by decide)]; exact z (by rw [← h.2.2.2 13 (by decide)]; exact q)⟩, fun j _ => by rw [h.2.2.1 607 (by decide) (by decide)]⟩
theorem pu_mf.wrg {N : nb_M} (W : nb_Lay N) {f q : Int} : pu_mf N (nb_wr (nb_wr (nb_wr N 603 13 1) 603 9 f) 603 10 q) := by
  refine ⟨((W.wr (fun w => nb_nlit (by decide) (by decide))).wr (fun w => nb_nlit (by decide) (by decide))).wr (fun w => nb_nlit (by decide) (by decide)), rfl, fun a p q r => ?_, ⟨fun j hj => ?_, fun _ z => ?_⟩, fun j hj => ?_⟩
  · rw [nb_wr_b p, nb_wr_b p, nb_wr_b p]
  · rw [nb_wr_1, if_neg (by omega), nb_wr_1, if_neg (by omega), nb_wr_1, if_neg (by omega)]
  · rw [nb_wr_1, if_neg (by omega), nb_wr_1, if_neg (by omega), nb_wr_1, if_pos ⟨rfl, rfl⟩] at z
    exact absurd z (by decide)
  · rw [nb_wr_b (by decide), nb_wr_b (by decide), nb_wr_b (by decide)]
theorem pu_mf.nam {N N1 : nb_M} (h : pu_mf N N1) {i v : Int} (hi : 185 ≤ i) : pu_mf N (nb_wr N1 607 i v) := by
  have e : (nb_wr N1 607 i v).1 603 = N1.1 603 := nb_wr_b (by decide)
  refine ⟨h.1.wr (fun w => nb_nnum (by decide) (by decide)), h.2.1, fun a p q r => ?_, ⟨fun j hj => ?_, fun z => ?_⟩, fun j hj => ?_⟩
  · rw [nb_wr_b r]; exact h.2.2.1 a p q r
  · rw [e]; exact h.2.2.2.1.1 j hj
  · unfold pu_ph
    rw [e]
    exact h.2.2.2.1.2 z
  · rw [nb_wr_1, if_neg (by omega)]; exact h.2.2.2.2 j hj
/-- what stands at every token -/
def pu_Ba (So : Int) (tx : Int → Int) (n : Int) (cnt : Nat) (E : Nat → Int) (M N : nb_M) : Prop := nb_Lay M ∧ nb_Lay N ∧ nb_hs So ∧ M.1 76 4 = So ∧ pu_TF M tx n cnt E ∧ n ≤ 1000 ∧ N.1 604 = tx ∧ (N.1 603 3 = n ∧ pu_ph N) ∧ (0 ≤ M.1 76 5 ∧ M.1 76 5 ≤ 18)
/-- both read on -/
def pu_Lv (E : Nat → Int) (cnt : Nat) (M N : nb_M) (i : Nat) (d s p : Int) : Prop := M.1 76 9 = 0 ∧ N.1 603 13 = 0 ∧ M.1 76 6 = i ∧ i ≤ cnt ∧ M.1 76 7 = M.1 78 i ∧ M.1 76 8 = M.1 80 i ∧ (i = cnt → M.1 78 cnt = 0) ∧ pu_rt N (M.1 79 i) (M.1 76 7) (M.1 76 8) ∧ (i < cnt → N.1 603 5 = E (i + 1)) ∧ pu_NR M N d s p
/-- both have found a fault -/
def pu_Dd (M N : nb_M) : Prop := M.1 76 9 ≠ 0 ∧ N.1 603 13 = 1 ∧ N.1 603 9 = M.1 76 9 ∧ N.1 603 10 = M.1 76 10
def pu_RL (So : Int) (tx : Int → Int) (n : Int) (cnt : Nat) (E : Nat → Int) (M N : nb_M) (j : Nat) (d s p : Int) : Prop := pu_Ba So tx n cnt E M N ∧ ((∃ i : Nat, j ≤ i ∧ pu_Lv E cnt M N i d s p) ∨ pu_Dd M N)
variable {So n d s p : Int} {tx : Int → Int} {cnt j : Nat} {E : Nat → Int} {M N : nb_M}
theorem pu_Ba.mv {M' N' : nb_M} (h : pu_Ba So tx n cnt E M N) (c : pu_cf M M') (m : pu_mf N N') (h5 : 0 ≤ M'.1 76 5 ∧ M'.1 76 5 ≤ 18) : pu_Ba So tx n cnt E M' N' := by
  obtain ⟨h1, h2, h3, h4, h6, h7, h8, h9, h10⟩ := h
  refine ⟨c.1, m.1, h3, c.2.2.2.trans h4, ?_, h7, (m.2.2.1 604 (by decide) (by decide) (by decide)).trans h8, ⟨(m.2.2.2.1.1 3 (by decide)).trans h9.1, m.2.2.2.1.2 h9.2⟩, h5⟩
  unfold pu_TF pu_TK at h6 ⊢
  rw [c.2.2.1 77 (by decide) (by decide) (by decide) (by decide), c.2.2.1 78 (by decide) (by decide) (by decide) (by decide), c.2.2.1 79 (by decide) (by decide) (by decide) (by decide), c.2.2.1 80 (by decide) (by decide) (by decide) (by decide)]
  exact h6
theorem pu_Ba.ctn (h : pu_Ba So tx n cnt E M N) : M.1 77 3 = cnt ∧ (cnt : Int) ≤ 1000 := by
  obtain ⟨h1, h2, h3, h4, h6, h7, h8, h9, h10⟩ := h
  have := h6.1.2.1
  exact ⟨h6.1.1, by omega⟩
/-! nothing happens behind a fault -/
theorem dd_step (W : nb_Lay M) (hSo : nb_hs So) (h4 : M.1 76 4 = So) (hf : M.1 76 9 ≠ 0) : nb_R nb_P 225 0 [(13, 76)] [] M = some ([], M) := nb_Wq (w_rd_step_0 W hSo h4 ⟨fun z => absurd z hf, fun _ _ => ⟨rfl, rfl⟩⟩)
theorem dd_fail {f : Int} (W : nb_Lay M) (hSo : nb_hs So) (h4 : M.1 76 4 = So) (hf : M.1 76 9 ≠ 0) : nb_R nb_P 226 0 [(13, 76), (0, f)] [] M = some ([], M) := nb_Wq (w_rd_fail_0 W hSo h4 ⟨fun z => absurd z hf, fun _ _ => ⟨rfl, rfl⟩⟩)
theorem dm_wrong {f q : Int} (W : nb_Lay N) (hf : N.1 603 13 ≠ 0) : nb_R nb_P 92 0 [(20, 603), (0, f), (0, q)] [] N = some ([], N) := nb_Wq (w_m_wrong_0 W ⟨fun z => absurd z hf, fun _ _ => ⟨rfl, rfl⟩⟩)
theorem sp_rd_stands {k : Int} (W : nb_Lay M) (hSo : nb_hs So) (h4 : M.1 76 4 = So) (hk : pu_tok k) : ∃ x : Int, (x = 0 ∨ x = 1) ∧ (x = 1 ↔ ((M.1 76 7 = 1 ∨ M.1 76 7 = 2) ∧ M.1 76 8 = pu_tv k)) ∧ nb_R nb_P 227 0 [(13, 76), (2, k)] [] M = some ([(0, x)], M) := by
  by_cases c : (M.1 76 7 = 1 ∨ M.1 76 7 = 2) ∧ M.1 76 8 = pu_tv k
  · refine ⟨1, Or.inr rfl, ⟨fun _ => c, fun _ => rfl⟩, nb_Wq (w_rd_stands_0 W hSo h4 ?_)⟩
    have g : nb_lcmp (M.1 76 8) (pu_tv k) = 0 := nb_lcmp_0.2 c.2
    exact ⟨fun _ => nb_Wp (sp_tk_letters hk) ⟨_, rfl, W, h4, fun _ _ => ⟨rfl, rfl⟩, fun z => absurd g z⟩, fun n1 => ⟨fun _ => nb_Wp (sp_tk_letters hk) ⟨_, rfl, W, h4, fun _ _ => ⟨rfl, rfl⟩, fun z => absurd g z⟩, fun n2 => absurd c.1 (by omega)⟩⟩
  · refine ⟨0, Or.inl rfl, ⟨fun z => absurd z (by decide), fun z => absurd z c⟩, nb_Wq (w_rd_stands_0 W hSo h4 ?_)⟩
    exact ⟨fun a => nb_Wp (sp_tk_letters hk) ⟨_, rfl, W, h4, fun z => absurd ⟨Or.inl a, nb_lcmp_0.1 z⟩ c, fun _ _ => ⟨rfl, rfl⟩⟩, fun _ => ⟨fun a => nb_Wp (sp_tk_letters hk) ⟨_, rfl, W, h4, fun z => absurd ⟨Or.inr a, nb_lcmp_0.1 z⟩ c, fun _ _ => ⟨rfl, rfl⟩⟩, fun _ _ => ⟨rfl, rfl⟩⟩⟩
/-! steps -/
theorem rl_step {i : Nat} (hB : pu_Ba So tx n cnt E M N) (hL : pu_Lv E cnt M N i d s p) (hk : M.1 76 7 ≠ 0) (hk6 : M.1 76 7 ≠ 6) : ∃ M' N', nb_R nb_P 225 0 [(13, 76)] [] M = some ([], M') ∧ nb_R nb_P 91 0 [(20, 603), (98, 0), (98, 0), (98, 0)] [] N = some ([], N') ∧ pu_Ba So tx n cnt E M' N' ∧ pu_Lv E cnt M' N' (i + 1) d s p ∧ pu_cf M M' ∧ pu_mf N N' := by
  obtain ⟨l1, l2, l3, l4, l5, l6, l7, l8, l9, l10⟩ := hL
  obtain ⟨c1, c2⟩ := hB.ctn
  have hB' := hB
  obtain ⟨W, WN, hSo, h764, hT, hn, htx, h3, h5⟩ := hB'
  have ic : i < cnt := by
    by_cases q : i = cnt
    · subst q
      exact absurd (l5.trans (l7 rfl)) hk
    · omega
  have hst : nb_R nb_P 225 0 [(13, 76)] [] M = some ([], nb_wr (nb_wr (nb_wr M 76 6 ((i : Int) + 1)) 76 7 (M.1 78 ((i : Int) + 1))) 76 8 (M.1 80 ((i : Int) + 1))) := by
    refine nb_Wq (w_rd_step_0 W hSo h764 ?_)
    rw [l3, c1, nb_add_eq (by omega) (by omega)]
    exact ⟨fun _ => ⟨fun _ => ⟨fun _ => ⟨by omega, by omega, fun _ => ⟨rfl, rfl⟩⟩, fun z => absurd z (by omega)⟩, fun z => absurd z (by omega)⟩, fun z => absurd l1 z⟩
  have hcf : pu_cf M (nb_wr (nb_wr (nb_wr M 76 6 ((i : Int) + 1)) 76 7 (M.1 78 ((i : Int) + 1))) 76 8 (M.1 80 ((i : Int) + 1))) := (((pu_cf.id W).wr (by decide)).wr (by decide)).wr (by decide)
  generalize hM' : nb_wr (nb_wr (nb_wr M 76 6 ((i : Int) + 1)) 76 7 (M.1 78 ((i : Int) + 1))) 76 8 (M.1 80 ((i : Int) + 1)) = M' at hst hcf
  have m6 : M'.1 76 6 = (i : Int) + 1 := by rw [← hM', nb_wr_1, if_neg (by omega), nb_wr_1, if_neg (by omega), nb_wr_1, if_pos ⟨rfl, rfl⟩]
  have m7 : M'.1 76 7 = M.1 78 ((i : Int) + 1) := by rw [← hM', nb_wr_1, if_neg (by omega), nb_wr_1, if_pos ⟨rfl, rfl⟩]
  have m8 : M'.1 76 8 = M.1 80 ((i : Int) + 1) := by rw [← hM', nb_wr_1, if_pos ⟨rfl, rfl⟩]
  have m9 : M'.1 76 9 = M.1 76 9 := by rw [← hM', nb_wr_1, if_neg (by omega), nb_wr_1, if_neg (by omega), nb_wr_1, if_neg (by omega)]
  have m5 : M'.1 76 5 = M.1 76 5 := by rw [← hM', nb_wr_1, if_neg (by omega), nb_wr_1, if_neg (by omega), nb_wr_1, if_neg (by omega)]
  have q78 := hcf.2.2.1 78 (by decide) (by decide) (by decide) (by decide)
  have q79 := hcf.2.2.1 79 (by decide) (by decide) (by decide) (by decide)
  have q80 := hcf.2.2.1 80 (by decide) (by decide) (by decide) (by decide)
  have q81 : M'.1 81 = M.1 81 := by rw [← hM', nb_wr_b (by decide), nb_wr_b (by decide), nb_wr_b (by decide)]
  have q82 : M'.1 82 = M.1 82 := by rw [← hM', nb_wr_b (by decide), nb_wr_b (by decide), nb_wr_b (by decide)]
  have q83 : M'.1 83 = M.1 83 := by rw [← hM', nb_wr_b (by decide), nb_wr_b (by decide), nb_wr_b (by decide)]
  have fin : ∀ N' : nb_M, nb_R nb_P 91 0 [(20, 603), (98, 0), (98, 0), (98, 0)] [] N = some ([], N') → pu_nt N N' → (i + 1 = cnt → M.1 78 cnt = 0) → pu_rt N' (M.1 79 ((i : Int) + 1)) (M.1 78 ((i : Int) + 1)) (M.1 80 ((i : Int) + 1)) → (i + 1 < cnt → N'.1 603 5 = E (i + 2)) → ∃ M' N', nb_R nb_P 225 0 [(13, 76)] [] M = some ([], M') ∧ nb_R nb_P 91 0 [(20, 603), (98, 0), (98, 0), (98, 0)] [] N = some ([], N') ∧ pu_Ba So tx n cnt E M' N' ∧ pu_Lv E cnt M' N' (i + 1) d s p ∧ pu_cf M M' ∧ pu_mf N N' := fun N' e nt z0 rt z5 => by
    refine ⟨M', N', hst, e, hB.mv hcf nt.mf (by rw [m5]; exact h5), ⟨m9.trans l1, (nt.2.2.2 13 (by decide)).trans l2, by rw [m6]; omega, by omega, ?_, ?_, fun q => ?_, ?_, z5, l10.congr m5 q81 q82 q83 (fun j _ => by rw [nt.2.2.1 607 (by decide) (by decide)])⟩, hcf, nt.mf⟩
    · rw [m7, q78, show ((i + 1 : Nat) : Int) = (i : Int) + 1 by omega]
    · rw [m8, q80, show ((i + 1 : Nat) : Int) = (i : Int) + 1 by omega]
    · rw [q78]; exact z0 q
    · rw [m7, m8, q79, show ((i + 1 : Nat) : Int) = (i : Int) + 1 by omega]
      exact rt
  obtain ⟨⟨t1, t2, t3, t4, t5⟩, t6, t7, t8⟩ := hT
  by_cases q : i + 1 < cnt
  · have g := t4 (i + 1) q
    rw [← htx, show ((i + 1 : Nat) : Int) = (i : Int) + 1 by omega] at g
    obtain ⟨r, N', e, hr, g1, g2, g3⟩ := sp_m_nextToken_A (v1 := (98, 0)) (v2 := (98, 0)) (v3 := (98, 0)) WN h3.1 hn (l9 ic) g
    subst hr
    exact fin N' e g3 (fun z => absurd z (by omega)) g1 (fun _ => g2)
  · have ec : cnt = i + 1 := by omega
    rcases t8 with ⟨u1, u2, u3⟩ | ⟨u1, u2, u3⟩
    · rw [ec, ← htx] at u2
      obtain ⟨r, N', e, hr, g1, g3⟩ := sp_m_nextToken_E (v1 := (98, 0)) (v2 := (98, 0)) (v3 := (98, 0)) WN h3.1 hn (l9 ic) u2
      subst hr
      have ec2 : ((i : Int) + 1) = cnt := by omega
      refine fin N' e g3 (fun _ => u1) ?_ (fun z => absurd z (by omega))
      rw [ec2, t6, u1, t7]
      exact g1
    · exfalso
      rw [show ((cnt : Nat) : Int) - 1 = (i : Int) by omega] at u3
      exact hk6 (l5.trans u3)
theorem rl_fail {i : Nat} {f : Int} (hf : f ≠ 0) (hB : pu_Ba So tx n cnt E M N) (hL : pu_Lv E cnt M N i d s p) : ∃ M' N', nb_R nb_P 226 0 [(13, 76), (0, f)] [] M = some ([], M') ∧ nb_R nb_P 92 0 [(20, 603), (0, f), (0, N.1 603 4)] [] N = some ([], N') ∧ pu_Ba So tx n cnt E M' N' ∧ pu_Dd M' N' ∧ pu_cf M M' ∧ pu_mf N N' := by
  obtain ⟨l1, l2, l3, l4, l5, l6, l7, l8, l9, l10⟩ := hL
  obtain ⟨c1, c2⟩ := hB.ctn
  have hB' := hB
  obtain ⟨W, WN, hSo, h764, hT, hn, htx, h3, h5⟩ := hB'
  have hcf : pu_cf M (nb_wr (nb_wr M 76 9 f) 76 10 (M.1 79 i)) := ((pu_cf.id W).wr (by decide)).wr (by decide)
  have hmf : pu_mf N (nb_wr (nb_wr (nb_wr N 603 13 1) 603 9 f) 603 10 (N.1 603 4)) := pu_mf.wrg WN
  refine ⟨nb_wr (nb_wr M 76 9 f) 76 10 (M.1 79 i), nb_wr (nb_wr (nb_wr N 603 13 1) 603 9 f) 603 10 (N.1 603 4), ?_, ?_, hB.mv hcf hmf ?_, ⟨?_, ?_, ?_, ?_⟩, hcf, hmf⟩
  · refine nb_Wq (w_rd_fail_0 W hSo h764 ?_)
    rw [l3]
    exact ⟨fun _ => ⟨by omega, by omega, fun _ => ⟨rfl, rfl⟩⟩, fun z => absurd l1 z⟩
  · exact nb_Wq (w_m_wrong_0 WN ⟨fun _ _ => ⟨rfl, rfl⟩, fun z => absurd l2 z⟩)
  · rw [nb_wr_1, if_neg (by omega), nb_wr_1, if_neg (by omega)]; exact h5
  · rw [nb_wr_1, if_neg (by omega), nb_wr_1, if_pos ⟨rfl, rfl⟩]; exact hf
  · rw [nb_wr_1, if_neg (by omega), nb_wr_1, if_neg (by omega), nb_wr_1, if_pos ⟨rfl, rfl⟩]
  · rw [nb_wr_1, if_neg (by omega), nb_wr_1, if_pos ⟨rfl, rfl⟩, nb_wr_1, if_neg (by omega), nb_wr_1, if_pos ⟨rfl, rfl⟩]
  · rw [nb_wr_1, if_pos ⟨rfl, rfl⟩, nb_wr_1, if_pos ⟨rfl, rfl⟩]; exact l8.1
/-- a word that must stand -/
theorem rl_word {kc kr : Int} (hc : pu_tok kc) (hr : pu_tok kr) (hv : pu_tv kc = pu_tv kr) (h : pu_RL So tx n cnt E M N j d s p) : ∃ (x : Int) (M0 M1 N1 : nb_M), nb_R nb_P 227 0 [(13, 76), (2, kc)] [] M = some ([(0, x)], M) ∧ (x = 0 → nb_R nb_P 226 0 [(13, 76), (0, 1)] [] M = some ([], M0)) ∧ (x ≠ 0 → M0 = M) ∧ nb_R nb_P 225 0 [(13, 76)] [] M0 = some ([], M1) ∧ nb_R nb_P 95 0 [(20, 603), (2, kr)] [] N = some ([], N1) ∧ pu_RL So tx n cnt E M1 N1 j d s p ∧ pu_cf M M0 ∧ pu_cf M M1 ∧ pu_mf N N1 := by
  obtain ⟨hB, h⟩ := h
  have hB' := hB
  obtain ⟨W, WN, hSo, h764, hT, hn, htx, h3, h5⟩ := hB'
  obtain ⟨x, x1, x2, x3⟩ := sp_rd_stands W hSo h764 hc
  obtain ⟨y, y1, y2, y3⟩ := sp_m_isWord (v2 := (98, 0)) (v3 := (98, 0)) WN hr
  rcases h with ⟨i, hi, hL⟩ | hD
  · have hL' := hL
    obtain ⟨l1, l2, l3, l4, l5, l6, l7, l8, l9, l10⟩ := hL'
    have iff := pu_isw_iff l8 l2 hr
    rw [← hv] at iff
    by_cases c : x = 1
    · have hw := x2.1 c
      have y1' := y2.2 (iff.2 hw)
      subst c y1'
      obtain ⟨M1, N1, s1, s2, s3, s4, s5, s6⟩ := rl_step hB hL (by omega) (by omega)
      refine ⟨1, M, M1, N1, x3, fun z => absurd z (by decide), fun _ => rfl, s1, ?_, ⟨s3, Or.inl ⟨i + 1, by omega, s4⟩⟩, pu_cf.id W, s5, s6⟩
      refine nb_Wq (w_m_must_0 WN ⟨fun _ => nb_Wp (M2 := N1) (nb_Wq (w_m_takesWord_0 WN (nb_Wp y3 ⟨1, rfl, WN, fun z => absurd z (by decide), fun _ => nb_Wp s2 ⟨rfl, s6.1, fun _ => ⟨rfl, rfl⟩⟩⟩))) ⟨1, rfl, s6.1, fun z => absurd z (by decide), fun _ _ => ⟨rfl, rfl⟩⟩, fun z => absurd l2 z⟩)
    · have x0 : x = 0 := by omega
      have y0 : y = 0 := by
        rcases y1 with y1 | y1
        · exact y1
        · exact absurd (x2.2 (iff.1 (y2.1 y1))) c
      subst x0 y0
      obtain ⟨M1, N1, s1, s2, s3, s4, s5, s6⟩ := rl_fail (f := 1) (by decide) hB hL
      refine ⟨0, M1, M1, N1, x3, fun _ => s1, fun z => absurd rfl z, dd_step s5.1 hSo (s5.2.2.2.trans h764) s4.1, ?_, ⟨s3, Or.inr s4⟩, s5, s5, s6⟩
      refine nb_Wq (w_m_must_0 WN ⟨fun _ => nb_Wp (M2 := N) (nb_Wq (w_m_takesWord_0 WN (nb_Wp y3 ⟨0, rfl, WN, fun _ _ => ⟨rfl, rfl⟩, fun z => absurd rfl z⟩))) ⟨0, rfl, WN, fun _ => nb_Wp s2 ⟨rfl, s6.1, fun _ => ⟨rfl, rfl⟩⟩, fun z => absurd rfl z⟩, fun z => absurd l2 z⟩)
  · refine ⟨x, M, M, N, x3, fun _ => dd_fail W hSo h764 hD.1, fun _ => rfl, dd_step W hSo h764 hD.1, ?_, ⟨hB, Or.inr hD⟩, pu_cf.id W, pu_cf.id W, pu_mf.id WN⟩
    exact nb_Wq (w_m_must_0 WN ⟨fun z => absurd z (by have := hD.2.1; omega), fun _ _ => ⟨rfl, rfl⟩⟩)
theorem rl_expect {kc kr : Int} (hc : pu_tok kc) (hr : pu_tok kr) (hv : pu_tv kc = pu_tv kr) (h : pu_RL So tx n cnt E M N j d s p) : ∃ (M1 N1 : nb_M), nb_R nb_P 242 0 [(13, 76), (2, kc)] [] M = some ([], M1) ∧ nb_R nb_P 95 0 [(20, 603), (2, kr)] [] N = some ([], N1) ∧ pu_RL So tx n cnt E M1 N1 j d s p ∧ pu_cf M M1 ∧ pu_mf N N1 := by
  obtain ⟨x, M0, M1, N1, a1, a2, a3, a4, a5, a6, a7, a8, a9⟩ := rl_word hc hr hv h
  obtain ⟨W, WN, hSo, h764, -⟩ := h.1
  refine ⟨M1, N1, nb_Wq (w_rd_expect_0 W hSo h764 (nb_Wp a1 ⟨x, rfl, W, h764, fun z => nb_Wp (a2 z) ⟨rfl, a7.1, a7.2.2.2.trans h764, nb_Wp a4 ⟨rfl, a8.1, a8.2.2.2.trans h764, fun _ => ⟨rfl, rfl⟩⟩⟩, fun z => ?_⟩)), a5, a6, a8, a9⟩
  have e := a3 z
  subst e
  exact nb_Wp a4 ⟨rfl, a8.1, a8.2.2.2.trans h764, fun _ => ⟨rfl, rfl⟩⟩
theorem dd_whole {lo hi : Int} {v3 : nb_V} (W : nb_Lay M) (hSo : nb_hs So) (h4 : M.1 76 4 = So) (hf : M.1 76 9 ≠ 0) : nb_R nb_P 244 0 [(13, 76), (0, lo), (0, hi), v3] [] M = some ([(0, nb_l2i (M.1 76 8))], M) := by
  have fs : ∀ f : Int, nb_W 226 0 [(13, 76), (0, f)] [] M (fun r M4 => r = [] ∧ nb_Lay M4 ∧ M4.1 76 4 = So ∧ nb_W 225 0 [(13, 76)] [] M4 (fun r M8 => r = [] ∧ nb_Lay M8 ∧ M8.1 76 4 = So ∧ (nb_Lay M8 → ([((0 : Nat), nb_l2i (M.1 76 8))] : List nb_V) = [(0, nb_l2i (M.1 76 8))] ∧ M8 = M))) := fun f => nb_Wp (dd_fail W hSo h4 hf) ⟨rfl, W, h4, nb_Wp (dd_step W hSo h4 hf) ⟨rfl, W, h4, fun _ => ⟨rfl, rfl⟩⟩⟩
  exact nb_Wq (w_rd_whole_0 W hSo h4 ⟨fun _ => ⟨fun _ => fs 4, fun _ => ⟨fun _ => fs 4, fun _ => nb_Wp (dd_step W hSo h4 hf) ⟨rfl, W, h4, fun _ => ⟨rfl, rfl⟩⟩⟩⟩, fun _ => fs 1⟩)
theorem dm_number {lo hi : Int} {v3 : nb_V} (W : nb_Lay N) (hf : N.1 603 13 ≠ 0) : nb_R nb_P 102 0 [(20, 603), (0, lo), (0, hi), v3] [] N = some ([(0, lo)], N) := nb_Wq (w_m_number_0 W ⟨fun z => absurd z hf, fun _ _ => ⟨rfl, rfl⟩⟩)
theorem rl_whole {lo hi lo2 hi2 : Int} (h : pu_RL So tx n cnt E M N j d s p) (hb : M.1 76 9 = 0 → lo = lo2 ∧ hi = hi2) : ∃ (x y : Int) (M1 N1 : nb_M), nb_R nb_P 244 0 [(13, 76), (0, lo), (0, hi), (98, 0)] [] M = some ([(0, x)], M1) ∧ nb_R nb_P 102 0 [(20, 603), (0, lo2), (0, hi2), (98, 0)] [] N = some ([(0, y)], N1) ∧ pu_RL So tx n cnt E M1 N1 j d s p ∧ pu_cf M M1 ∧ pu_mf N N1 ∧ (M1.1 76 9 = 0 → x = y ∧ lo ≤ x ∧ x ≤ hi) := by
  obtain ⟨hB, h⟩ := h
  have hB' := hB
  obtain ⟨W, WN, hSo, h764, hT, hn, htx, h3, h5⟩ := hB'
  rcases h with ⟨i, hi', hL⟩ | hD
  · have hL' := hL
    obtain ⟨l1, l2, l3, l4, l5, l6, l7, l8, l9, l10⟩ := hL'
    obtain ⟨e1, e2⟩ := hb l1
    subst e1 e2
    -- a fault
    have bad : ∀ f : Int, f ≠ 0 → ∃ (M1 N1 : nb_M), nb_W 226 0 [(13, 76), (0, f)] [] M (fun r M4 => r = [] ∧ nb_Lay M4 ∧ M4.1 76 4 = So ∧ nb_W 225 0 [(13, 76)] [] M4 (fun r M8 => r = [] ∧ nb_Lay M8 ∧ M8.1 76 4 = So ∧ (nb_Lay M8 → ([((0 : Nat), nb_l2i (M.1 76 8))] : List nb_V) = [(0, nb_l2i (M.1 76 8))] ∧ M8 = M1))) ∧ nb_W 92 0 [(20, 603), (0, f), (0, N.1 603 4)] [] N (fun r M7 => r = [] ∧ nb_Lay M7 ∧ (nb_Lay M7 → ([((0 : Nat), lo)] : List nb_V) = [(0, lo)] ∧ M7 = N1)) ∧ pu_RL So tx n cnt E M1 N1 j d s p ∧ pu_cf M M1 ∧ pu_mf N N1 ∧ M1.1 76 9 ≠ 0 := fun f hf => by
      obtain ⟨M1, N1, s1, s2, s3, s4, s5, s6⟩ := rl_fail hf hB hL
      have q4 := s5.2.2.2.trans h764
      exact ⟨M1, N1, nb_Wp s1 ⟨rfl, s5.1, q4, nb_Wp (dd_step s5.1 hSo q4 s4.1) ⟨rfl, s5.1, q4, fun _ => ⟨rfl, rfl⟩⟩⟩, nb_Wp s2 ⟨rfl, s6.1, fun _ => ⟨rfl, rfl⟩⟩, ⟨s3, Or.inr s4⟩, s5, s6, s4.1⟩
    by_cases c3 : M.1 76 7 = 3
    · have rt : N.1 603 6 = 3 ∧ N.1 603 7 = M.1 76 8 ∧ 0 ≤ M.1 76 8 ∧ M.1 76 8 ≤ 999 := by
        rcases l8.2 with q | q | q | q | q | q <;> first | omega | (exact ⟨q.2.1, q.2.2.1, q.2.2.2.1, q.2.2.2.2⟩)
      have e8 : nb_l2i (M.1 76 8) = M.1 76 8 := nb_l2i_eq (by omega) (by omega)
      by_cases cb : lo ≤ M.1 76 8 ∧ M.1 76 8 ≤ hi
      · obtain ⟨M1, N1, s1, s2, s3, s4, s5, s6⟩ := rl_step hB hL (by omega) (by omega)
        refine ⟨M.1 76 8, M.1 76 8, M1, N1, nb_Wq (w_rd_whole_0 W hSo h764 ?_), nb_Wq (w_m_number_0 WN ?_), ⟨s3, Or.inl ⟨i + 1, by omega, s4⟩⟩, s5, s6, fun _ => ⟨rfl, cb.1, cb.2⟩⟩
        · rw [e8]
          exact ⟨fun _ => ⟨fun z => absurd z (by omega), fun _ => ⟨fun z => absurd z (by omega), fun _ => nb_Wp s1 ⟨rfl, s5.1, s5.2.2.2.trans h764, fun _ => ⟨rfl, rfl⟩⟩⟩⟩, fun z => absurd c3 z⟩
        · rw [rt.2.1]
          exact ⟨fun _ => ⟨fun _ => ⟨fun z => absurd z (by omega), fun _ => ⟨fun z => absurd z (by omega), fun _ => nb_Wp s2 ⟨rfl, s6.1, fun _ => ⟨rfl, rfl⟩⟩⟩⟩, fun z => absurd rt.1 z⟩, fun z => absurd l2 z⟩
      · obtain ⟨M1, N1, b1, b2, b3, b4, b5, b6⟩ := bad 4 (by decide)
        refine ⟨nb_l2i (M.1 76 8), lo, M1, N1, nb_Wq (w_rd_whole_0 W hSo h764 ?_), nb_Wq (w_m_number_0 WN ?_), b3, b4, b5, fun z => absurd z b6⟩
        · exact ⟨fun _ => ⟨fun _ => b1, fun _ => ⟨fun _ => b1, fun z => absurd z (by omega)⟩⟩, fun z => absurd c3 z⟩
        · rw [rt.2.1]
          exact ⟨fun _ => ⟨fun _ => ⟨fun _ => b2, fun _ => ⟨fun _ => b2, fun z => absurd z (by omega)⟩⟩, fun z => absurd rt.1 z⟩, fun z => absurd l2 z⟩
    · have rt : N.1 603 6 ≠ 3 := by
        rcases l8.2 with q | q | q | q | q | q <;> omega
      obtain ⟨M1, N1, b1, b2, b3, b4, b5, b6⟩ := bad 1 (by decide)
      exact ⟨nb_l2i (M.1 76 8), lo, M1, N1, nb_Wq (w_rd_whole_0 W hSo h764 ⟨fun z => absurd z c3, fun _ => b1⟩), nb_Wq (w_m_number_0 WN ⟨fun _ => ⟨fun z => absurd z rt, fun _ => b2⟩, fun z => absurd l2 z⟩), b3, b4, b5, fun z => absurd z b6⟩
  · exact ⟨nb_l2i (M.1 76 8), lo2, M, N, dd_whole W hSo h764 hD.1, dm_number WN (by have := hD.2.1; omega), ⟨hB, Or.inr hD⟩, pu_cf.id W, pu_mf.id WN, fun z => absurd z hD.1⟩
theorem rl_number {kc kr lo hi lo2 hi2 : Int} (hc : pu_tok kc) (hr : pu_tok kr) (hv : pu_tv kc = pu_tv kr) (h : pu_RL So tx n cnt E M N j d s p) (hb : M.1 76 9 = 0 → lo = lo2 ∧ hi = hi2) : ∃ (x y : Int) (M1 N1 : nb_M), nb_R nb_P 243 0 [(13, 76), (2, kc), (0, lo), (0, hi)] [] M = some ([(0, x)], M1) ∧ nb_R nb_P 103 0 [(20, 603), (2, kr), (0, lo2), (0, hi2)] [] N = some ([(0, y)], N1) ∧ pu_RL So tx n cnt E M1 N1 j d s p ∧ pu_cf M M1 ∧ pu_mf N N1 ∧ (M1.1 76 9 = 0 → M.1 76 9 = 0 ∧ x = y ∧ lo ≤ x ∧ x ≤ hi) := by
  obtain ⟨x, M0, M1, N1, a1, a2, a3, a4, a5, a6, a7, a8, a9⟩ := rl_word hc hr hv h
  obtain ⟨W, WN, hSo, h764, -⟩ := h.1
  -- a live one was live before
  have back : M1.1 76 9 = 0 → M.1 76 9 = 0 := fun z => by
    by_cases q : M.1 76 9 = 0
    · exact q
    · exfalso
      have e0 : M0 = M := by
        by_cases x0 : x = 0
        · have e := (a2 x0).symm.trans (dd_fail W hSo h764 q)
          simp only [Option.some.injEq, Prod.mk.injEq, true_and] at e
          exact e
        · exact a3 x0
      subst e0
      have e := a4.symm.trans (dd_step W hSo h764 q)
      simp only [Option.some.injEq, Prod.mk.injEq, true_and] at e
      rw [e] at z
      exact q z
  obtain ⟨u, v, M2, N2, b1, b2, b3, b4, b5, b6⟩ := rl_whole (lo := lo) (hi := hi) (lo2 := lo2) (hi2 := hi2) a6 (fun z => hb (back z))
  have q4 := a8.2.2.2.trans h764
  have q5 := b4.2.2.2.trans q4
  have live2 : M2.1 76 9 = 0 → M1.1 76 9 = 0 := fun z => by
    by_cases q : M1.1 76 9 = 0
    · exact q
    · exfalso
      have e := b1.symm.trans (dd_whole a8.1 hSo q4 q)
      simp only [Option.some.injEq, Prod.mk.injEq] at e
      rw [e.2] at z
      exact q z
  refine ⟨u, v, M2, N2, nb_Wq (w_rd_number_0 W hSo h764 (nb_Wp a1 ⟨x, rfl, W, h764, fun z => nb_Wp (a2 z) ⟨rfl, a7.1, a7.2.2.2.trans h764, nb_Wp a4 ⟨rfl, a8.1, q4, nb_Wp b1 ⟨u, rfl, b4.1, q5, fun _ => ⟨rfl, rfl⟩⟩⟩⟩, fun z => ?_⟩)), nb_Wq (w_m_after_0 WN (nb_Wp a5 ⟨rfl, a9.1, nb_Wp b2 ⟨v, rfl, b5.1, fun _ => ⟨rfl, rfl⟩⟩⟩)), b3, a8.tr b4, a9.tr b5, fun z => ⟨back (live2 z), b6 z⟩⟩
  have e := a3 z
  subst e
  exact nb_Wp a4 ⟨rfl, a8.1, q4, nb_Wp b1 ⟨u, rfl, b4.1, q5, fun _ => ⟨rfl, rfl⟩⟩⟩
