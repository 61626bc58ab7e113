/-! ROWS OF ORDERS: the class's side -/
theorem pu_CQ.rows {M N : nb_M} {tr a i v : Int} (h : pu_CQ M N tr) (ha : (a = 130 ∧ i = 3) ∨ a = 131 ∨ (133 ≤ a ∧ a < 141) ∨ (a = 141 ∧ 8 ≤ i)) : pu_CQ M (nb_wr N a i v) tr := by
  obtain ⟨h1, h2, h3, h4⟩ := h
  refine ⟨h1.wr (fun w => ?_), h2, ?_, fun b j p q => ?_⟩
  · rcases ha with ⟨rfl, rfl⟩ | rfl | ha | ⟨rfl, ha⟩
    · exact nb_nlit (by decide) (by decide)
    · exact nb_nnum (by decide) (by decide)
    · exact nb_nnum2 (by omega)
    · exact nb_nnum2 (by omega)
  · rw [nb_wr_1, if_neg (by omega)]; exact h3
  · rw [nb_wr_1, if_neg (by omega)]; exact h4 b j p q
def pu_rF (N : nb_M) (s d : Int) (i : Nat) : Int := nb_add (nb_mul (N.1 (133 + d) i) (pu_ones s)) (N.1 141 (pu_rm s i * 8 + i))
theorem sp_rw_sumWith {N : nb_M} {s d i : Nat} (W : nb_Lay N) (hs : s < 128) (hd : d ≤ 7) (hi : i ≤ 6) : nb_W 249 0 [(14, 130), (0, (s : Int)), (0, (d : Int)), (0, (i : Int))] [] N (fun r' N' => r' = [(0, pu_rF N s d i)] ∧ N' = N) := by
  have g := pu_rm_all s hs i (by omega)
  unfold pu_rm at g
  refine w_rw_sumWith_0 W (by omega) (by omega) (by omega) (by omega) ⟨by omega, by omega, fun _ => ⟨rfl, rfl⟩⟩
theorem sp_rw_firstOf {N : nb_M} {s d cnt : Nat} {v3 v4 v5 v6 : nb_V} (W : nb_Lay N) (h3 : N.1 130 3 = cnt) (h7 : cnt ≤ 7) (hs : s < 128) (hd : d ≤ 7) : nb_W 250 0 [(14, 130), (0, (s : Int)), (0, (d : Int)), v3, v4, v5, v6] [] N (fun r' N' => r' = [(0, ((pu_vf (pu_rF N s d) s cnt).1 : Int))] ∧ N' = N) := by
  refine w_rw_firstOf_0 W ?_
  suffices hl : ∀ (n j : Nat) (v6 : nb_V), j + n = cnt → nb_W 250 1 [(14, 130), (0, (s : Int)), (0, (d : Int)), (0, ((pu_vf (pu_rF N s d) s j).1 : Int)), (0, (pu_vf (pu_rF N s d) s j).2), (0, (j : Int)), v6] [] N (fun r' N' => r' = [(0, ((pu_vf (pu_rF N s d) s cnt).1 : Int))] ∧ N' = N) from hl cnt 0 v6 (by omega)
  intro n
  induction n with
  | zero =>
    intro j v6 hj
    have e : j = cnt := by omega
    subst e
    exact w_rw_firstOf_1 W (by omega) (by omega) ⟨fun c => absurd c (by omega), fun _ _ => ⟨rfl, rfl⟩⟩
  | succ n ih =>
    intro j v6 hj
    refine w_rw_firstOf_1 W (by omega) (by omega) ⟨fun c => ⟨fun b => ?_, fun b => ?_⟩, fun c => absurd c (by omega)⟩
    · refine nb_W.imp (sp_rw_sumWith (i := j) W hs hd (by omega)) ?_
      rintro r' N' ⟨rfl, rfl⟩
      refine ⟨_, rfl, W, fun z => ?_, fun z => ?_⟩
      · have e : pu_vf (pu_rF N' s d) s (j + 1) = (j, pu_rF N' s d j) := if_pos ⟨b, z⟩
        have g := ih (j + 1) (0, pu_rF N' s d j) (by omega)
        rw [e] at g
        exact g
      · have e : pu_vf (pu_rF N' s d) s (j + 1) = pu_vf (pu_rF N' s d) s j := if_neg (fun q => absurd q.2 (by omega))
        have g := ih (j + 1) (0, pu_rF N' s d j) (by omega)
        rw [e] at g
        exact g
    · have e : pu_vf (pu_rF N s d) s (j + 1) = pu_vf (pu_rF N s d) s j := if_neg (fun q => b q.1)
      have g := ih (j + 1) v6 (by omega)
      rw [e] at g
      exact g
/-- what the class has laid up to -/
def pu_R1 (M N : nb_M) (cnt j : Nat) : Prop := N.1 130 3 = cnt ∧ ∀ i : Nat, i < j → N.1 131 i = pu_rw M i
def pu_R2 (M N : nb_M) (s : Int) (cnt j : Nat) : Prop := ∀ (d : Int) (i : Nat), pu_vl cnt d → i < j → N.1 (133 + d) i = pu_rT M s d i
def pu_R3 (M N : nb_M) (s : Int) (cnt : Nat) (S : Int) : Prop := ∀ (x d : Nat), (x : Int) < S → pu_vl cnt d → N.1 141 (x * 8 + d) = (pu_vb (pu_rT M s) cnt (pu_ones x).toNat x d).2
def pu_R4 (M N : nb_M) (s : Int) (cnt : Nat) : Prop := pu_R1 M N cnt cnt ∧ pu_R2 M N s cnt cnt ∧ pu_R3 M N s cnt (nb_shl 1 cnt)
/-- the sums that count -/
theorem pu_rF_eq {M N : nb_M} {s : Int} {cnt S d n i : Nat} (h7 : cnt ≤ 7) (hT : ∀ (d : Int) (i : Nat), pu_vl cnt d → i < cnt → 0 ≤ pu_rT M s d i ∧ pu_rT M s d i ≤ 4500) (h2 : pu_R2 M N s cnt cnt) (h3 : pu_R3 M N s cnt S) (hd : pu_vl cnt d) (hS : (S : Int) < nb_shl 1 cnt) (ho : pu_ones S = n + 1) (hi : i < cnt) (hb : pu_bit S i) : pu_rF N S d i = ((n : Int) + 1) * pu_rT M s d i + (pu_vb (pu_rT M s) cnt n (pu_rm S i) i).2 := by
  have hp := pu_pow7 cnt h7
  have hs7 : S < 128 := by omega
  have g := pu_rm_in S hs7 i (by omega) hb
  have g0 := pu_rm_all S hs7 i (by omega)
  have o7 := pu_ones_7 S hs7
  obtain ⟨m, hm⟩ : ∃ m : Nat, pu_rm S i = m := ⟨(pu_rm S i).toNat, by omega⟩
  have e3 := h3 m i (by omega) (Or.inl ⟨by omega, by omega⟩)
  rw [hm] at g
  have en : (pu_ones m).toNat = n := by omega
  rw [en] at e3
  have vb := (pu_vb_ok (T := pu_rT M s) h7 hT n m i (Or.inl ⟨by omega, by omega⟩) (by omega) (by omega)).1
  have t := hT d i hd hi
  have mm := pu_mul (x := (n : Int) + 1) (y := pu_rT M s d i) (a := 7) (b := 4500) (by omega) t
  unfold pu_rF
  rw [h2 d i hd hi, hm, e3, ho, nb_mul_eq (by rw [Int.mul_comm]; omega) (by rw [Int.mul_comm]; omega), nb_add_eq (by rw [Int.mul_comm]; omega) (by rw [Int.mul_comm]; omega), Int.mul_comm]
/-- the first of the row, and the sum -/
theorem pu_rF_vb {M N : nb_M} {s : Int} {cnt S d n : Nat} (h7 : cnt ≤ 7) (hT : ∀ (d : Int) (i : Nat), pu_vl cnt d → i < cnt → 0 ≤ pu_rT M s d i ∧ pu_rT M s d i ≤ 4500) (h2 : pu_R2 M N s cnt cnt) (h3 : pu_R3 M N s cnt S) (hd : pu_vl cnt d) (hS : (S : Int) < nb_shl 1 cnt) (ho : pu_ones S = n + 1) : pu_vf (pu_rF N S d) S cnt = pu_vb (pu_rT M s) cnt (n + 1) S d ∧ pu_rF N S d (pu_vb (pu_rT M s) cnt (n + 1) S d).1 = (pu_vb (pu_rT M s) cnt (n + 1) S d).2 := by
  have e : pu_vf (pu_rF N S d) S cnt = pu_vb (pu_rT M s) cnt (n + 1) S d := pu_vf_congr cnt (fun i hi hb => pu_rF_eq h7 hT h2 h3 hd hS ho hi hb)
  refine ⟨e, ?_⟩
  have k := pu_vb_ok (T := pu_rT M s) h7 hT (n + 1) S d hd hS (by omega)
  have k2 := (pu_ones_7 S (by have := pu_pow7 cnt h7; omega)).2
  rw [← e] at k ⊢
  rcases pu_vf_or (f := pu_rF N S d) (s := S) cnt with ⟨a, b⟩ | ⟨a, b, c⟩
  · rw [a] at k
    have := k.1
    omega
  · exact c.symm
theorem sp_rw_settle {M N : nb_M} {k s : Int} {cnt : Nat} {v3 v4 : nb_V} (hI : pu_I M k) (hq : pu_CQ M N 0) (hc : (cnt : Int) = pu_cnt (M.1 608) 1 (M.1 606 5).toNat) (h7 : cnt ≤ 7) (hs : 0 ≤ s ∧ s < M.1 606 4) : nb_W 248 0 [(14, 130), (15, 84), (0, s), v3, v4] [] N (fun r' N' => r' = [] ∧ pu_CQ M N' 0 ∧ pu_R4 M N' s cnt) := by
  obtain ⟨Ho, hHo, hx2, hx3, hh, hSn, hTT, h14, hI7, hL⟩ := pu_I_at hI
  have hr := hTT.1
  have n5 := hr.2.2.2.2.2.2.1
  have n4 := hr.2.2.2.2.2.1
  have hz := hI.2.1.2.2.2.1
  have hT : ∀ (d : Int) (i : Nat), pu_vl cnt d → i < cnt → 0 ≤ pu_rT M s d i ∧ pu_rT M s d i ≤ 4500 := fun d i hd hi => pu_rT_ok hr hc d i hd hi
  have hp := pu_pow7 cnt h7
  have hSN : ∀ N, pu_CQ M N 0 → pu_Sn N 84 Ho (M.1 606) (M.1 608) k := fun N q => pu_Sn_keep hr (Int.le_refl k) hSn (fun a i x y => q.2.2.2 a i (Or.inl (by omega)) (Or.inl (by omega)))
  refine w_rw_settle_0 hq.1 hHo (hSN N hq).2.2.2.1 ?_
  refine nb_Wp (sp_sc_countOf hq.1 nb_sc84 n5 (hSN N hq).1) ⟨_, rfl, hq.1, (hSN N hq).2.2.2.1, ?_⟩
  rw [← hc, show (if (cnt : Int) < 7 then (cnt : Int) else 7) = cnt by split <;> omega]
  -- who
  suffices hl : ∀ (n j : Nat), j + n = cnt → ∀ N, pu_CQ M N 0 → pu_R1 M N cnt j → nb_W 248 4 [(14, 130), (15, 84), (0, s), (0, (j : Int)), v4] [] N (fun r' N' => r' = [] ∧ pu_CQ M N' 0 ∧ pu_R4 M N' s cnt) from hl cnt 0 (by omega) _ (hq.rows (Or.inl ⟨rfl, rfl⟩)) ⟨by rw [nb_wr_1, if_pos ⟨rfl, rfl⟩], fun i hi => absurd hi (by omega)⟩
  clear hq N
  intro n
  induction n with
  | succ n ih =>
    intro j hj N hq h1
    refine w_rw_settle_4 hq.1 hHo (hSN N hq).2.2.2.1 (by omega) (by have := h1.1; omega) (by omega) ⟨fun _ => ?_, fun c => absurd c (by have := h1.1; omega)⟩
    refine nb_Wp (sp_sc_waitN hq.1 nb_sc84 n5 (by omega) (hSN N hq).1) ⟨_, rfl, hq.1, (hSN N hq).2.2.2.1, by omega, by omega, ?_⟩
    refine ih (j + 1) (by omega) _ (hq.rows (Or.inr (Or.inl rfl))) ⟨?_, fun i hi => ?_⟩
    · rw [nb_wr_b (by decide)]; exact h1.1
    · by_cases e : i = j
      · subst e
        rw [nb_wr_1, if_pos ⟨rfl, rfl⟩]
        rfl
      · rw [nb_wr_1, if_neg (by omega)]; exact h1.2 i (by omega)
  | zero =>
    intro j hj N hq h1
    have e : j = cnt := by omega
    subst e
    refine w_rw_settle_4 hq.1 hHo (hSN N hq).2.2.2.1 (by omega) (by have := h1.1; omega) (by omega) ⟨fun c => absurd c (by have := h1.1; omega), fun z => ?_⟩
    -- times
    suffices hl : ∀ (n i : Nat) (v4 : nb_V), i + n = j → ∀ N, pu_CQ M N 0 → pu_R1 M N j j → pu_R2 M N s j i → nb_W 248 9 [(14, 130), (15, 84), (0, s), (0, (i : Int)), v4] [] N (fun r' N' => r' = [] ∧ pu_CQ M N' 0 ∧ pu_R4 M N' s j) from hl j 0 v4 (by omega) N hq h1 (fun d i _ hi => absurd hi (by omega))
    clear z hq h1 hj N
    intro n
    induction n with
    | succ n ih =>
      intro i v4 hi N hq h1 h2
      refine w_rw_settle_9 hq.1 hHo (hSN N hq).2.2.2.1 (by omega) (by have := h1.1; omega) (by omega) ⟨fun z => ?_, fun c => absurd c (by have := h1.1; omega)⟩
      suffices hl : ∀ (m l : Nat), l + m = j → ∀ N, pu_CQ M N 0 → pu_R1 M N j j → pu_R2 M N s j i → (∀ d : Nat, d < l → N.1 (133 + (d : Int)) i = pu_rT M s d i) → nb_W 248 11 [(14, 130), (15, 84), (0, s), (0, (i : Int)), (0, (l : Int))] [] N (fun r' N' => r' = [] ∧ pu_CQ M N' 0 ∧ pu_R4 M N' s j) from hl j 0 (by omega) N hq h1 h2 (fun d hd => absurd hd (by omega))
      clear z hq h1 h2 N
      intro m
      induction m with
      | succ m ihm =>
        intro l hl N hq h1 h2 hd
        have S := hSN N hq
        refine w_rw_settle_11 hq.1 hHo S.2.2.2.1 (by omega) (by omega) (by have := h1.1; omega) (by omega) ⟨fun _ => ?_, fun c => absurd c (by have := h1.1; omega)⟩
        have w1 := pu_rw_ok hc (i := l) (by omega)
        have w2 := pu_rw_ok hc (i := i) (by omega)
        rw [h1.2 l (by omega), h1.2 i (by omega)]
        refine nb_Wp (sp_h_timeBehind hq.1 hHo hr (hq.ho hHo hr hh) (by omega) (by omega)) ⟨_, rfl, hq.1, S.2.2.2.1, ?_⟩
        refine ihm (l + 1) (by omega) _ (hq.rows (Or.inr (Or.inr (Or.inl (by omega))))) ⟨?_, fun x hx => ?_⟩ (fun d x hv hx => ?_) (fun d hx => ?_)
        · rw [nb_wr_b (by omega)]; exact h1.1
        · rw [nb_wr_b (by omega)]; exact h1.2 x hx
        · rw [nb_wr_1, if_neg (by omega)]; exact h2 d x hv hx
        · by_cases e : d = l
          · subst e
            rw [nb_wr_1, if_pos ⟨rfl, rfl⟩]
            unfold pu_rT
            rw [if_neg (by omega)]
            rfl
          · rw [nb_wr_1, if_neg (by omega)]; exact hd d (by omega)
      | zero =>
        intro l hl N hq h1 h2 hd
        have S := hSN N hq
        have e : l = j := by omega
        subst e
        refine w_rw_settle_11 hq.1 hHo S.2.2.2.1 (by omega) (by omega) (by have := h1.1; omega) (by omega) ⟨fun c => absurd c (by have := h1.1; omega), fun _ => ?_⟩
        have w2 := pu_rw_ok hc (i := i) (by omega)
        have v7 := (S.1.2.2.2.2.2 s hs.1 hs.2).2.2.2.2.2.2.1
        have vl := S.2.2.1.2.2.2 s hs.1 hs.2
        have vr := (S.2.2.1.1.2.1 s hs.1 (by omega)).2.2.2
        rw [show (84 : Int) + 14 + 2 * s = 98 + 2 * s by omega] at v7
        rw [h1.2 i (by omega), v7]
        refine nb_Wp (sp_h_timeBehind hq.1 hHo hr (hq.ho hHo hr hh) (by omega) (by omega)) ⟨_, rfl, hq.1, S.2.2.2.1, ?_⟩
        refine ih (i + 1) _ (by omega) _ (hq.rows (Or.inr (Or.inr (Or.inl (by omega))))) ⟨?_, fun x hx => ?_⟩ (fun d x hv hx => ?_)
        · rw [nb_wr_b (by omega)]; exact h1.1
        · rw [nb_wr_b (by omega)]; exact h1.2 x hx
        · by_cases e : d = 7 ∧ x = i
          · obtain ⟨rfl, rfl⟩ := e
            rw [nb_wr_1, if_pos ⟨rfl, rfl⟩]
            unfold pu_rT
            rw [if_pos rfl]
            rfl
          · unfold pu_vl at hv
            rw [nb_wr_1, if_neg (by omega)]
            by_cases e2 : x = i
            · subst e2
              obtain ⟨dn, hdn⟩ : ∃ dn : Nat, d = dn := ⟨d.toNat, by omega⟩
              subst hdn
              exact hd dn (by omega)
            · exact h2 d x hv (by omega)
    | zero =>
      intro i v4 hi N hq h1 h2
      have e : i = j := by omega
      subst e
      refine w_rw_settle_9 hq.1 hHo (hSN N hq).2.2.2.1 (by omega) (by have := h1.1; omega) (by omega) ⟨fun c => absurd c (by have := h1.1; omega), fun z => ?_⟩
      -- sums
      have h30 : pu_R3 M N s i 1 := fun x d hx hv => by
        have e : x = 0 := by omega
        subst e
        unfold pu_vl at hv
        have c := (hq.2.2.2 141 (((0 : Nat) : Int) * 8 + d) (Or.inl (by decide)) (Or.inr (Or.inr (Or.inr ⟨rfl, by omega, by omega⟩)))).trans (hz _ (by omega) (by omega))
        rw [c, show pu_ones ((0 : Nat) : Int) = 0 by decide +kernel]
        rfl
      suffices hl : ∀ (n : Nat) (x : Nat) (v1 v2 v4 : nb_V), 1 ≤ x → (x : Int) + n = nb_shl 1 i → ∀ N, pu_CQ M N 0 → pu_R1 M N i i → pu_R2 M N s i i → pu_R3 M N s i x → nb_W 248 19 [(14, 130), v1, v2, (0, (x : Int)), v4] [] N (fun r' N' => r' = [] ∧ pu_CQ M N' 0 ∧ pu_R4 M N' s i) from hl (nb_shl 1 i - 1).toNat 1 _ _ _ (by decide) (by omega) N hq h1 h2 h30
      clear z hq h1 h2 h30 hi N
      intro n
      induction n with
      | zero =>
        intro x v1 v2 v4 hx1 hx N hq h1 h2 h3
        refine w_rw_settle_19 hq.1 (by omega) (by rw [h1.1]; exact hp) ⟨fun c => ?_, fun _ _ => ⟨rfl, hq, h1, h2, ?_⟩⟩
        · rw [h1.1] at c
          exact absurd c (by omega)
        · rw [← hx, show (x : Int) + ((0 : Nat) : Int) = x by omega]
          exact h3
      | succ n ih =>
        intro x v1 v2 v4 hx1 hx N hq h1 h2 h3
        refine w_rw_settle_19 hq.1 (by omega) (by rw [h1.1]; exact hp) ⟨fun z => ?_, fun c => ?_⟩
        case refine_2 =>
          rw [h1.1] at c
          exact absurd c (by omega)
        suffices hl : ∀ (m d : Nat), d + m = 8 → ∀ N, pu_CQ M N 0 → pu_R1 M N i i → pu_R2 M N s i i → pu_R3 M N s i x → (∀ l : Nat, l < d → pu_vl i l → N.1 141 ((x : Int) * 8 + l) = (pu_vb (pu_rT M s) i (pu_ones x).toNat x l).2) → nb_W 248 21 [(14, 130), v1, v2, (0, (x : Int)), (0, (d : Int))] [] N (fun r' N' => r' = [] ∧ pu_CQ M N' 0 ∧ pu_R4 M N' s i) from hl 8 0 (by omega) N hq h1 h2 h3 (fun l hl => absurd hl (by omega))
        clear z hq h1 h2 h3 N
        intro m
        induction m with
        | zero =>
          intro d hd N hq h1 h2 h3 h4
          refine w_rw_settle_21 hq.1 (by omega) (by omega) ⟨fun c => absurd c (by omega), fun _ => ?_⟩
          refine ih (x + 1) _ _ _ (by omega) (by omega) N hq h1 h2 (fun y l hy hv => ?_)
          by_cases e : y = x
          · subst e
            unfold pu_vl at hv
            exact h4 l (by omega) hv
          · exact h3 y l (by omega) hv
        | succ m ihm =>
          intro d hd N hq h1 h2 h3 h4
          refine w_rw_settle_21 hq.1 (by omega) (by omega) ⟨fun _ => ?_, fun c => absurd c (by omega)⟩
          refine nb_W.imp (sp_rw_firstOf hq.1 h1.1 h7 (by omega) (by omega)) ?_
          rintro r' N' ⟨rfl, rfl⟩
          have hf : (pu_vf (pu_rF N' x d) x i).1 ≤ 6 := by
            rcases pu_vf_or (f := pu_rF N' x d) (s := x) i with ⟨a, b⟩ | ⟨a, b, c⟩
            · rw [a]
              decide
            · omega
          refine ⟨_, rfl, hq.1, ?_⟩
          refine nb_W.imp (sp_rw_sumWith hq.1 (by omega) (by omega) hf) ?_
          rintro r' N2 ⟨rfl, rfl⟩
          refine ⟨_, rfl, hq.1, ?_⟩
          refine ihm (d + 1) (by omega) _ (hq.rows (Or.inr (Or.inr (Or.inr ⟨rfl, by omega⟩)))) ⟨?_, fun y hy => ?_⟩ (fun l y hv hy => ?_) (fun y l hy hv => ?_) (fun l hl hv => ?_)
          · rw [nb_wr_b (by omega)]; exact h1.1
          · rw [nb_wr_b (by omega)]; exact h1.2 y hy
          · unfold pu_vl at hv
            rw [nb_wr_1, if_neg (by omega)]; exact h2 l y hv hy
          · have hv' := hv
            unfold pu_vl at hv'
            rw [nb_wr_1, if_neg (by omega)]; exact h3 y l hy hv
          · by_cases e : l = d
            · subst e
              rw [nb_wr_1, if_pos ⟨rfl, rfl⟩]
              have o7 := pu_ones_7 x (by omega)
              have o0 := pu_ones_0 x (by omega)
              obtain ⟨on, hon⟩ : ∃ on : Nat, pu_ones x = on + 1 := ⟨(pu_ones x - 1).toNat, by omega⟩
              obtain ⟨q1, q2⟩ := pu_rF_vb h7 hT h2 h3 hv (by omega) hon
              rw [q1, q2, show (pu_ones x).toNat = on + 1 by omega]
            · rw [nb_wr_1, if_neg (by omega)]; exact h4 l (by omega) hv
theorem pu_full7 : ∀ n : Nat, n ≤ 7 → ∀ i : Nat, i < n → pu_bit (nb_shl 1 n - 1) i := by decide +kernel
theorem sp_rw_inRow {M N : nb_M} {s : Int} {cnt i : Nat} {v2 v3 v4 : nb_V} (W : nb_Lay N) (hr : pu_Rr (M.1 606)) (hc : (cnt : Int) = pu_cnt (M.1 608) 1 (M.1 606 5).toNat) (h7 : cnt ≤ 7) (h4 : pu_R4 M N s cnt) (hi : i < cnt) : nb_W 252 0 [(14, 130), (0, (i : Int)), v2, v3, v4] [] N (fun r' N' => r' = [(0, pu_rw M (pu_lx (pu_rT M s) cnt cnt (nb_shl 1 cnt - 1) 7 i))] ∧ N' = N) := by
  have hT : ∀ (d : Int) (i : Nat), pu_vl cnt d → i < cnt → 0 ≤ pu_rT M s d i ∧ pu_rT M s d i ≤ 4500 := fun d i hd hi => pu_rT_ok hr hc d i hd hi
  have hp := pu_pow7 cnt h7
  obtain ⟨⟨a3, a1⟩, a2, a4⟩ := h4
  refine w_rw_inRow_0 W (by rw [a3]; exact hp) ?_
  rw [a3]
  suffices hl : ∀ (m k n S d : Nat), i = k + m → k + n + 1 = cnt → pu_ones S = n + 1 → (S : Int) < nb_shl 1 cnt → pu_vl cnt d → nb_W 252 1 [(14, 130), (0, (i : Int)), (0, (S : Int)), (0, (d : Int)), (0, (k : Int))] [] N (fun r' N' => r' = [(0, pu_rw M (pu_lx (pu_rT M s) cnt (n + 1) S d m))] ∧ N' = N) by
    obtain ⟨F, hF⟩ : ∃ F : Nat, nb_shl 1 cnt - 1 = F := ⟨(nb_shl 1 cnt - 1).toNat, by omega⟩
    have o := pu_ones_full cnt h7
    rw [hF] at o ⊢
    have g := hl i 0 (cnt - 1) F 7 (by omega) (by omega) (by omega) (by omega) (Or.inr rfl)
    rw [show cnt - 1 + 1 = cnt by omega] at g
    exact g
  intro m
  induction m with
  | zero =>
    intro k n S d e1 e2 ho hS hd
    have o7 := pu_ones_7 S (by omega)
    have d7 : d ≤ 7 := by unfold pu_vl at hd; omega
    refine w_rw_inRow_1 W (by omega) (by omega) ⟨fun c => absurd c (by omega), fun _ => ⟨fun _ => ?_, fun c => absurd c (by omega)⟩⟩
    refine nb_W.imp (sp_rw_firstOf W a3 h7 (by omega) d7) ?_
    rintro r' N' ⟨rfl, rfl⟩
    obtain ⟨q1, q2⟩ := pu_rF_vb h7 hT a2 (fun x l hx hv => a4 x l (by omega) hv) hd hS ho
    have k2 := (pu_vb_ok (T := pu_rT M s) h7 hT (n + 1) S d hd hS (by omega)).2 (by omega)
    rw [q1]
    refine ⟨_, rfl, W, ?_⟩
    refine w_rw_inRow_1 W (by omega) (by omega) ⟨fun _ => ⟨fun _ => ⟨by omega, by omega, fun _ => ⟨?_, rfl⟩⟩, fun c => absurd c (by omega)⟩, fun c => absurd c (by omega)⟩
    rw [a1 _ k2.1]
    rfl
  | succ m ih =>
    intro k n S d e1 e2 ho hS hd
    have o7 := pu_ones_7 S (by omega)
    have d7 : d ≤ 7 := by unfold pu_vl at hd; omega
    refine w_rw_inRow_1 W (by omega) (by omega) ⟨fun c => absurd c (by omega), fun _ => ⟨fun _ => ?_, fun c => absurd c (by omega)⟩⟩
    refine nb_W.imp (sp_rw_firstOf W a3 h7 (by omega) d7) ?_
    rintro r' N' ⟨rfl, rfl⟩
    obtain ⟨q1, q2⟩ := pu_rF_vb h7 hT a2 (fun x l hx hv => a4 x l (by omega) hv) hd hS ho
    have k2 := (pu_vb_ok (T := pu_rT M s) h7 hT (n + 1) S d hd hS (by omega)).2 (by omega)
    rw [q1]
    refine ⟨_, rfl, W, ?_⟩
    have g := pu_rm_in S (by omega) _ (by omega) k2.2
    have g0 := pu_rm_all S (by omega) (pu_vb (pu_rT M s) cnt (n + 1) S d).1 (by omega)
    show nb_W 252 1 [(14, 130), (0, (i : Int)), (0, pu_rm S ((pu_vb (pu_rT M s) cnt (n + 1) S d).1 : Nat)), (0, ((pu_vb (pu_rT M s) cnt (n + 1) S d).1 : Int)), (0, (k : Int) + 1)] [] N' (fun r' N'_1 => r' = [(0, pu_rw M (pu_lx (pu_rT M s) cnt n (pu_rm S ((pu_vb (pu_rT M s) cnt (n + 1) S d).1 : Nat)) ((pu_vb (pu_rT M s) cnt (n + 1) S d).1 : Nat) m))] ∧ N'_1 = N')
    obtain ⟨x, hx⟩ : ∃ x : Nat, pu_rm S ((pu_vb (pu_rT M s) cnt (n + 1) S d).1 : Nat) = x := ⟨(pu_rm S ((pu_vb (pu_rT M s) cnt (n + 1) S d).1 : Nat)).toNat, by omega⟩
    rw [hx] at g g0 ⊢
    obtain ⟨n', hn'⟩ : ∃ n' : Nat, n = n' + 1 := ⟨n - 1, by omega⟩
    subst hn'
    exact ih (k + 1) n' x _ (by omega) (by omega) (by omega) (by omega) (Or.inl ⟨by omega, by omega⟩)
theorem sp_rw_leastSum {M N : nb_M} {s : Int} {cnt : Nat} (W : nb_Lay N) (h7 : cnt ≤ 7) (h4 : pu_R4 M N s cnt) : nb_W 251 0 [(14, 130)] [] N (fun r' N' => r' = [(0, (pu_vb (pu_rT M s) cnt cnt (nb_shl 1 cnt - 1) 7).2)] ∧ N' = N) := by
  have hp := pu_pow7 cnt h7
  obtain ⟨⟨a3, a1⟩, a2, a4⟩ := h4
  refine w_rw_leastSum_0 W (by rw [a3]; exact hp) (fun _ => ⟨?_, rfl⟩)
  rw [a3]
  obtain ⟨F, hF⟩ : ∃ F : Nat, nb_shl 1 cnt - 1 = F := ⟨(nb_shl 1 cnt - 1).toNat, by omega⟩
  have o := pu_ones_full cnt h7
  rw [hF] at o ⊢
  have g := a4 F 7 (by omega) (Or.inr rfl)
  rw [o] at g
  exact congrArg (fun v => [((0 : Nat), v)]) g
