/-! TOKENS: the class's -/
theorem sp_tk_isLineWord {M : nb_M} {v : Int} {v1 : nb_V} (W : nb_Lay M) : ∃ x : Int, (x = 0 ∨ x = 1) ∧ (x = 1 ↔ pu_line v) ∧ nb_R nb_P 291 0 [(1, v), v1] [] M = some ([(0, x)], M) := by
  have tk : ∀ k : Nat, 60 ≤ k → k ≤ 65 → pu_tok k := fun k a b => pu_tok_at k (by omega) b
  have yes : ∀ k : Int, (pu_line (pu_tv k)) → nb_lcmp v (pu_tv k) = 0 → pu_line v := fun k a b => by
    rw [nb_lcmp_0.1 b]; exact a
  by_cases c : pu_line v
  · refine ⟨1, Or.inr rfl, ⟨fun _ => c, fun _ => rfl⟩, nb_Wq ?_⟩
    refine w_tk_isLineWord_0 W (nb_Wp (sp_tk_letters (tk 60 (by decide) (by decide))) ⟨_, rfl, W, fun _ _ => ⟨rfl, rfl⟩, fun n1 => nb_Wp (sp_tk_letters (tk 61 (by decide) (by decide))) ⟨_, rfl, W, fun _ _ => ⟨rfl, rfl⟩, fun n2 => nb_Wp (sp_tk_letters (tk 62 (by decide) (by decide))) ⟨_, rfl, W, fun _ _ => ⟨rfl, rfl⟩, fun n3 => nb_Wp (sp_tk_letters (tk 63 (by decide) (by decide))) ⟨_, rfl, W, fun _ _ => ⟨rfl, rfl⟩, fun n4 => nb_Wp (sp_tk_letters (tk 64 (by decide) (by decide))) ⟨_, rfl, W, fun _ _ => ⟨rfl, rfl⟩, fun n5 => nb_Wp (sp_tk_letters (tk 65 (by decide) (by decide))) ⟨_, rfl, W, fun _ _ => ⟨rfl, rfl⟩, fun n6 => ?_⟩⟩⟩⟩⟩⟩)
    exfalso
    rcases c with c | c | c | c | c | c
    · exact n1 (nb_lcmp_0.2 c)
    · exact n2 (nb_lcmp_0.2 c)
    · exact n3 (nb_lcmp_0.2 c)
    · exact n4 (nb_lcmp_0.2 c)
    · exact n5 (nb_lcmp_0.2 c)
    · exact n6 (nb_lcmp_0.2 c)
  · have no : ∀ k : Int, (k = 60 ∨ k = 61 ∨ k = 62 ∨ k = 63 ∨ k = 64 ∨ k = 65) → nb_lcmp v (pu_tv k) ≠ 0 := fun k hk z => c (by
      have e := nb_lcmp_0.1 z
      unfold pu_line
      rcases hk with rfl | rfl | rfl | rfl | rfl | rfl
      · exact Or.inl e
      · exact Or.inr (Or.inl e)
      · exact Or.inr (Or.inr (Or.inl e))
      · exact Or.inr (Or.inr (Or.inr (Or.inl e)))
      · exact Or.inr (Or.inr (Or.inr (Or.inr (Or.inl e))))
      · exact Or.inr (Or.inr (Or.inr (Or.inr (Or.inr e)))))
    refine ⟨0, Or.inl rfl, ⟨fun z => absurd z (by decide), fun z => absurd z c⟩, nb_Wq ?_⟩
    exact w_tk_isLineWord_0 W (nb_Wp (sp_tk_letters (tk 60 (by decide) (by decide))) ⟨_, rfl, W, fun z => absurd z (no 60 (by decide)), fun _ => nb_Wp (sp_tk_letters (tk 61 (by decide) (by decide))) ⟨_, rfl, W, fun z => absurd z (no 61 (by decide)), fun _ => nb_Wp (sp_tk_letters (tk 62 (by decide) (by decide))) ⟨_, rfl, W, fun z => absurd z (no 62 (by decide)), fun _ => nb_Wp (sp_tk_letters (tk 63 (by decide) (by decide))) ⟨_, rfl, W, fun z => absurd z (no 63 (by decide)), fun _ => nb_Wp (sp_tk_letters (tk 64 (by decide) (by decide))) ⟨_, rfl, W, fun z => absurd z (no 64 (by decide)), fun _ => nb_Wp (sp_tk_letters (tk 65 (by decide) (by decide))) ⟨_, rfl, W, fun z => absurd z (no 65 (by decide)), fun _ _ => ⟨rfl, rfl⟩⟩⟩⟩⟩⟩⟩)
/-- the text's bytes -/
def pu_by (M : nb_M) (tx : Int → Int) (n : Int) : Prop := ∀ i, 0 ≤ i → i < n → (M.1 3 i = tx i ∧ 0 ≤ tx i ∧ tx i < 128) ∨ (M.1 3 i = tx i - 256 ∧ 128 ≤ tx i ∧ tx i ≤ 255)
theorem sp_tk_end {M : nb_M} {tx : Int → Int} {n p : Int} {v3 : nb_V} (W : nb_Lay M) (hb : pu_by M tx n) (hn : n ≤ 1000) (hp : 0 ≤ p ∧ p < n) : nb_W 287 0 [(4, 3), (0, p), (0, n), v3] [] M (fun r' M' => ∃ e : Int, r' = [(0, e)] ∧ M' = M ∧ (p < e ∧ e ≤ n) ∧ (pu_ltr (tx p) → (∀ i, p ≤ i → i < e → pu_ltr (tx i)) ∧ (e < n → ¬ pu_ltr (tx e))) ∧ (pu_dgt (tx p) → (∀ i, p ≤ i → i < e → pu_dgt (tx i)) ∧ (e < n → ¬ pu_dgt (tx e))) ∧ (¬ pu_ltr (tx p) → ¬ pu_dgt (tx p) → e = p + 1)) := by
  have b0 := hb p hp.1 hp.2
  refine w_tk_endOfToken_0 W (by omega) (by omega) ?_
  have sg : ¬ pu_ltr (tx p) → ¬ pu_dgt (tx p) → (nb_Lay M → ∃ e : Int, ([((0 : Nat), p + 1)] : List nb_V) = [(0, e)] ∧ M = M ∧ (p < e ∧ e ≤ n) ∧ (pu_ltr (tx p) → (∀ i, p ≤ i → i < e → pu_ltr (tx i)) ∧ (e < n → ¬ pu_ltr (tx e))) ∧ (pu_dgt (tx p) → (∀ i, p ≤ i → i < e → pu_dgt (tx i)) ∧ (e < n → ¬ pu_dgt (tx e))) ∧ (¬ pu_ltr (tx p) → ¬ pu_dgt (tx p) → e = p + 1)) := fun a b _ => ⟨p + 1, rfl, rfl, by omega, fun z => absurd z a, fun z => absurd z b, fun _ _ => rfl⟩
  refine ⟨fun c97 => ⟨fun c48 => sg (by unfold pu_ltr; omega) (by unfold pu_dgt; omega), fun c48 => ⟨fun c57 => sg (by unfold pu_ltr; omega) (by unfold pu_dgt; omega), fun c57 => ?_⟩⟩, fun c97 => ⟨fun c122 => sg (by unfold pu_ltr; omega) (by unfold pu_dgt; omega), fun c122 => ?_⟩⟩
  · have hd : pu_dgt (tx p) := by unfold pu_dgt; omega
    have nl : ¬ pu_ltr (tx p) := by unfold pu_ltr; omega
    suffices hl : ∀ (m : Nat) (j : Int), j + m = n → p < j → (∀ i, p ≤ i → i < j → pu_dgt (tx i)) → nb_W 287 8 [(4, 3), (0, p), (0, n), (0, j)] [] M (fun r' M' => ∃ e : Int, r' = [(0, e)] ∧ M' = M ∧ (p < e ∧ e ≤ n) ∧ (pu_ltr (tx p) → (∀ i, p ≤ i → i < e → pu_ltr (tx i)) ∧ (e < n → ¬ pu_ltr (tx e))) ∧ (pu_dgt (tx p) → (∀ i, p ≤ i → i < e → pu_dgt (tx i)) ∧ (e < n → ¬ pu_dgt (tx e))) ∧ (¬ pu_ltr (tx p) → ¬ pu_dgt (tx p) → e = p + 1)) from hl (n - (p + 1)).toNat (p + 1) (by omega) (by omega) (fun i a b => by rw [show i = p by omega]; exact hd)
    intro m
    induction m with
    | zero =>
      intro j hj hpj ha
      exact w_tk_endOfToken_8 W (by omega) (by omega) ⟨fun c => absurd c (by omega), fun _ _ => ⟨j, rfl, rfl, by omega, fun z => absurd z nl, fun _ => ⟨ha, fun z => absurd z (by omega)⟩, fun _ z => absurd hd z⟩⟩
    | succ m ih =>
      intro j hj hpj ha
      have b1 := hb j (by omega) (by omega)
      have stop : ¬ pu_dgt (tx j) → nb_Lay M → ∃ e : Int, ([((0 : Nat), j)] : List nb_V) = [(0, e)] ∧ M = M ∧ (p < e ∧ e ≤ n) ∧ (pu_ltr (tx p) → (∀ i, p ≤ i → i < e → pu_ltr (tx i)) ∧ (e < n → ¬ pu_ltr (tx e))) ∧ (pu_dgt (tx p) → (∀ i, p ≤ i → i < e → pu_dgt (tx i)) ∧ (e < n → ¬ pu_dgt (tx e))) ∧ (¬ pu_ltr (tx p) → ¬ pu_dgt (tx p) → e = p + 1) := fun a _ => ⟨j, rfl, rfl, by omega, fun z => absurd z nl, fun _ => ⟨ha, fun _ => a⟩, fun _ z => absurd hd z⟩
      exact w_tk_endOfToken_8 W (by omega) (by omega) ⟨fun _ => ⟨fun c => stop (by unfold pu_dgt; omega), fun c => ⟨fun d => stop (by unfold pu_dgt; omega), fun d => ih (j + 1) (by omega) (by omega) (fun i a b => by
        by_cases q : i = j
        · rw [q]; unfold pu_dgt; omega
        · exact ha i a (by omega))⟩⟩, fun c => absurd c (by omega)⟩
  · have hd : pu_ltr (tx p) := by unfold pu_ltr; omega
    have nl : ¬ pu_dgt (tx p) := by unfold pu_dgt; omega
    suffices hl : ∀ (m : Nat) (j : Int), j + m = n → p < j → (∀ i, p ≤ i → i < j → pu_ltr (tx i)) → nb_W 287 2 [(4, 3), (0, p), (0, n), (0, j)] [] M (fun r' M' => ∃ e : Int, r' = [(0, e)] ∧ M' = M ∧ (p < e ∧ e ≤ n) ∧ (pu_ltr (tx p) → (∀ i, p ≤ i → i < e → pu_ltr (tx i)) ∧ (e < n → ¬ pu_ltr (tx e))) ∧ (pu_dgt (tx p) → (∀ i, p ≤ i → i < e → pu_dgt (tx i)) ∧ (e < n → ¬ pu_dgt (tx e))) ∧ (¬ pu_ltr (tx p) → ¬ pu_dgt (tx p) → e = p + 1)) from hl (n - (p + 1)).toNat (p + 1) (by omega) (by omega) (fun i a b => by rw [show i = p by omega]; exact hd)
    intro m
    induction m with
    | zero =>
      intro j hj hpj ha
      exact w_tk_endOfToken_2 W (by omega) (by omega) ⟨fun c => absurd c (by omega), fun _ _ => ⟨j, rfl, rfl, by omega, fun _ => ⟨ha, fun z => absurd z (by omega)⟩, fun z => absurd z nl, fun z _ => absurd hd z⟩⟩
    | succ m ih =>
      intro j hj hpj ha
      have b1 := hb j (by omega) (by omega)
      have stop : ¬ pu_ltr (tx j) → nb_Lay M → ∃ e : Int, ([((0 : Nat), j)] : List nb_V) = [(0, e)] ∧ M = M ∧ (p < e ∧ e ≤ n) ∧ (pu_ltr (tx p) → (∀ i, p ≤ i → i < e → pu_ltr (tx i)) ∧ (e < n → ¬ pu_ltr (tx e))) ∧ (pu_dgt (tx p) → (∀ i, p ≤ i → i < e → pu_dgt (tx i)) ∧ (e < n → ¬ pu_dgt (tx e))) ∧ (¬ pu_ltr (tx p) → ¬ pu_dgt (tx p) → e = p + 1) := fun a _ => ⟨j, rfl, rfl, by omega, fun _ => ⟨ha, fun _ => a⟩, fun z => absurd z nl, fun z _ => absurd hd z⟩
      exact w_tk_endOfToken_2 W (by omega) (by omega) ⟨fun _ => ⟨fun c => stop (by unfold pu_ltr; omega), fun c => ⟨fun d => stop (by unfold pu_ltr; omega), fun d => ih (j + 1) (by omega) (by omega) (fun i a b => by
        by_cases q : i = j
        · rw [q]; unfold pu_ltr; omega
        · exact ha i a (by omega))⟩⟩, fun c => absurd c (by omega)⟩
/-- what a token added changes -/
def pu_ka (M M' : nb_M) (cnt : Int) : Prop := nb_Lay M' ∧ M'.2 = M.2 ∧ (∀ a, a ≠ 77 → a ≠ 78 → a ≠ 79 → a ≠ 80 → M'.1 a = M.1 a) ∧ ∀ a j, (a = 78 ∨ a = 79 ∨ a = 80) → j ≠ cnt → M'.1 a j = M.1 a j
theorem pu_ka.cell {M M' : nb_M} {cnt : Int} (h : pu_ka M M' cnt) {a v : Int} (ha : a = 78 ∨ a = 79 ∨ a = 80) : pu_ka M (nb_wr M' a cnt v) cnt := by
  obtain ⟨h1, h2, h3, h4⟩ := h
  refine ⟨h1.wr (fun w => by rcases ha with rfl | rfl | rfl <;> exact nb_nnum (by decide) (by decide)), h2, fun b p q r s => ?_, fun b j hb hj => ?_⟩
  · rw [nb_wr_b (by omega)]; exact h3 b p q r s
  · rw [nb_wr_1, if_neg (by omega)]; exact h4 b j hb hj
theorem pu_ka.cnt {M M' : nb_M} {cnt v : Int} (h : pu_ka M M' cnt) : pu_ka M (nb_wr M' 77 3 v) cnt := by
  obtain ⟨h1, h2, h3, h4⟩ := h
  refine ⟨h1.wr (fun w => nb_nlit (by decide) (by decide)), h2, fun b p q r s => ?_, fun b j hb hj => ?_⟩
  · rw [nb_wr_b p]; exact h3 b p q r s
  · rw [nb_wr_b (by omega)]; exact h4 b j hb hj
theorem sp_tk_add {M : nb_M} {tx : Int → Int} {n e p e' : Int} {cnt : Nat} (W : nb_Lay M) (hb : pu_by M tx n) (hn : n ≤ 1000) (hc : M.1 77 3 = cnt) (hc9 : cnt ≤ 999) (he : 0 ≤ e ∧ e ≤ p) (hp : p < e' ∧ e' ≤ n) (hbl : ∀ i, e ≤ i → i < p → tx i = 32) (h32 : tx p ≠ 32) (hl : pu_ltr (tx p) → (∀ i, p ≤ i → i < e' → pu_ltr (tx i)) ∧ (e' < n → ¬ pu_ltr (tx e'))) (hd : pu_dgt (tx p) → (∀ i, p ≤ i → i < e' → pu_dgt (tx i)) ∧ (e' < n → ¬ pu_dgt (tx e'))) (ho : ¬ pu_ltr (tx p) → ¬ pu_dgt (tx p) → e' = p + 1) : nb_W 288 0 [(18, 77), (4, 3), (0, p), (0, e')] [] M (fun r' M' => r' = [] ∧ pu_ka M M' cnt ∧ M'.1 77 3 = cnt + 1 ∧ M'.1 79 cnt = p ∧ pu_tkA tx n e p (M'.1 78 cnt) (M'.1 80 cnt) e') := by
  have b0 := hb p (by omega) (by omega)
  have k0 : pu_ka M M cnt := ⟨W, rfl, fun _ _ _ _ _ => rfl, fun _ _ _ _ => rfl⟩
  have hc' := hc
  have pre : (0 ≤ e ∧ e ≤ p ∧ p < e' ∧ e' ≤ n) ∧ ∀ i, e ≤ i → i < p → tx i = 32 := ⟨by omega, hbl⟩
  have sg : ∀ t : Int, ((tx p = 59 ∧ t = 4) ∨ (tx p = 44 ∧ t = 5) ∨ (tx p ≠ 59 ∧ tx p ≠ 44 ∧ t = 6)) → ¬ pu_ltr (tx p) → ¬ pu_dgt (tx p) → nb_Lay (nb_wr (nb_wr (nb_wr (nb_wr M 79 cnt p) 80 cnt 0) 78 cnt t) 77 3 ((cnt : Int) + 1)) → (([] : List nb_V) = [] ∧ pu_ka M (nb_wr (nb_wr (nb_wr (nb_wr M 79 cnt p) 80 cnt 0) 78 cnt t) 77 3 ((cnt : Int) + 1)) cnt ∧ (nb_wr (nb_wr (nb_wr (nb_wr M 79 cnt p) 80 cnt 0) 78 cnt t) 77 3 ((cnt : Int) + 1)).1 77 3 = cnt + 1 ∧ (nb_wr (nb_wr (nb_wr (nb_wr M 79 cnt p) 80 cnt 0) 78 cnt t) 77 3 ((cnt : Int) + 1)).1 79 cnt = p ∧ pu_tkA tx n e p ((nb_wr (nb_wr (nb_wr (nb_wr M 79 cnt p) 80 cnt 0) 78 cnt t) 77 3 ((cnt : Int) + 1)).1 78 cnt) ((nb_wr (nb_wr (nb_wr (nb_wr M 79 cnt p) 80 cnt 0) 78 cnt t) 77 3 ((cnt : Int) + 1)).1 80 cnt) e') := fun t ht a b _ => by
    refine ⟨rfl, ((((k0.cell (by omega)).cell (by omega)).cell (by omega)).cnt), by rw [nb_wr_1, if_pos ⟨rfl, rfl⟩], ?_, pre, Or.inr (Or.inr ⟨a, b, ⟨h32, by omega⟩, ho a b, ?_⟩)⟩
    · rw [nb_wr_b (by decide), nb_wr_b (by decide), nb_wr_b (by decide), nb_wr_1, if_pos ⟨rfl, rfl⟩]
    · have e8 : (nb_wr (nb_wr (nb_wr (nb_wr M 79 cnt p) 80 cnt 0) 78 cnt t) 77 3 ((cnt : Int) + 1)).1 78 cnt = t := by rw [nb_wr_b (by decide), nb_wr_1, if_pos ⟨rfl, rfl⟩]
      rw [e8]
      exact ht
  refine w_tk_add_0 W (by omega) ?_
  rw [hc]
  have k2 : pu_ka M (nb_wr (nb_wr M 79 cnt p) 80 cnt 0) cnt := (k0.cell (by omega)).cell (by omega)
  have r77 : (nb_wr (nb_wr M 79 cnt p) 80 cnt 0).1 77 3 = cnt := by rw [nb_wr_b (by decide), nb_wr_b (by decide)]; exact hc
  have r79 : (nb_wr (nb_wr M 79 cnt p) 80 cnt 0).1 79 cnt = p := by rw [nb_wr_b (by decide), nb_wr_1, if_pos ⟨rfl, rfl⟩]
  have r3 : (nb_wr (nb_wr M 79 cnt p) 80 cnt 0).1 3 = M.1 3 := by rw [nb_wr_b (by decide), nb_wr_b (by decide)]
  refine ⟨by omega, by omega, fun c97 => ⟨fun c48 => ⟨fun c => sg 5 (by omega) (by unfold pu_ltr; omega) (by unfold pu_dgt; omega), fun c => sg 6 (by omega) (by unfold pu_ltr; omega) (by unfold pu_dgt; omega)⟩, fun c48 => ⟨fun c57 => ⟨fun c => sg 4 (by omega) (by unfold pu_ltr; omega) (by unfold pu_dgt; omega), fun c => sg 6 (by omega) (by unfold pu_ltr; omega) (by unfold pu_dgt; omega)⟩, fun c57 => ?_⟩⟩, fun c97 => ⟨fun c122 => sg 6 (by omega) (by unfold pu_ltr; omega) (by unfold pu_dgt; omega), fun c122 => ?_⟩⟩
  · -- a whole
    have dg : pu_dgt (tx p) := by unfold pu_dgt; omega
    obtain ⟨d1, d2⟩ := hd dg
    refine w_tk_addWhole_0 k2.1 (by omega) (by omega) ?_
    rw [r77]
    refine ⟨fun c => ⟨by omega, by omega, fun hL => ⟨rfl, hL, fun _ => ?_⟩⟩, fun c => ?_⟩
    · have e77 : (nb_wr (nb_wr (nb_wr M 79 cnt p) 80 cnt 0) 78 cnt 6).1 77 3 = cnt := by rw [nb_wr_b (by decide)]; exact r77
      rw [e77, nb_add_eq (by omega) (by omega)]
      refine ⟨rfl, (k2.cell (by omega)).cnt, by rw [nb_wr_1, if_pos ⟨rfl, rfl⟩], by rw [nb_wr_b (by decide), nb_wr_b (by decide)]; exact r79, pre, Or.inr (Or.inl ⟨dg, d1, d2, Or.inl ⟨c, ?_⟩⟩)⟩
      rw [nb_wr_b (by decide), nb_wr_1, if_pos ⟨rfl, rfl⟩]
    · suffices hl : ∀ (m j : Nat) (v2 v5 : nb_V), p + j + m = e' → nb_W 290 4 [(18, 77), (4, 3), v2, (0, e'), (1, pu_dv (fun i => tx (p + i)) j), v5, (0, p + j)] [] (nb_wr (nb_wr M 79 cnt p) 80 cnt 0) (fun r M54 => r = [] ∧ nb_Lay M54 ∧ (nb_Lay (nb_wr M54 77 3 (nb_add (M54.1 77 3) 1)) → ([] : List nb_V) = [] ∧ pu_ka M (nb_wr M54 77 3 (nb_add (M54.1 77 3) 1)) cnt ∧ (nb_wr M54 77 3 (nb_add (M54.1 77 3) 1)).1 77 3 = cnt + 1 ∧ (nb_wr M54 77 3 (nb_add (M54.1 77 3) 1)).1 79 cnt = p ∧ pu_tkA tx n e p ((nb_wr M54 77 3 (nb_add (M54.1 77 3) 1)).1 78 cnt) ((nb_wr M54 77 3 (nb_add (M54.1 77 3) 1)).1 80 cnt) e')) by
        have g := hl (e' - p).toNat 0 (0, p) (98, 0) (by omega)
        rw [show p + ((0 : Nat) : Int) = p by omega] at g
        exact g
      intro m
      induction m with
      | zero =>
        intro j v2 v5 hj
        refine w_tk_addWhole_4 k2.1 (by omega) (by omega) ?_
        rw [r77]
        refine ⟨fun z => absurd z (by omega), fun _ => ⟨by omega, by omega, fun hL => ⟨rfl, hL, fun _ => ?_⟩⟩⟩
        have e77 : (nb_wr (nb_wr (nb_wr (nb_wr M 79 cnt p) 80 cnt 0) 80 cnt (pu_dv (fun i => tx (p + i)) j)) 78 cnt 3).1 77 3 = cnt := by rw [nb_wr_b (by decide), nb_wr_b (by decide)]; exact r77
        rw [e77, nb_add_eq (by omega) (by omega)]
        refine ⟨rfl, ((k2.cell (by omega)).cell (by omega)).cnt, by rw [nb_wr_1, if_pos ⟨rfl, rfl⟩], by rw [nb_wr_b (by decide), nb_wr_b (by decide), nb_wr_b (by decide)]; exact r79, pre, Or.inr (Or.inl ⟨dg, d1, d2, Or.inr ⟨c, ?_, ?_⟩⟩)⟩
        · rw [nb_wr_b (by decide), nb_wr_1, if_pos ⟨rfl, rfl⟩]
        · rw [nb_wr_b (by decide), nb_wr_b (by decide), nb_wr_1, if_pos ⟨rfl, rfl⟩, show (e' - p).toNat = j by omega]
      | succ m ih =>
        intro j v2 v5 hj
        refine w_tk_addWhole_4 k2.1 (by omega) (by omega) ?_
        rw [r77, r3]
        refine ⟨fun _ => ?_, fun z => absurd z (by omega)⟩
        have bj := hb (p + j) (by omega) (by omega)
        have dj := d1 (p + j) (by omega) (by omega)
        unfold pu_dgt at dj
        have b3 := pu_dv_3 (f := fun i => tx (p + i)) (n := j) (by omega) (fun i hi => d1 (p + i) (by omega) (by omega))
        have em : M.1 3 (p + j) = tx (p + j) := by omega
        rw [em, nb_lmul_eq (by omega) (by omega), pu_i2l_eq (by omega) (by omega), nb_ladd_eq (by omega) (by omega), nb_lsub_eq (by omega) (by omega)]
        have g := ih (j + 1) v2 (98, 0) (by omega)
        have e10 : pu_dv (fun i => tx (p + i)) (j + 1) = pu_dv (fun i => tx (p + i)) j * 10 + tx (p + j) - 48 := by
          show 10 * pu_dv (fun i => tx (p + i)) j + (tx (p + j) - 48) = _
          omega
        rw [show p + ((j + 1 : Nat) : Int) = p + j + 1 by omega, e10] at g
        exact g
  · -- a word
    have dg : pu_ltr (tx p) := by unfold pu_ltr; omega
    obtain ⟨d1, d2⟩ := hl dg
    refine w_tk_addWord_0 k2.1 (by omega) (by omega) ?_
    rw [r77]
    refine ⟨fun c => ⟨by omega, by omega, fun hL => ⟨rfl, hL, fun _ => ?_⟩⟩, fun c => ?_⟩
    · have e77 : (nb_wr (nb_wr (nb_wr M 79 cnt p) 80 cnt 0) 78 cnt 6).1 77 3 = cnt := by rw [nb_wr_b (by decide)]; exact r77
      rw [e77, nb_add_eq (by omega) (by omega)]
      refine ⟨rfl, (k2.cell (by omega)).cnt, by rw [nb_wr_1, if_pos ⟨rfl, rfl⟩], by rw [nb_wr_b (by decide), nb_wr_b (by decide)]; exact r79, pre, Or.inl ⟨dg, d1, d2, Or.inl ⟨c, ?_⟩⟩⟩
      rw [nb_wr_b (by decide), nb_wr_1, if_pos ⟨rfl, rfl⟩]
    · have abc : ∀ j : Nat, p + j ≤ e' → pu_abc (fun i => tx (p + i)) j := fun j hj i hi => d1 (p + i) (by omega) (by omega)
      suffices hl : ∀ (m j : Nat) (v2 v5 : nb_V), p + j + m = e' → nb_W 289 4 [(18, 77), (4, 3), v2, (0, e'), (1, pu_wv (fun i => tx (p + i)) j), v5, (0, p + j)] [] (nb_wr (nb_wr M 79 cnt p) 80 cnt 0) (fun r M54 => r = [] ∧ nb_Lay M54 ∧ (nb_Lay (nb_wr M54 77 3 (nb_add (M54.1 77 3) 1)) → ([] : List nb_V) = [] ∧ pu_ka M (nb_wr M54 77 3 (nb_add (M54.1 77 3) 1)) cnt ∧ (nb_wr M54 77 3 (nb_add (M54.1 77 3) 1)).1 77 3 = cnt + 1 ∧ (nb_wr M54 77 3 (nb_add (M54.1 77 3) 1)).1 79 cnt = p ∧ pu_tkA tx n e p ((nb_wr M54 77 3 (nb_add (M54.1 77 3) 1)).1 78 cnt) ((nb_wr M54 77 3 (nb_add (M54.1 77 3) 1)).1 80 cnt) e')) by
        have g := hl (e' - p).toNat 0 (0, p) (98, 0) (by omega)
        rw [show p + ((0 : Nat) : Int) = p by omega] at g
        exact g
      intro m
      induction m with
      | zero =>
        intro j v2 v5 hj
        refine w_tk_addWord_4 k2.1 (by omega) (by omega) ?_
        rw [r77]
        have k3 : pu_ka M (nb_wr (nb_wr (nb_wr M 79 cnt p) 80 cnt 0) 80 cnt (pu_wv (fun i => tx (p + i)) j)) cnt := k2.cell (by omega)
        obtain ⟨x, x1, x2, x3⟩ := sp_tk_isLineWord (v := pu_wv (fun i => tx (p + i)) j) (v1 := (98, 0)) k3.1
        have fin : ∀ t : Int, ((t = 1 ∧ ¬ pu_line (pu_wv (fun i => tx (p + i)) j)) ∨ (t = 2 ∧ pu_line (pu_wv (fun i => tx (p + i)) j))) → nb_Lay (nb_wr (nb_wr (nb_wr (nb_wr M 79 cnt p) 80 cnt 0) 80 cnt (pu_wv (fun i => tx (p + i)) j)) 78 cnt t) → (([] : List nb_V) = [] ∧ nb_Lay (nb_wr (nb_wr (nb_wr (nb_wr M 79 cnt p) 80 cnt 0) 80 cnt (pu_wv (fun i => tx (p + i)) j)) 78 cnt t) ∧ (nb_Lay (nb_wr (nb_wr (nb_wr (nb_wr (nb_wr M 79 cnt p) 80 cnt 0) 80 cnt (pu_wv (fun i => tx (p + i)) j)) 78 cnt t) 77 3 (nb_add ((nb_wr (nb_wr (nb_wr (nb_wr M 79 cnt p) 80 cnt 0) 80 cnt (pu_wv (fun i => tx (p + i)) j)) 78 cnt t).1 77 3) 1)) → ([] : List nb_V) = [] ∧ pu_ka M (nb_wr (nb_wr (nb_wr (nb_wr (nb_wr M 79 cnt p) 80 cnt 0) 80 cnt (pu_wv (fun i => tx (p + i)) j)) 78 cnt t) 77 3 (nb_add ((nb_wr (nb_wr (nb_wr (nb_wr M 79 cnt p) 80 cnt 0) 80 cnt (pu_wv (fun i => tx (p + i)) j)) 78 cnt t).1 77 3) 1)) cnt ∧ (nb_wr (nb_wr (nb_wr (nb_wr (nb_wr M 79 cnt p) 80 cnt 0) 80 cnt (pu_wv (fun i => tx (p + i)) j)) 78 cnt t) 77 3 (nb_add ((nb_wr (nb_wr (nb_wr (nb_wr M 79 cnt p) 80 cnt 0) 80 cnt (pu_wv (fun i => tx (p + i)) j)) 78 cnt t).1 77 3) 1)).1 77 3 = cnt + 1 ∧ (nb_wr (nb_wr (nb_wr (nb_wr (nb_wr M 79 cnt p) 80 cnt 0) 80 cnt (pu_wv (fun i => tx (p + i)) j)) 78 cnt t) 77 3 (nb_add ((nb_wr (nb_wr (nb_wr (nb_wr M 79 cnt p) 80 cnt 0) 80 cnt (pu_wv (fun i => tx (p + i)) j)) 78 cnt t).1 77 3) 1)).1 79 cnt = p ∧ pu_tkA tx n e p ((nb_wr (nb_wr (nb_wr (nb_wr (nb_wr M 79 cnt p) 80 cnt 0) 80 cnt (pu_wv (fun i => tx (p + i)) j)) 78 cnt t) 77 3 (nb_add ((nb_wr (nb_wr (nb_wr (nb_wr M 79 cnt p) 80 cnt 0) 80 cnt (pu_wv (fun i => tx (p + i)) j)) 78 cnt t).1 77 3) 1)).1 78 cnt) ((nb_wr (nb_wr (nb_wr (nb_wr (nb_wr M 79 cnt p) 80 cnt 0) 80 cnt (pu_wv (fun i => tx (p + i)) j)) 78 cnt t) 77 3 (nb_add ((nb_wr (nb_wr (nb_wr (nb_wr M 79 cnt p) 80 cnt 0) 80 cnt (pu_wv (fun i => tx (p + i)) j)) 78 cnt t).1 77 3) 1)).1 80 cnt) e')) := fun t ht hL => ⟨rfl, hL, fun _ => by
          have e77 : (nb_wr (nb_wr (nb_wr (nb_wr M 79 cnt p) 80 cnt 0) 80 cnt (pu_wv (fun i => tx (p + i)) j)) 78 cnt t).1 77 3 = cnt := by rw [nb_wr_b (by decide), nb_wr_b (by decide)]; exact r77
          rw [e77, nb_add_eq (by omega) (by omega)]
          have e8 : (nb_wr (nb_wr (nb_wr (nb_wr (nb_wr M 79 cnt p) 80 cnt 0) 80 cnt (pu_wv (fun i => tx (p + i)) j)) 78 cnt t) 77 3 ((cnt : Int) + 1)).1 78 cnt = t := by rw [nb_wr_b (by decide), nb_wr_1, if_pos ⟨rfl, rfl⟩]
          have e80 : (nb_wr (nb_wr (nb_wr (nb_wr (nb_wr M 79 cnt p) 80 cnt 0) 80 cnt (pu_wv (fun i => tx (p + i)) j)) 78 cnt t) 77 3 ((cnt : Int) + 1)).1 80 cnt = pu_wv (fun i => tx (p + i)) j := by rw [nb_wr_b (by decide), nb_wr_b (by decide), nb_wr_1, if_pos ⟨rfl, rfl⟩]
          refine ⟨rfl, (k3.cell (by omega)).cnt, by rw [nb_wr_1, if_pos ⟨rfl, rfl⟩], by rw [nb_wr_b (by decide), nb_wr_b (by decide), nb_wr_b (by decide)]; exact r79, pre, Or.inl ⟨dg, d1, d2, Or.inr ⟨c, ?_, ?_⟩⟩⟩
          · rw [e80, show (e' - p).toNat = j by omega]
          · rw [e8, e80]; exact ht⟩
        refine ⟨fun z => absurd z (by omega), fun _ => ⟨by omega, by omega, nb_Wp x3 ⟨x, rfl, k3.1, fun z => fin 1 (Or.inl ⟨rfl, fun y => absurd (x2.2 y) (by omega)⟩), fun z => fin 2 (Or.inr ⟨rfl, x2.1 (by omega)⟩)⟩⟩⟩
      | succ m ih =>
        intro j v2 v5 hj
        refine w_tk_addWord_4 k2.1 (by omega) (by omega) ?_
        rw [r77, r3]
        refine ⟨fun _ => ?_, fun z => absurd z (by omega)⟩
        have bj := hb (p + j) (by omega) (by omega)
        have dj := d1 (p + j) (by omega) (by omega)
        have dj' := dj
        unfold pu_ltr at dj'
        have em : M.1 3 (p + j) = tx (p + j) := by omega
        rw [em, pu_wv_step (f := fun i => tx (p + i)) (n := j) (c := tx (p + j)) (by omega) (abc j (by omega)) rfl dj']
        have g := ih (j + 1) v2 (98, 0) (by omega)
        rw [show p + ((j + 1 : Nat) : Int) = p + j + 1 by omega] at g
        exact g
/-- the tokens up to one -/
def pu_TK (M : nb_M) (tx : Int → Int) (n : Int) (cnt : Nat) (E : Nat → Int) : Prop :=
  M.1 77 3 = cnt ∧ ((cnt : Int) ≤ E cnt ∧ E cnt ≤ n) ∧ E 0 = 0 ∧ (∀ j : Nat, j < cnt → pu_tkA tx n (E j) (M.1 79 j) (M.1 78 j) (M.1 80 j) (E (j + 1))) ∧ ∀ j : Nat, j + 1 < cnt → M.1 78 j ≠ 6
/-- all tokens -/
def pu_TF (M : nb_M) (tx : Int → Int) (n : Int) (cnt : Nat) (E : Nat → Int) : Prop :=
  pu_TK M tx n cnt E ∧ M.1 79 cnt = n ∧ M.1 80 cnt = 0 ∧ ((M.1 78 cnt = 0 ∧ pu_tkE tx n (E cnt) ∧ ∀ j : Nat, j < cnt → M.1 78 j ≠ 6) ∨ (M.1 78 cnt = 6 ∧ 1 ≤ cnt ∧ M.1 78 ((cnt : Int) - 1) = 6))
/-- what the parting changes -/
def pu_kf (M M' : nb_M) : Prop := nb_Lay M' ∧ M'.2 = M.2 ∧ ∀ a, a ≠ 77 → a ≠ 78 → a ≠ 79 → a ≠ 80 → M'.1 a = M.1 a
theorem sp_tk_part {M : nb_M} {tx : Int → Int} {n : Int} {v3 v4 v5 : nb_V} (W : nb_Lay M) (hb : pu_by M tx n) (hn : 0 ≤ n ∧ n ≤ 1000) : nb_W 284 0 [(18, 77), (4, 3), (0, n), v3, v4, v5] [] M (fun r' M' => r' = [] ∧ pu_kf M M' ∧ ∃ (cnt : Nat) (E : Nat → Int), pu_TF M' tx n cnt E) := by
  refine w_tk_part_0 W ?_
  -- the end
  have fin : ∀ (N : nb_M) (cnt : Nat) (E : Nat → Int) (t : Int), pu_kf M N → pu_TK N tx n cnt E → ((t = 0 ∧ pu_tkE tx n (E cnt) ∧ ∀ j : Nat, j < cnt → N.1 78 j ≠ 6) ∨ (t = 6 ∧ 1 ≤ cnt ∧ N.1 78 ((cnt : Int) - 1) = 6)) → nb_Lay (nb_wr (nb_wr (nb_wr N 78 cnt t) 79 cnt n) 80 cnt 0) → (([] : List nb_V) = [] ∧ pu_kf M (nb_wr (nb_wr (nb_wr N 78 cnt t) 79 cnt n) 80 cnt 0) ∧ ∃ (cnt2 : Nat) (E2 : Nat → Int), pu_TF (nb_wr (nb_wr (nb_wr N 78 cnt t) 79 cnt n) 80 cnt 0) tx n cnt2 E2) := fun N cnt E t hf hk ht hL => by
    obtain ⟨f1, f2, f3⟩ := hf
    obtain ⟨t1, t2, t3, t4, t5⟩ := hk
    have w : ∀ a (j : Nat), (a = 78 ∨ a = 79 ∨ a = 80) → j < cnt → (nb_wr (nb_wr (nb_wr N 78 cnt t) 79 cnt n) 80 cnt 0).1 a j = N.1 a j := fun a j _ hj => by
      rw [nb_wr_1, if_neg (by omega), nb_wr_1, if_neg (by omega), nb_wr_1, if_neg (by omega)]
    have w8 : (nb_wr (nb_wr (nb_wr N 78 cnt t) 79 cnt n) 80 cnt 0).1 78 cnt = t := by rw [nb_wr_b (by decide), nb_wr_b (by decide), nb_wr_1, if_pos ⟨rfl, rfl⟩]
    refine ⟨rfl, ⟨hL, f2, fun a p q r s => ?_⟩, cnt, E, ⟨?_, t2, t3, fun j hj => ?_, fun j hj => ?_⟩, ?_, ?_, ?_⟩
    · rw [nb_wr_b s, nb_wr_b r, nb_wr_b q]; exact f3 a p q r s
    · rw [nb_wr_b (by decide), nb_wr_b (by decide), nb_wr_b (by decide)]; exact t1
    · rw [w 79 j (by omega) hj, w 78 j (by omega) hj, w 80 j (by omega) hj]; exact t4 j hj
    · rw [w 78 j (by omega) (by omega)]; exact t5 j hj
    · rw [nb_wr_b (by decide), nb_wr_1, if_pos ⟨rfl, rfl⟩]
    · rw [nb_wr_1, if_pos ⟨rfl, rfl⟩]
    · rw [w8]
      rcases ht with ⟨a, b, c⟩ | ⟨a, b, c⟩
      · exact Or.inl ⟨a, b, fun j hj => by rw [w 78 j (by omega) hj]; exact c j hj⟩
      · refine Or.inr ⟨a, b, ?_⟩
        have g := w 78 (cnt - 1) (by omega) (by omega)
        rw [show ((cnt - 1 : Nat) : Int) = (cnt : Int) - 1 by omega] at g
        rw [g]; exact c
  suffices hl : ∀ (m : Nat) (at' : Int) (v5 : nb_V) (N : nb_M) (cnt : Nat) (E : Nat → Int), at' + m = n → pu_kf M N → pu_TK N tx n cnt E → (∀ j : Nat, j < cnt → N.1 78 j ≠ 6) → E cnt ≤ at' → (∀ i, E cnt ≤ i → i < at' → tx i = 32) → nb_W 284 2 [(18, 77), (4, 3), (0, n), (0, at'), (0, 0), v5] [] N (fun r' M' => r' = [] ∧ pu_kf M M' ∧ ∃ (cnt : Nat) (E : Nat → Int), pu_TF M' tx n cnt E) by
    refine hl n.toNat 0 v5 (nb_wr M 77 3 0) 0 (fun _ => 0) (by omega) ⟨W.wr (fun w => nb_nlit (by decide) (by decide)), rfl, fun a p q r s => nb_wr_b p⟩ ⟨by rw [nb_wr_1, if_pos ⟨rfl, rfl⟩]; rfl, ⟨Int.le_refl 0, hn.1⟩, rfl, fun j hj => absurd hj (by omega), fun j hj => absurd hj (by omega)⟩ (fun j hj => absurd hj (by omega)) (Int.le_refl 0) (fun i a b => absurd a (by omega))
  intro m
  induction m using Nat.strongRecOn with
  | ind m ih =>
    intro at' v5 N cnt E hm hf hk h6 hE hbl
    have t1 := hk.1
    have t2 := hk.2.1
    have hbN : pu_by N tx n := fun i a b => by rw [hf.2.2 3 (by decide) (by decide) (by decide) (by decide)]; exact hb i a b
    refine w_tk_part_2 hf.1 (by omega) (by omega) (by omega) ?_
    rw [t1]
    refine ⟨fun c => ⟨fun _ => ⟨fun b => ?_, fun b => ?_⟩, fun z => absurd rfl z⟩, fun c => ⟨by omega, by omega, fun _ => ?_, fun z => absurd rfl z⟩⟩
    · have b0 := hbN at' (by omega) c
      exact ih (m - 1) (by omega) (at' + 1) v5 N cnt E (by omega) hf hk h6 (by omega) (fun i a d => by
        by_cases q : i = at'
        · rw [q]; omega
        · exact hbl i a (by omega))
    · have b0 := hbN at' (by omega) c
      refine nb_W.imp (sp_tk_end hf.1 hbN hn.2 ⟨by omega, c⟩) ?_
      rintro r' N1 ⟨e', rfl, rfl, p1, p2, p3, p4⟩
      refine ⟨e', rfl, hf.1, ?_⟩
      refine nb_W.imp (sp_tk_add (e := E cnt) hf.1 hbN hn.2 t1 (by omega) ⟨by omega, hE⟩ p1 hbl (by omega) p2 p3 p4) ?_
      rintro r' N2 ⟨rfl, a1, a2, a3, a4⟩
      have f2 : pu_kf M N2 := ⟨a1.1, a1.2.1.trans hf.2.1, fun a p q r s => (a1.2.2.1 a p q r s).trans (hf.2.2 a p q r s)⟩
      rw [a2, nb_sub_eq (by omega) (by omega), show (cnt : Int) + 1 - 1 = cnt by omega]
      obtain ⟨E', hE1, hE2⟩ : ∃ E' : Nat → Int, E' (cnt + 1) = e' ∧ ∀ j, j ≠ cnt + 1 → E' j = E j := ⟨fun j => if j = cnt + 1 then e' else E j, if_pos rfl, fun j h => if_neg h⟩
      have kt : pu_TK N2 tx n (cnt + 1) E' := by
        obtain ⟨u1, u2, u3, u4, u5⟩ := hk
        refine ⟨by rw [a2]; rfl, ⟨?_, ?_⟩, ?_, fun j hj => ?_, fun j hj => ?_⟩
        · rw [hE1]; omega
        · rw [hE1]; omega
        · rw [hE2 0 (by omega)]; exact u3
        · by_cases q : j = cnt
          · subst q
            rw [hE1, hE2 j (by omega), a3]
            exact a4
          · rw [hE2 j (by omega), hE2 (j + 1) (by omega), a1.2.2.2 79 j (by omega) (by omega), a1.2.2.2 78 j (by omega) (by omega), a1.2.2.2 80 j (by omega) (by omega)]
            exact u4 j (by omega)
        · rw [a1.2.2.2 78 j (by omega) (by omega)]
          exact h6 j (by omega)
      refine ⟨rfl, a1.1, by omega, by omega, fun z => ?_, fun z => ?_⟩
      · refine w_tk_part_2 a1.1 (by omega) (by omega) (by omega) ?_
        rw [a2]
        have F := fin N2 (cnt + 1) _ 6 f2 kt (Or.inr ⟨rfl, by omega, by rw [show ((cnt + 1 : Nat) : Int) - 1 = cnt by omega]; exact z⟩)
        rw [show ((cnt + 1 : Nat) : Int) = (cnt : Int) + 1 by omega] at F
        exact ⟨fun _ => ⟨fun q => absurd q (by decide), fun _ => ⟨by omega, by omega, F⟩⟩, fun _ => ⟨by omega, by omega, fun q => absurd q (by decide), fun _ => F⟩⟩
      · refine ih (n - e').toNat (by omega) e' _ N2 (cnt + 1) _ (by omega) f2 kt (fun j hj => ?_) (by rw [hE1]; exact Int.le_refl _) (fun i a d => by rw [hE1] at a; omega)
        by_cases q : j = cnt
        · subst q; exact z
        · rw [a1.2.2.2 78 j (by omega) (by omega)]; exact h6 j (by omega)
    · have ea : at' = n := by omega
      exact fin N cnt E 0 hf hk (Or.inl ⟨rfl, ⟨⟨by omega, t2.2⟩, fun i a b => hbl i a (by omega)⟩, h6⟩)
