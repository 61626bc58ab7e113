/-! THE PURE SIDE, its base: plain arithmetic, reading after writing, what a run brings -/
theorem nb_ofr {x : Int} (h1 : -2147483648 ≤ x) (h2 : x ≤ 2147483647) : (Int32.ofInt x).toInt = x := by
  rw [Int32.toInt_ofInt]
  exact Int.bmod_eq_of_le (by simp only [Int32.size]; omega) (by simp only [Int32.size]; omega)
theorem nb_add_eq {x y : Int} (h1 : -2147483648 ≤ x + y) (h2 : x + y ≤ 2147483647) : nb_add x y = x + y := by
  unfold nb_add
  rw [← Int32.ofInt_add]
  exact nb_ofr h1 h2
theorem nb_sub_eq {x y : Int} (h1 : -2147483648 ≤ x - y) (h2 : x - y ≤ 2147483647) : nb_sub x y = x - y := by
  unfold nb_sub
  rw [← Int32.ofInt_sub]
  exact nb_ofr h1 h2
theorem nb_mul_eq {x y : Int} (h1 : -2147483648 ≤ x * y) (h2 : x * y ≤ 2147483647) : nb_mul x y = x * y := by
  unfold nb_mul
  rw [← Int32.ofInt_mul]
  exact nb_ofr h1 h2
theorem nb_neg_eq {x : Int} (h1 : -2147483648 ≤ - x) (h2 : - x ≤ 2147483647) : nb_neg x = - x := by
  unfold nb_neg
  rw [← Int32.ofInt_neg]
  exact nb_ofr h1 h2
theorem nb_rd_same (M : nb_M) (a i v : Int) : nb_rd (nb_wr M a i v) a i = v := if_pos ⟨rfl, rfl⟩
theorem nb_rd_wr (M : nb_M) (a i v b j : Int) : nb_rd (nb_wr M a i v) b j = if b = a ∧ j = i then v else nb_rd M b j := rfl
theorem nb_rd_other {M : nb_M} {a i v b j : Int} (h : b ≠ a ∨ j ≠ i) : nb_rd (nb_wr M a i v) b j = nb_rd M b j :=
  if_neg (fun q => h.elim (fun h => h q.1) (fun h => h q.2))
theorem nb_ln_wr (M : nb_M) (a i v b : Int) : nb_ln (nb_wr M a i v) b = nb_ln M b := rfl
/-- what a run from a block on brings -/
def nb_W (m k : Nat) (L st : List nb_V) (M : nb_M) (Q : List nb_V → nb_M → Prop) : Prop := ∃ r M', nb_R nb_P m k L st M = some (r, M') ∧ Q r M'
theorem nb_W.step {m k m2 k2 : Nat} {L st L2 st2 : List nb_V} {M M2 : nb_M} {Q : List nb_V → nb_M → Prop} (h : nb_R nb_P m k L st M = nb_R nb_P m2 k2 L2 st2 M2) (g : nb_W m2 k2 L2 st2 M2 Q) : nb_W m k L st M Q := by
  obtain ⟨r, M', e, q⟩ := g
  exact ⟨r, M', h.trans e, q⟩
theorem nb_W.done {m k : Nat} {L st r : List nb_V} {M M' : nb_M} {Q : List nb_V → nb_M → Prop} (h : nb_R nb_P m k L st M = some (r, M')) (g : Q r M') : nb_W m k L st M Q := ⟨r, M', h, g⟩
theorem nb_W.call {m k t c : Nat} {L st L2 st2 La : List nb_V} {M M2 : nb_M} {Q : List nb_V → nb_M → Prop} {X : nb_A} (h : nb_R nb_P m k L st M = X.bind fun r => nb_R nb_P m t L2 (r.1 ++ st2) r.2) (hX : X = nb_R nb_P c 0 La [] M2) (g : nb_W c 0 La [] M2 fun r M' => nb_W m t L2 (r ++ st2) M' Q) : nb_W m k L st M Q := by
  obtain ⟨r, M', e, r2, M2', e2, q⟩ := g
  refine ⟨r2, M2', ?_, q⟩
  rw [h, hX, e]
  exact e2
theorem nb_W.prim {m k t : Nat} {L st L2 st2 r : List nb_V} {M M2 : nb_M} {Q : List nb_V → nb_M → Prop} {X : nb_A} (h : nb_R nb_P m k L st M = X.bind fun r => nb_R nb_P m t L2 (r.1 ++ st2) r.2) (hX : X = some (r, M2)) (g : nb_W m t L2 (r ++ st2) M2 Q) : nb_W m k L st M Q := by
  obtain ⟨r2, M2', e2, q⟩ := g
  refine ⟨r2, M2', ?_, q⟩
  rw [h, hX]
  exact e2
theorem nb_W.imp {m k : Nat} {L st : List nb_V} {M : nb_M} {Q Q2 : List nb_V → nb_M → Prop} (g : nb_W m k L st M Q) (h : ∀ r M', Q r M' → Q2 r M') : nb_W m k L st M Q2 := by
  obtain ⟨r, M', e, q⟩ := g
  exact ⟨r, M', e, h r M' q⟩
/-- a loop: what holds at its head, with a measure that falls -/
theorem nb_W.loop {m k : Nat} {Q : List nb_V → nb_M → Prop} (I : Nat → List nb_V → List nb_V → nb_M → Prop) (h : ∀ n L st M, I n L st M → (∀ n' L' st' M', n' < n → I n' L' st' M' → nb_W m k L' st' M' Q) → nb_W m k L st M Q) : ∀ n L st M, I n L st M → nb_W m k L st M Q := by
  intro n
  induction n using Nat.strongRecOn with
  | ind n ih => exact fun L st M hi => h n L st M hi (fun n' L' st' M' hn hI => ih n' hn L' st' M' hI)
theorem nb_W.br {m k m2 k2 m3 k3 : Nat} {L st L2 st2 L3 st3 : List nb_V} {M M2 M3 : nb_M} {Q : List nb_V → nb_M → Prop} {c : Prop} [Decidable c] (h : nb_R nb_P m k L st M = if c then nb_R nb_P m2 k2 L2 st2 M2 else nb_R nb_P m3 k3 L3 st3 M3) (g1 : c → nb_W m2 k2 L2 st2 M2 Q) (g2 : ¬ c → nb_W m3 k3 L3 st3 M3 Q) : nb_W m k L st M Q := by
  by_cases hc : c
  · exact nb_W.step (h.trans (if_pos hc)) (g1 hc)
  · exact nb_W.step (h.trans (if_neg hc)) (g2 hc)
/-- X0's constructor -/
theorem nb_g_init (l0 : Int) (M : nb_M) (h : l0 ≠ 0) : nb_R nb_P 214 0 [(11, l0)] [] M = some ([], nb_wr (nb_wr (nb_wr (nb_wr (nb_wr M l0 6 (-2)) l0 8 0) l0 9 (-2)) l0 10 (-2)) l0 12 (-2)) := by
  rw [q_g_init_0 _ _ h]
  show nb_R nb_P 214 1 [(11, l0)] [] M = _
  rw [q_g_init_1 _ _ h, q_g_init_2 _ _ h, q_g_init_3 _ _ h, q_g_init_4 _ _ h, q_g_init_5 _ _ h, q_g_init_6]
