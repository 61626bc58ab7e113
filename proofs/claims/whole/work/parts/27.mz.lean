/-! memory doesn't shrink; what the tables say holds on -/
def nb_mz (M : nb_M) (r : List nb_V × nb_M) : Prop := nb_cz M ≤ nb_cz r.2 ∧ nb_sz M ≤ nb_sz r.2
def nb_mzC (f : nb_C) : Prop := ∀ m k L st M r, f m k L st M = some r → nb_mz M r
theorem nb_mz_rf (M : nb_M) (v : List nb_V) : nb_mz M (v, M) := ⟨Nat.le_refl _, Nat.le_refl _⟩
theorem nb_mz_tr {M : nb_M} {r r' : List nb_V × nb_M} (h : nb_mz M r) (h' : nb_mz r.2 r') : nb_mz M r' := ⟨Nat.le_trans h.1 h'.1, Nat.le_trans h.2 h'.2⟩
theorem nb_jk_mz (M : nb_M) (v : List nb_V) : nb_mz M (v, nb_jk M) := by
  constructor
  · show M.2.1.length + M.2.2.1 ≤ M.2.1.length + (M.2.2.1 + 1)
    omega
  · show (M.2.1.map (fun q => q.2)).sum + M.2.2.2 ≤ (M.2.1.map (fun q => q.2)).sum + (M.2.2.2 + 6)
    omega
theorem nb_led_mz {f : Nat → List nb_V → nb_M → nb_A} (hf : ∀ c vs M r, f c vs M = some r → nb_mz M r) {x i o : Int} {M : nb_M} {r : List nb_V × nb_M} (h : nb_led f x i o M = some r) : nb_mz M r := by
  unfold nb_led at h
  split at h
  · cases h
  · split at h
    · cases h
      exact nb_jk_mz M _
    · obtain ⟨a, ha, hb⟩ := Option.bind_eq_some_iff.mp h
      have h1 := hf _ _ _ _ ha
      split at hb
      · split at hb
        · cases hb
        · split at hb
          · cases hb
            exact nb_mz_tr h1 (nb_jk_mz a.2 _)
          · cases hb
            exact h1
      · cases hb
theorem nb_prim_mz {G : nb_G} {f : Nat → List nb_V → nb_M → nb_A} (hf : ∀ c vs M r, f c vs M = some r → nb_mz M r) {c : Nat} {vs : List nb_V} {M : nb_M} {r : List nb_V × nb_M} (h : nb_prim G f c vs M = some r) : nb_mz M r := by
  unfold nb_prim at h
  split at h
  · cases h
    exact nb_mz_rf M _
  · split at h
    · cases h
      exact nb_mz_rf M _
    · cases h
  · split at h
    · cases h
      exact nb_mz_rf M _
    · cases h
  · split at h
    · cases h
      exact ⟨Nat.le_refl _, Nat.le_refl _⟩
    · cases h
  · exact nb_led_mz hf h
  · cases h
    exact nb_mz_rf M _
  · cases h
    exact nb_mz_rf M _
  · cases h
    exact nb_mz_rf M _
  · cases h
theorem nb_entr_mz {G : nb_G} {f : nb_C} (hf : nb_mzC f) {c : Nat} {X : nb_X} {vs : List nb_V} {M : nb_M} {r : List nb_V × nb_M} (h : nb_entr G f c X vs M = some r) : nb_mz M r := by
  unfold nb_entr at h
  split at h
  · exact hf _ _ _ _ _ _ h
  · cases h
theorem nb_cal_mz {G : nb_G} {f : nb_C} (hf : nb_mzC f) {c : Nat} {vs : List nb_V} {M : nb_M} {r : List nb_V × nb_M} (h : nb_cal G f c vs M = some r) : nb_mz M r := by
  unfold nb_cal at h
  split at h
  · exact nb_entr_mz hf h
  · refine nb_prim_mz (fun c' vs' M' r' h' => ?_) h
    split at h'
    · exact nb_entr_mz hf h'
    · cases h'
theorem nb_inv_mz {G : nb_G} {f : nb_C} (hf : nb_mzC f) {m t c : Nat} {virt : Bool} {L st : List nb_V} {M : nb_M} {r : List nb_V × nb_M} (h : nb_inv G f m t c virt L st M = some r) : nb_mz M r := by
  unfold nb_inv at h
  split at h
  · split at h
    · split at h
      · cases h
      · split at h
        · cases h
        · obtain ⟨a, ha, hb⟩ := Option.bind_eq_some_iff.mp h
          exact nb_mz_tr (nb_cal_mz hf ha) (hf _ _ _ _ _ _ hb)
    · obtain ⟨a, ha, hb⟩ := Option.bind_eq_some_iff.mp h
      exact nb_mz_tr (nb_cal_mz hf ha) (hf _ _ _ _ _ _ hb)
  · cases h
theorem nb_swt_mz {M : nb_M} {f : Nat → nb_A} (hf : ∀ t r, f t = some r → nb_mz M r) {x : Int} {d : Nat} {r : List nb_V × nb_M} : ∀ (ts : List Nat) (lo : Int), nb_swt f x d lo ts = some r → nb_mz M r
  | [], _, h => hf _ _ h
  | t :: ts, lo, h => by
    unfold nb_swt at h
    split at h
    · exact hf _ _ h
    · exact nb_swt_mz hf ts _ h
theorem nb_lsw_mz {M : nb_M} {f : Nat → nb_A} (hf : ∀ t r, f t = some r → nb_mz M r) {x : Int} {d : Nat} {r : List nb_V × nb_M} : ∀ (ks : List (Int × Int)) (ts : List Nat), nb_lsw f x d ks ts = some r → nb_mz M r
  | [], _, h => by
    unfold nb_lsw at h
    exact hf _ _ h
  | _ :: _, [], h => by
    unfold nb_lsw at h
    exact hf _ _ h
  | k :: ks, t :: ts, h => by
    unfold nb_lsw at h
    split at h
    · exact hf _ _ h
    · exact nb_lsw_mz hf ks ts h
theorem nb_ite_mz {M : nb_M} {c : Prop} {_ : Decidable c} {a b : nb_A} {r : List nb_V × nb_M} (ha : a = some r → nb_mz M r) (hb : b = some r → nb_mz M r) (h : (if c then a else b) = some r) : nb_mz M r := by
  split at h
  · exact ha h
  · exact hb h
theorem nb_some_mz {M : nb_M} {v : List nb_V} {r : List nb_V × nb_M} (h : some (v, M) = some r) : nb_mz M r := by
  cases h
  exact nb_mz_rf M _
theorem nb_none_mz {M : nb_M} {r : List nb_V × nb_M} (h : (none : nb_A) = some r) : nb_mz M r := by cases h
set_option maxHeartbeats 4000000 in
theorem nb_ter_mz {G : nb_G} {f : nb_C} (hf : nb_mzC f) {m ret : Nat} {i : Instr} {ts : List Nat} {c : Nat} {L st : List nb_V} {M : nb_M} {r : List nb_V × nb_M} (h : nb_ter G f m ret i ts c L st M = some r) : nb_mz M r := by
  unfold nb_ter at h
  split at h
  all_goals first
    | exact hf _ _ _ _ _ _ h
    | exact nb_ite_mz (hf _ _ _ _ _ _) (hf _ _ _ _ _ _) h
    | exact nb_swt_mz (fun t r h => hf _ _ _ _ _ _ h) _ _ h
    | exact nb_lsw_mz (fun t r h => hf _ _ _ _ _ _ h) _ _ h
    | exact nb_inv_mz hf h
    | exact nb_ite_mz nb_some_mz nb_none_mz h
    | exact nb_ite_mz nb_some_mz (nb_ite_mz nb_some_mz nb_none_mz) h
    | cases h
theorem nb_blk_mz {G : nb_G} {f : nb_C} (hf : nb_mzC f) : nb_mzC (nb_blk G f) := by
  intro m k L st M r h
  unfold nb_blk at h
  cases hX : G.2.2.2.2.1 m with
  | none => simp [hX] at h
  | some X =>
    cases hB : G.2.2.2.1 m k with
    | none => simp [hX, hB] at h
    | some B =>
      simp only [hX, hB] at h
      rcases nb_str_fcI G X.1 B.2.1 true L st M with h' | ⟨b2, L2, st2, M2, h', g2, g3, g4, g5⟩
      · rw [h'] at h
        cases h
      · rw [h'] at h
        unfold nb_fin at h
        split at h
        · have := nb_ter_mz hf h
          exact ⟨Nat.le_trans g3 this.1, Nat.le_trans g4 this.2⟩
        · cases h
theorem nb_run_mz (G : nb_G) : ∀ n, nb_mzC (nb_run G n)
  | 0 => fun _ _ _ _ _ _ h => by cases h
  | n + 1 => nb_blk_mz (nb_run_mz G n)
theorem nb_arK.moved {E : nb_E} {s U : State} (hvm : s.vm.Alike U.vm) {k : Nat} (h : nb_arK E s k) : nb_arK E U k := by
  obtain ⟨kA, comp, kc, h1, h2, h3, h4, h5⟩ := h
  obtain ⟨kA', g1, e1⟩ := hvm.2.2 _ _ h1
  by_cases hk : 4 ≤ k
  · obtain ⟨kc', g3, -⟩ := hvm.2.2 _ _ (h3 hk)
    exact ⟨kA', comp, kc', g1, by rw [e1]; exact h2, fun _ => g3, by rw [hvm.findClass]; exact h4, h5⟩
  · exact ⟨kA', comp, kc, g1, by rw [e1]; exact h2, fun q => absurd q hk, by rw [hvm.findClass]; exact h4, h5⟩
theorem nb_S.warm {E : nb_E} {s U : State} (hW : s.WarmedH U.vm) (h : nb_S E s) : nb_S E U := by
  obtain ⟨h1, h2, h3, h4, h5, h6⟩ := h
  refine ⟨fun w hw hs => nb_stw_warm hs hW (h1 w hw hs), fun i q hq => u_Kn_moved hW.alike (h2 i q hq), fun k hk => (h3 k hk).moved hW.alike, fun scr hs => State.isArrayOf_alike hW.alike (h4 scr hs), ⟨fun own n k hk => ?_, nb_J.warm hW h5.2⟩, h6⟩
  obtain ⟨tx, g⟩ := h5.1 own n k hk
  exact ⟨tx, g.warm hW⟩
