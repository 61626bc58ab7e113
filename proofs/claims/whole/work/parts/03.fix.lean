/-! THE FUEL-FREE MEANING: nb_R, and its one equation nb_R_eq -/
abbrev nb_C : Type := Nat → Nat → List nb_V → List nb_V → nb_M → nb_A
def nb_le (f g : nb_C) : Prop := ∀ m k L st M r, f m k L st M = some r → g m k L st M = some r
theorem nb_led_mono {f g : Nat → List nb_V → nb_M → nb_A} (le : ∀ c vs M r, f c vs M = some r → g c vs M = some r) {x i o : Int} {M : nb_M} {r : List nb_V × nb_M} (h : nb_led f x i o M = some r) : nb_led g x i o M = some r := by
  unfold nb_led at h ⊢
  split at h
  · cases h
  · rename_i h1
    rw [if_neg h1]
    split at h
    · rename_i h2
      rw [if_pos h2]
      exact h
    · rename_i h2
      rw [if_neg h2]
      obtain ⟨a, ha, hb⟩ := Option.bind_eq_some_iff.mp h
      rw [le _ _ _ _ ha, Option.bind_some]
      exact hb
theorem nb_prim_mono {G : nb_G} {f g : Nat → List nb_V → nb_M → nb_A} (le : ∀ c vs M r, f c vs M = some r → g c vs M = some r) {c : Nat} {vs : List nb_V} {M : nb_M} {r : List nb_V × nb_M} (h : nb_prim G f c vs M = some r) : nb_prim G g c vs M = some r := by
  unfold nb_prim at h
  split at h
  · exact h
  · exact h
  · exact h
  · exact h
  · exact nb_led_mono le h
  · exact h
  · exact h
  · exact h
  · cases h
theorem nb_entr_mono {G : nb_G} {f g : nb_C} (le : nb_le f g) {c : Nat} {X : nb_X} {vs : List nb_V} {M : nb_M} {r : List nb_V × nb_M} (h : nb_entr G f c X vs M = some r) : nb_entr G g c X vs M = some r := by
  unfold nb_entr at h ⊢
  split at h
  · rename_i h1
    rw [if_pos h1]
    exact le _ _ _ _ _ _ h
  · cases h
theorem nb_cal_mono {G : nb_G} {f g : nb_C} (le : nb_le f g) {c : Nat} {vs : List nb_V} {M : nb_M} {r : List nb_V × nb_M} (h : nb_cal G f c vs M = some r) : nb_cal G g c vs M = some r := by
  unfold nb_cal at h ⊢
  split at h
  · exact nb_entr_mono le h
  · refine nb_prim_mono ?_ h
    intro c' vs' M' r' h'
    split at h'
    · exact nb_entr_mono le h'
    · cases h'
theorem nb_inv_mono {G : nb_G} {f g : nb_C} (le : nb_le f g) {m t c : Nat} {virt : Bool} {L st : List nb_V} {M : nb_M} {r : List nb_V × nb_M} (h : nb_inv G f m t c virt L st M = some r) : nb_inv G g m t c virt L st M = some r := by
  unfold nb_inv at h ⊢
  split at h
  · rename_i h1
    rw [if_pos h1]
    split at h
    · split at h
      · cases h
      · rename_i h2
        rw [if_neg h2]
        split at h
        · cases h
        · rename_i h3
          rw [if_neg h3]
          obtain ⟨a, ha, hb⟩ := Option.bind_eq_some_iff.mp h
          rw [nb_cal_mono le ha, Option.bind_some]
          exact le _ _ _ _ _ _ hb
    · obtain ⟨a, ha, hb⟩ := Option.bind_eq_some_iff.mp h
      rw [nb_cal_mono le ha, Option.bind_some]
      exact le _ _ _ _ _ _ hb
  · cases h
theorem nb_swt_mono {f g : Nat → nb_A} (le : ∀ t r, f t = some r → g t = some r) {x : Int} {d : Nat} {r : List nb_V × nb_M} : ∀ (ts : List Nat) (lo : Int), nb_swt f x d lo ts = some r → nb_swt g x d lo ts = some r
  | [], _, h => le _ _ h
  | t :: ts, lo, h => by
    unfold nb_swt at h ⊢
    split at h
    · rename_i h1
      rw [if_pos h1]
      exact le _ _ h
    · rename_i h1
      rw [if_neg h1]
      exact nb_swt_mono le ts _ h
theorem nb_lsw_mono {f g : Nat → nb_A} (le : ∀ t r, f t = some r → g t = some r) {x : Int} {d : Nat} {r : List nb_V × nb_M} : ∀ (ks : List (Int × Int)) (ts : List Nat), nb_lsw f x d ks ts = some r → nb_lsw g x d ks ts = some r
  | [], _, h => by
    unfold nb_lsw at h ⊢
    exact le _ _ h
  | _ :: _, [], h => by
    unfold nb_lsw at h ⊢
    exact le _ _ h
  | k :: ks, t :: ts, h => by
    unfold nb_lsw at h ⊢
    split at h
    · rename_i h1
      rw [if_pos h1]
      exact le _ _ h
    · rename_i h1
      rw [if_neg h1]
      exact nb_lsw_mono le ks ts h
theorem nb_ite_mono {c : Prop} {_ : Decidable c} {a b a' b' : nb_A} {r : List nb_V × nb_M} (ha : a = some r → a' = some r) (hb : b = some r → b' = some r) (h : (if c then a else b) = some r) : (if c then a' else b') = some r := by
  split at h
  · rename_i h1
    rw [if_pos h1]
    exact ha h
  · rename_i h1
    rw [if_neg h1]
    exact hb h
set_option maxHeartbeats 4000000 in
theorem nb_ter_mono {G : nb_G} {f g : nb_C} (le : nb_le f g) {m ret : Nat} {i : Instr} {ts : List Nat} {c : Nat} {L st : List nb_V} {M : nb_M} {r : List nb_V × nb_M} (h : nb_ter G f m ret i ts c L st M = some r) : nb_ter G g m ret i ts c L st M = some r := by
  unfold nb_ter at h
  split at h
  all_goals first
    | exact le _ _ _ _ _ _ h
    | exact nb_ite_mono (le _ _ _ _ _ _) (le _ _ _ _ _ _) h
    | exact nb_swt_mono (fun t r h => le _ _ _ _ _ _ h) _ _ h
    | exact nb_lsw_mono (fun t r h => le _ _ _ _ _ _ h) _ _ h
    | exact nb_inv_mono le h
    | exact h
    | cases h
/-- a stretch stops, or goes on from one point -/
def nb_fac (F : nb_K → nb_A) : Prop := (∀ k, F k = none) ∨ ∃ c L st M, ∀ k, F k = k c L st M
theorem nb_fac_none : nb_fac (fun _ => none) := Or.inl fun _ => rfl
theorem nb_fac_go (c : Bool) (L st : List nb_V) (M : nb_M) : nb_fac (fun k => k c L st M) := Or.inr ⟨c, L, st, M, fun _ => rfl⟩
theorem nb_fac_ite {p : Prop} {_ : Decidable p} {F F' : nb_K → nb_A} (h : nb_fac F) (h' : nb_fac F') : nb_fac (fun k => if p then F k else F' k) := by
  by_cases hp : p
  · simpa only [if_pos hp] using h
  · simpa only [if_neg hp] using h'
theorem nb_ald_fac (kd r : Nat) (c : Bool) (L st : List nb_V) (M : nb_M) : nb_fac (nb_ald kd r c L st M) := by
  unfold nb_ald
  match st with
  | [] => exact nb_fac_none
  | [_] => exact nb_fac_none
  | i :: a :: st => exact nb_fac_ite (nb_fac_go ..) nb_fac_none
theorem nb_ast_fac (kd t : Nat) (f : Int → Int) (c : Bool) (L st : List nb_V) (M : nb_M) : nb_fac (nb_ast kd t f c L st M) := by
  unfold nb_ast
  match st with
  | [] => exact nb_fac_none
  | [_] => exact nb_fac_none
  | [_, _] => exact nb_fac_none
  | v :: i :: a :: st => exact nb_fac_ite (nb_fac_go ..) nb_fac_none
theorem nb_load_fac (lo hi n : Nat) (c : Bool) (L st : List nb_V) (M : nb_M) : nb_fac (nb_load lo hi n c L st M) := by
  unfold nb_load
  cases L[n]? with
  | none => exact nb_fac_none
  | some v => exact nb_fac_ite (nb_fac_go ..) nb_fac_none
theorem nb_store_fac (lo hi n : Nat) (c : Bool) (L st : List nb_V) (M : nb_M) : nb_fac (nb_store lo hi n c L st M) := by
  unfold nb_store
  match st with
  | [] => exact nb_fac_none
  | v :: st => exact nb_fac_ite (nb_fac_go ..) nb_fac_none
theorem nb_lstore_fac (n : Nat) (c : Bool) (L st : List nb_V) (M : nb_M) : nb_fac (nb_lstore n c L st M) := by
  unfold nb_lstore
  match st with
  | [] => exact nb_fac_none
  | v :: st => exact nb_fac_ite (nb_fac_go ..) nb_fac_none
theorem nb_iinc_fac (n : Nat) (d : Int) (c : Bool) (L st : List nb_V) (M : nb_M) : nb_fac (nb_iinc n d c L st M) := by
  unfold nb_iinc
  cases L[n]? with
  | none => exact nb_fac_none
  | some v => exact nb_fac_ite (nb_fac_go ..) nb_fac_none
theorem nb_un_fac (t r : Nat) (f : Int → Int) (c : Bool) (L st : List nb_V) (M : nb_M) : nb_fac (nb_un t r f c L st M) := by
  unfold nb_un
  match st with
  | [] => exact nb_fac_none
  | v :: st => exact nb_fac_ite (nb_fac_go ..) nb_fac_none
theorem nb_bin_fac (tx ty r : Nat) (f : Int → Int → Int) (c : Bool) (L st : List nb_V) (M : nb_M) : nb_fac (nb_bin tx ty r f c L st M) := by
  unfold nb_bin
  match st with
  | [] => exact nb_fac_none
  | [_] => exact nb_fac_none
  | v :: w :: st => exact nb_fac_ite (nb_fac_go ..) nb_fac_none
theorem nb_binz_fac (f : Int → Int → Int) (c : Bool) (L st : List nb_V) (M : nb_M) : nb_fac (nb_binz f c L st M) := by
  unfold nb_binz
  match st with
  | [] => exact nb_fac_none
  | [_] => exact nb_fac_none
  | v :: w :: st => exact nb_fac_ite (nb_fac_go ..) nb_fac_none
theorem nb_newa_fac (kd : Nat) (c : Bool) (L st : List nb_V) (M : nb_M) : nb_fac (nb_newa kd c L st M) := by
  unfold nb_newa
  match st with
  | [] => exact nb_fac_none
  | v :: st => exact nb_fac_ite (nb_fac_go ..) nb_fac_none
set_option maxHeartbeats 4000000 in
theorem nb_sx_fac (G : nb_G) (own : Nat) (i : Instr) (c : Bool) (L st : List nb_V) (M : nb_M) : nb_fac (nb_sx G own i c L st M) := by
  unfold nb_sx
  split
  all_goals first
    | exact nb_load_fac ..
    | exact nb_store_fac ..
    | exact nb_bin_fac ..
    | exact nb_un_fac ..
    | exact nb_lstore_fac ..
    | exact nb_iinc_fac ..
    | exact nb_binz_fac ..
    | exact nb_ald_fac ..
    | exact nb_ast_fac ..
    | exact nb_newa_fac ..
    | exact nb_fac_go ..
    | exact nb_fac_none
    | skip
  all_goals first
    | (unfold nb_ldc; split <;> first | exact nb_fac_ite (nb_fac_go ..) nb_fac_none | exact nb_fac_none)
    | (unfold nb_cst; split <;> first | exact nb_fac_ite (nb_fac_go ..) nb_fac_none | exact nb_fac_none)
    | (unfold nb_dup; split <;> first | exact nb_fac_ite (nb_fac_go ..) nb_fac_none | exact nb_fac_none)
    | (unfold nb_dup2; split <;> first | exact nb_fac_ite (nb_fac_go ..) nb_fac_none | exact nb_fac_none)
    | (unfold nb_pop; split <;> first | exact nb_fac_ite (nb_fac_go ..) nb_fac_none | exact nb_fac_none)
    | (unfold nb_alen; split <;> first | exact nb_fac_ite (nb_fac_go ..) nb_fac_none | exact nb_fac_none)
    | (unfold nb_newm; split <;> first | exact nb_fac_ite (nb_fac_go ..) nb_fac_none | exact nb_fac_none)
    | (unfold nb_getf; split <;> first | exact nb_fac_none | (split <;> first | exact nb_fac_ite (nb_fac_go ..) nb_fac_none | exact nb_fac_none))
    | (unfold nb_putf; split <;> first | exact nb_fac_none | (split <;> first | exact nb_fac_ite (nb_fac_go ..) nb_fac_none | exact nb_fac_none))
    | (unfold nb_newc; split <;> first | exact nb_fac_ite (nb_fac_go ..) nb_fac_none | exact nb_fac_none)
    | (unfold nb_newr; split <;> first | exact nb_fac_ite (nb_newa_fac ..) nb_fac_none | exact nb_fac_none)
    | (unfold nb_bald; split <;> first | exact nb_fac_ite (nb_ald_fac ..) (nb_ald_fac ..) | exact nb_fac_none)
    | (unfold nb_bast; split <;> first | exact nb_fac_ite (nb_ast_fac ..) (nb_ast_fac ..) | exact nb_fac_none)
    | (unfold nb_aald; split <;> first | exact nb_fac_ite (nb_ald_fac ..) nb_fac_none | exact nb_fac_none)
    | (unfold nb_aast; split <;> first | exact nb_fac_ite (nb_ast_fac ..) nb_fac_none | exact nb_fac_none)
theorem nb_str_fac (G : nb_G) (own : Nat) : ∀ (is : List (Instr × Nat)) (c : Bool) (L st : List nb_V) (M : nb_M), nb_fac (nb_str G own is c L st M)
  | [], c, L, st, M => nb_fac_go c L st M
  | i :: is, c, L, st, M => by
    rcases nb_sx_fac G own i.1 c L st M with h | ⟨c', L', st', M', h⟩
    · exact Or.inl fun k => h _
    · rcases nb_str_fac G own is c' L' st' M' with h' | ⟨c2, L2, st2, M2, h'⟩
      · exact Or.inl fun k => (h _).trans (h' k)
      · exact Or.inr ⟨c2, L2, st2, M2, fun k => (h _).trans (h' k)⟩
theorem nb_blk_mono {G : nb_G} {f g : nb_C} (le : nb_le f g) : nb_le (nb_blk G f) (nb_blk G g) := by
  intro m k L st M r h
  unfold nb_blk at h ⊢
  cases hX : G.2.2.2.2.1 m with
  | none => simp [hX] at h
  | some X =>
    cases hB : G.2.2.2.1 m k with
    | none => simp [hX, hB] at h
    | some B =>
      simp only [hX, hB] at h ⊢
      rcases nb_str_fac G X.1 B.2.1 true L st M with h' | ⟨c2, L2, st2, M2, h'⟩
      · rw [h'] at h
        cases h
      · rw [h'] at h ⊢
        unfold nb_fin at h ⊢
        exact nb_ite_mono (nb_ter_mono le) (fun h => h) h
theorem nb_run_succ (G : nb_G) : ∀ n, nb_le (nb_run G n) (nb_run G (n + 1))
  | 0 => fun _ _ _ _ _ _ h => by cases h
  | n + 1 => nb_blk_mono (nb_run_succ G n)
theorem nb_run_le (G : nb_G) {a b : Nat} (h : a ≤ b) : nb_le (nb_run G a) (nb_run G b) := by
  induction h with
  | refl => exact fun _ _ _ _ _ _ h => h
  | step _ ih => exact fun _ _ _ _ _ _ h => nb_run_succ G _ _ _ _ _ _ _ (ih _ _ _ _ _ _ h)
theorem nb_ex (G : nb_G) (m k : Nat) (L st : List nb_V) (M : nb_M) : ∃ v : nb_A, ∀ r, v = some r ↔ ∃ n, nb_run G n m k L st M = some r := by
  by_cases h : ∃ r n, nb_run G n m k L st M = some r
  · obtain ⟨r, n, hr⟩ := h
    refine ⟨some r, fun r' => ⟨fun e => ⟨n, by cases e; exact hr⟩, fun ⟨n', h'⟩ => ?_⟩⟩
    have h1 := nb_run_le G (Nat.le_max_left n n') _ _ _ _ _ _ hr
    have h2 := nb_run_le G (Nat.le_max_right n n') _ _ _ _ _ _ h'
    exact h1.symm.trans h2
  · exact ⟨none, fun r => ⟨fun e => by (cases e), fun ⟨n, h'⟩ => absurd ⟨r, n, h'⟩ h⟩⟩
noncomputable def nb_R (G : nb_G) : nb_C := fun m k L st M => Classical.choose (nb_ex G m k L st M)
theorem nb_R_iff {G : nb_G} {m k : Nat} {L st : List nb_V} {M : nb_M} {r : List nb_V × nb_M} : nb_R G m k L st M = some r ↔ ∃ n, nb_run G n m k L st M = some r := Classical.choose_spec (nb_ex G m k L st M) r
theorem nb_run_R (G : nb_G) (n : Nat) : nb_le (nb_run G n) (nb_R G) := fun _ _ _ _ _ _ h => nb_R_iff.mpr ⟨n, h⟩
/-! what is said of the meaning is said of a run -/
theorem nb_led_cont {x i o : Int} {M : nb_M} {r : List nb_V × nb_M} {F : Nat → Nat → List nb_V → nb_M → nb_A} {f : Nat → List nb_V → nb_M → nb_A} (hc : ∀ c vs M r, f c vs M = some r → ∃ n, F n c vs M = some r) (h : nb_led f x i o M = some r) : ∃ n, nb_led (F n) x i o M = some r := by
  unfold nb_led at h ⊢
  split at h
  · cases h
  · rename_i h1
    split at h
    · rename_i h2
      exact ⟨0, by rw [if_neg h1, if_pos h2]; exact h⟩
    · rename_i h2
      obtain ⟨a, ha, hb⟩ := Option.bind_eq_some_iff.mp h
      obtain ⟨n, hn⟩ := hc _ _ _ _ ha
      exact ⟨n, by rw [if_neg h1, if_neg h2, hn, Option.bind_some]; exact hb⟩
theorem nb_prim_cont {G : nb_G} {c : Nat} {vs : List nb_V} {M : nb_M} {r : List nb_V × nb_M} {F : Nat → Nat → List nb_V → nb_M → nb_A} {f : Nat → List nb_V → nb_M → nb_A} (hc : ∀ c vs M r, f c vs M = some r → ∃ n, F n c vs M = some r) (h : nb_prim G f c vs M = some r) : ∃ n, nb_prim G (F n) c vs M = some r := by
  unfold nb_prim at h
  split at h
  · exact ⟨0, h⟩
  · exact ⟨0, h⟩
  · exact ⟨0, h⟩
  · exact ⟨0, h⟩
  · exact nb_led_cont hc h
  · exact ⟨0, h⟩
  · exact ⟨0, h⟩
  · exact ⟨0, h⟩
  · cases h
theorem nb_entr_cont {G : nb_G} {c : Nat} {X : nb_X} {vs : List nb_V} {M : nb_M} {r : List nb_V × nb_M} (h : nb_entr G (nb_R G) c X vs M = some r) : ∃ n, nb_entr G (nb_run G n) c X vs M = some r := by
  unfold nb_entr at h ⊢
  split at h
  · rename_i h1
    simp only [if_pos h1]
    exact nb_R_iff.mp h
  · cases h
theorem nb_cal_cont {G : nb_G} {c : Nat} {vs : List nb_V} {M : nb_M} {r : List nb_V × nb_M} (h : nb_cal G (nb_R G) c vs M = some r) : ∃ n, nb_cal G (nb_run G n) c vs M = some r := by
  unfold nb_cal at h ⊢
  split at h
  · exact nb_entr_cont h
  · refine nb_prim_cont (F := fun n c' vs' M' => match G.2.2.2.2.1 c' with
      | some X => nb_entr G (nb_run G n) c' X vs' M'
      | none => none) ?_ h
    intro c' vs' M' r' h'
    split at h'
    · rename_i hX
      simp only [hX]
      exact nb_entr_cont h'
    · cases h'
theorem nb_bind_cont {G : nb_G} {m t c : Nat} {vs L st : List nb_V} {M : nb_M} {r : List nb_V × nb_M} (h : ((nb_cal G (nb_R G) c vs M).bind fun r => nb_R G m t L (r.1 ++ st) r.2) = some r) : ∃ n, ((nb_cal G (nb_run G n) c vs M).bind fun r => nb_run G n m t L (r.1 ++ st) r.2) = some r := by
  obtain ⟨a, ha, hb⟩ := Option.bind_eq_some_iff.mp h
  obtain ⟨n1, h1⟩ := nb_cal_cont ha
  obtain ⟨n2, h2⟩ := nb_R_iff.mp hb
  refine ⟨max n1 n2, ?_⟩
  rw [nb_cal_mono (nb_run_le G (Nat.le_max_left n1 n2)) h1, Option.bind_some]
  exact nb_run_le G (Nat.le_max_right n1 n2) _ _ _ _ _ _ h2
theorem nb_inv_cont {G : nb_G} {m t c : Nat} {virt : Bool} {L st : List nb_V} {M : nb_M} {r : List nb_V × nb_M} (h : nb_inv G (nb_R G) m t c virt L st M = some r) : ∃ n, nb_inv G (nb_run G n) m t c virt L st M = some r := by
  unfold nb_inv at h ⊢
  split at h
  · rename_i h1
    simp only [if_pos h1]
    split at h
    · split at h
      · cases h
      · rename_i h2
        simp only [if_neg h2]
        split at h
        · cases h
        · rename_i h3
          simp only [if_neg h3]
          exact nb_bind_cont h
    · exact nb_bind_cont h
  · cases h
theorem nb_swt_cont {F : Nat → Nat → nb_A} {f : Nat → nb_A} (hc : ∀ t r, f t = some r → ∃ n, F n t = some r) {x : Int} {d : Nat} {r : List nb_V × nb_M} : ∀ (ts : List Nat) (lo : Int), nb_swt f x d lo ts = some r → ∃ n, nb_swt (F n) x d lo ts = some r
  | [], _, h => hc _ _ h
  | t :: ts, lo, h => by
    unfold nb_swt at h ⊢
    split at h
    · rename_i h1
      simp only [if_pos h1]
      exact hc _ _ h
    · rename_i h1
      simp only [if_neg h1]
      exact nb_swt_cont hc ts _ h
theorem nb_lsw_cont {F : Nat → Nat → nb_A} {f : Nat → nb_A} (hc : ∀ t r, f t = some r → ∃ n, F n t = some r) {x : Int} {d : Nat} {r : List nb_V × nb_M} : ∀ (ks : List (Int × Int)) (ts : List Nat), nb_lsw f x d ks ts = some r → ∃ n, nb_lsw (F n) x d ks ts = some r
  | [], _, h => by
    unfold nb_lsw at h ⊢
    exact hc _ _ h
  | _ :: _, [], h => by
    unfold nb_lsw at h ⊢
    exact hc _ _ h
  | k :: ks, t :: ts, h => by
    unfold nb_lsw at h ⊢
    split at h
    · rename_i h1
      simp only [if_pos h1]
      exact hc _ _ h
    · rename_i h1
      simp only [if_neg h1]
      exact nb_lsw_cont hc ks ts h
theorem nb_ite_cont {c : Prop} {_ : Decidable c} {a b : nb_A} {a' b' : Nat → nb_A} {r : List nb_V × nb_M} (ha : a = some r → ∃ n, a' n = some r) (hb : b = some r → ∃ n, b' n = some r) (h : (if c then a else b) = some r) : ∃ n, (if c then a' n else b' n) = some r := by
  split at h
  · rename_i h1
    simp only [if_pos h1]
    exact ha h
  · rename_i h1
    simp only [if_neg h1]
    exact hb h
set_option maxHeartbeats 4000000 in
theorem nb_ter_cont {G : nb_G} {m ret : Nat} {i : Instr} {ts : List Nat} {c : Nat} {L st : List nb_V} {M : nb_M} {r : List nb_V × nb_M} (h : nb_ter G (nb_R G) m ret i ts c L st M = some r) : ∃ n, nb_ter G (nb_run G n) m ret i ts c L st M = some r := by
  unfold nb_ter at h
  split at h
  all_goals first
    | exact nb_R_iff.mp h
    | exact nb_ite_cont (a' := fun n => nb_run G n _ _ _ _ _) (b' := fun n => nb_run G n _ _ _ _ _) nb_R_iff.mp nb_R_iff.mp h
    | exact nb_swt_cont (F := fun n t => nb_run G n _ t _ _ _) (fun t r h => nb_R_iff.mp h) _ _ h
    | exact nb_lsw_cont (F := fun n t => nb_run G n _ t _ _ _) (fun t r h => nb_R_iff.mp h) _ _ h
    | exact nb_inv_cont h
    | exact ⟨0, h⟩
    | cases h
theorem nb_blk_cont {G : nb_G} {m k : Nat} {L st : List nb_V} {M : nb_M} {r : List nb_V × nb_M} (h : nb_blk G (nb_R G) m k L st M = some r) : ∃ n, nb_blk G (nb_run G n) m k L st M = some r := by
  unfold nb_blk at h ⊢
  cases hX : G.2.2.2.2.1 m with
  | none => simp [hX] at h
  | some X =>
    cases hB : G.2.2.2.1 m k with
    | none => simp [hX, hB] at h
    | some B =>
      simp only [hX, hB] at h ⊢
      rcases nb_str_fac G X.1 B.2.1 true L st M with h' | ⟨c2, L2, st2, M2, h'⟩
      · rw [h'] at h
        cases h
      · rw [h'] at h
        unfold nb_fin at h
        split at h
        · rename_i hc
          obtain ⟨n, hn⟩ := nb_ter_cont h
          refine ⟨n, ?_⟩
          rw [h']
          unfold nb_fin
          rw [if_pos hc]
          exact hn
        · cases h
theorem nb_R_eq (G : nb_G) (m k : Nat) (L st : List nb_V) (M : nb_M) : nb_R G m k L st M = nb_blk G (nb_R G) m k L st M := by
  apply Option.ext
  intro r
  constructor
  · intro h
    obtain ⟨n, hn⟩ := nb_R_iff.mp h
    cases n with
    | zero => cases hn
    | succ n => exact nb_blk_mono (nb_run_R G n) _ _ _ _ _ _ hn
  · intro h
    obtain ⟨n, hn⟩ := nb_blk_cont h
    exact nb_R_iff.mpr ⟨n + 1, hn⟩
