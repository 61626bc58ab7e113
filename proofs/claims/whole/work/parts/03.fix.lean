/-! THE FUEL-FREE MEANING: nb_R, and its one equation nb_R_eq -/
abbrev nb_C : Type := Nat → Nat → List nb_V → List nb_V → nb_M → nb_A
def nb_le (f g : nb_C) : Prop := ∀ m k L st M r, f m k L st M = some r → g m k L st M = some r
theorem nb_led_mono {f g : Nat → List nb_V → nb_M → nb_A} (le : ∀ c vs M r, f c vs M = some r → g c vs M = some r) {x i o : Int} {M : nb_M} {r : List nb_V × nb_M} (h : nb_led f x i o M = some r) : nb_led g x i o M = some r := by
  unfold nb_led at h ⊢
  split at h
  · cases h
  · rename_i h1
    rw [if_neg h1]
    split at h
    · rename_i h2
      rw [if_pos h2]
      exact h
    · rename_i h2
      rw [if_neg h2]
      obtain ⟨a, ha, hb⟩ := Option.bind_eq_some_iff.mp h
      rw [le _ _ _ _ ha, Option.bind_some]
      exact hb
theorem nb_prim_mono {G : nb_G} {f g : Nat → List nb_V → nb_M → nb_A} (le : ∀ c vs M r, f c vs M = some r → g c vs M = some r) {c : Nat} {vs : List nb_V} {M : nb_M} {r : List nb_V × nb_M} (h : nb_prim G f c vs M = some r) : nb_prim G g c vs M = some r := by
  unfold nb_prim at h
  split at h
  · exact h
  · exact h
  · exact h
  · exact h
  · exact nb_led_mono le h
  · cases h
theorem nb_cal_mono {G : nb_G} {f g : nb_C} (le : nb_le f g) {c : Nat} {vs : List nb_V} {M : nb_M} {r : List nb_V × nb_M} (h : nb_cal G f c vs M = some r) : nb_cal G g c vs M = some r := by
  unfold nb_cal at h ⊢
  split at h
  · exact le _ _ _ _ _ _ h
  · refine nb_prim_mono ?_ h
    intro c' vs' M' r' h'
    split at h'
    · exact le _ _ _ _ _ _ h'
    · cases h'
theorem nb_inv_mono {G : nb_G} {f g : nb_C} (le : nb_le f g) {m t c : Nat} {virt : Bool} {L st : List nb_V} {M : nb_M} {r : List nb_V × nb_M} (h : nb_inv G f m t c virt L st M = some r) : nb_inv G g m t c virt L st M = some r := by
  unfold nb_inv at h ⊢
  split at h
  · rename_i h1
    rw [if_pos h1]
    split at h
    · split at h
      · cases h
      · rename_i h2
        rw [if_neg h2]
        obtain ⟨a, ha, hb⟩ := Option.bind_eq_some_iff.mp h
        rw [nb_cal_mono le ha, Option.bind_some]
        exact le _ _ _ _ _ _ hb
    · obtain ⟨a, ha, hb⟩ := Option.bind_eq_some_iff.mp h
      rw [nb_cal_mono le ha, Option.bind_some]
      exact le _ _ _ _ _ _ hb
  · cases h
theorem nb_swt_mono {f g : Nat → nb_A} (le : ∀ t r, f t = some r → g t = some r) {x : Int} {d : Nat} {r : List nb_V × nb_M} : ∀ (ts : List Nat) (lo : Int), nb_swt f x d lo ts = some r → nb_swt g x d lo ts = some r
  | [], _, h => le _ _ h
  | t :: ts, lo, h => by
    unfold nb_swt at h ⊢
    split at h
    · rename_i h1
      rw [if_pos h1]
      exact le _ _ h
    · rename_i h1
      rw [if_neg h1]
      exact nb_swt_mono le ts _ h
theorem nb_lsw_mono {f g : Nat → nb_A} (le : ∀ t r, f t = some r → g t = some r) {x : Int} {d : Nat} {r : List nb_V × nb_M} : ∀ (ks : List (Int × Int)) (ts : List Nat), nb_lsw f x d ks ts = some r → nb_lsw g x d ks ts = some r
  | [], _, h => by
    unfold nb_lsw at h ⊢
    exact le _ _ h
  | _ :: _, [], h => by
    unfold nb_lsw at h ⊢
    exact le _ _ h
  | k :: ks, t :: ts, h => by
    unfold nb_lsw at h ⊢
    split at h
    · rename_i h1
      rw [if_pos h1]
      exact le _ _ h
    · rename_i h1
      rw [if_neg h1]
      exact nb_lsw_mono le ks ts h
theorem nb_ite_mono {c : Prop} {_ : Decidable c} {a b a' b' : nb_A} {r : List nb_V × nb_M} (ha : a = some r → a' = some r) (hb : b = some r → b' = some r) (h : (if c then a else b) = some r) : (if c then a' else b') = some r := by
  split at h
  · rename_i h1
    rw [if_pos h1]
    exact ha h
  · rename_i h1
    rw [if_neg h1]
    exact hb h
set_option maxHeartbeats 4000000 in
theorem nb_ter_mono {G : nb_G} {f g : nb_C} (le : nb_le f g) {m ret : Nat} {i : Instr} {ts : List Nat} {c : Nat} {L st : List nb_V} {M : nb_M} {r : List nb_V × nb_M} (h : nb_ter G f m ret i ts c L st M = some r) : nb_ter G g m ret i ts c L st M = some r := by
  unfold nb_ter at h
  split at h
  all_goals first
    | exact le _ _ _ _ _ _ h
    | exact nb_ite_mono (le _ _ _ _ _ _) (le _ _ _ _ _ _) h
    | exact nb_swt_mono (fun t r h => le _ _ _ _ _ _ h) _ _ h
    | exact nb_lsw_mono (fun t r h => le _ _ _ _ _ _ h) _ _ h
    | exact nb_inv_mono le h
    | exact h
    | cases h
theorem nb_blk_mono {G : nb_G} {f g : nb_C} (le : nb_le f g) : nb_le (nb_blk G f) (nb_blk G g) := by
  intro m k L st M r h
  unfold nb_blk at h ⊢
  split at h
  · split at h
    · rename_i h1
      rw [if_pos h1]
      exact nb_ter_mono le h
    · cases h
  · cases h
theorem nb_run_succ (G : nb_G) : ∀ n, nb_le (nb_run G n) (nb_run G (n + 1))
  | 0 => fun _ _ _ _ _ _ h => by cases h
  | n + 1 => nb_blk_mono (nb_run_succ G n)
theorem nb_run_le (G : nb_G) {a b : Nat} (h : a ≤ b) : nb_le (nb_run G a) (nb_run G b) := by
  induction h with
  | refl => exact fun _ _ _ _ _ _ h => h
  | step _ ih => exact fun _ _ _ _ _ _ h => nb_run_succ G _ _ _ _ _ _ _ (ih _ _ _ _ _ _ h)
theorem nb_ex (G : nb_G) (m k : Nat) (L st : List nb_V) (M : nb_M) : ∃ v : nb_A, ∀ r, v = some r ↔ ∃ n, nb_run G n m k L st M = some r := by
  by_cases h : ∃ r n, nb_run G n m k L st M = some r
  · obtain ⟨r, n, hr⟩ := h
    refine ⟨some r, fun r' => ⟨fun e => ⟨n, by cases e; exact hr⟩, fun ⟨n', h'⟩ => ?_⟩⟩
    have h1 := nb_run_le G (Nat.le_max_left n n') _ _ _ _ _ _ hr
    have h2 := nb_run_le G (Nat.le_max_right n n') _ _ _ _ _ _ h'
    exact h1.symm.trans h2
  · exact ⟨none, fun r => ⟨fun e => by (cases e), fun ⟨n, h'⟩ => absurd ⟨r, n, h'⟩ h⟩⟩
noncomputable def nb_R (G : nb_G) : nb_C := fun m k L st M => Classical.choose (nb_ex G m k L st M)
theorem nb_R_iff {G : nb_G} {m k : Nat} {L st : List nb_V} {M : nb_M} {r : List nb_V × nb_M} : nb_R G m k L st M = some r ↔ ∃ n, nb_run G n m k L st M = some r := Classical.choose_spec (nb_ex G m k L st M) r
theorem nb_run_R (G : nb_G) (n : Nat) : nb_le (nb_run G n) (nb_R G) := fun _ _ _ _ _ _ h => nb_R_iff.mpr ⟨n, h⟩
/-! what is said of the meaning is said of a run -/
theorem nb_led_cont {x i o : Int} {M : nb_M} {r : List nb_V × nb_M} {F : Nat → Nat → List nb_V → nb_M → nb_A} {f : Nat → List nb_V → nb_M → nb_A} (hc : ∀ c vs M r, f c vs M = some r → ∃ n, F n c vs M = some r) (h : nb_led f x i o M = some r) : ∃ n, nb_led (F n) x i o M = some r := by
  unfold nb_led at h ⊢
  split at h
  · cases h
  · rename_i h1
    split at h
    · rename_i h2
      exact ⟨0, by rw [if_neg h1, if_pos h2]; exact h⟩
    · rename_i h2
      obtain ⟨a, ha, hb⟩ := Option.bind_eq_some_iff.mp h
      obtain ⟨n, hn⟩ := hc _ _ _ _ ha
      exact ⟨n, by rw [if_neg h1, if_neg h2, hn, Option.bind_some]; exact hb⟩
theorem nb_prim_cont {G : nb_G} {c : Nat} {vs : List nb_V} {M : nb_M} {r : List nb_V × nb_M} {F : Nat → Nat → List nb_V → nb_M → nb_A} {f : Nat → List nb_V → nb_M → nb_A} (hc : ∀ c vs M r, f c vs M = some r → ∃ n, F n c vs M = some r) (h : nb_prim G f c vs M = some r) : ∃ n, nb_prim G (F n) c vs M = some r := by
  unfold nb_prim at h
  split at h
  · exact ⟨0, h⟩
  · exact ⟨0, h⟩
  · exact ⟨0, h⟩
  · exact ⟨0, h⟩
  · exact nb_led_cont hc h
  · cases h
theorem nb_cal_cont {G : nb_G} {c : Nat} {vs : List nb_V} {M : nb_M} {r : List nb_V × nb_M} (h : nb_cal G (nb_R G) c vs M = some r) : ∃ n, nb_cal G (nb_run G n) c vs M = some r := by
  unfold nb_cal at h ⊢
  split at h
  · exact nb_R_iff.mp h
  · refine nb_prim_cont (F := fun n c' vs' M' => match G.2.2.2.2.1 c' with
      | some X => nb_run G n c' 0 (nb_ent vs' X.2.1) [] M'
      | none => none) ?_ h
    intro c' vs' M' r' h'
    split at h'
    · rename_i hX
      simp only [hX]
      exact nb_R_iff.mp h'
    · cases h'
theorem nb_bind_cont {G : nb_G} {m t c : Nat} {vs L st : List nb_V} {M : nb_M} {r : List nb_V × nb_M} (h : ((nb_cal G (nb_R G) c vs M).bind fun r => nb_R G m t L (r.1 ++ st) r.2) = some r) : ∃ n, ((nb_cal G (nb_run G n) c vs M).bind fun r => nb_run G n m t L (r.1 ++ st) r.2) = some r := by
  obtain ⟨a, ha, hb⟩ := Option.bind_eq_some_iff.mp h
  obtain ⟨n1, h1⟩ := nb_cal_cont ha
  obtain ⟨n2, h2⟩ := nb_R_iff.mp hb
  refine ⟨max n1 n2, ?_⟩
  rw [nb_cal_mono (nb_run_le G (Nat.le_max_left n1 n2)) h1, Option.bind_some]
  exact nb_run_le G (Nat.le_max_right n1 n2) _ _ _ _ _ _ h2
theorem nb_inv_cont {G : nb_G} {m t c : Nat} {virt : Bool} {L st : List nb_V} {M : nb_M} {r : List nb_V × nb_M} (h : nb_inv G (nb_R G) m t c virt L st M = some r) : ∃ n, nb_inv G (nb_run G n) m t c virt L st M = some r := by
  unfold nb_inv at h ⊢
  split at h
  · rename_i h1
    simp only [if_pos h1]
    split at h
    · split at h
      · cases h
      · rename_i h2
        simp only [if_neg h2]
        exact nb_bind_cont h
    · exact nb_bind_cont h
  · cases h
theorem nb_swt_cont {F : Nat → Nat → nb_A} {f : Nat → nb_A} (hc : ∀ t r, f t = some r → ∃ n, F n t = some r) {x : Int} {d : Nat} {r : List nb_V × nb_M} : ∀ (ts : List Nat) (lo : Int), nb_swt f x d lo ts = some r → ∃ n, nb_swt (F n) x d lo ts = some r
  | [], _, h => hc _ _ h
  | t :: ts, lo, h => by
    unfold nb_swt at h ⊢
    split at h
    · rename_i h1
      simp only [if_pos h1]
      exact hc _ _ h
    · rename_i h1
      simp only [if_neg h1]
      exact nb_swt_cont hc ts _ h
theorem nb_lsw_cont {F : Nat → Nat → nb_A} {f : Nat → nb_A} (hc : ∀ t r, f t = some r → ∃ n, F n t = some r) {x : Int} {d : Nat} {r : List nb_V × nb_M} : ∀ (ks : List (Int × Int)) (ts : List Nat), nb_lsw f x d ks ts = some r → ∃ n, nb_lsw (F n) x d ks ts = some r
  | [], _, h => by
    unfold nb_lsw at h ⊢
    exact hc _ _ h
  | _ :: _, [], h => by
    unfold nb_lsw at h ⊢
    exact hc _ _ h
  | k :: ks, t :: ts, h => by
    unfold nb_lsw at h ⊢
    split at h
    · rename_i h1
      simp only [if_pos h1]
      exact hc _ _ h
    · rename_i h1
      simp only [if_neg h1]
      exact nb_lsw_cont hc ks ts h
theorem nb_ite_cont {c : Prop} {_ : Decidable c} {a b : nb_A} {a' b' : Nat → nb_A} {r : List nb_V × nb_M} (ha : a = some r → ∃ n, a' n = some r) (hb : b = some r → ∃ n, b' n = some r) (h : (if c then a else b) = some r) : ∃ n, (if c then a' n else b' n) = some r := by
  split at h
  · rename_i h1
    simp only [if_pos h1]
    exact ha h
  · rename_i h1
    simp only [if_neg h1]
    exact hb h
set_option maxHeartbeats 4000000 in
theorem nb_ter_cont {G : nb_G} {m ret : Nat} {i : Instr} {ts : List Nat} {c : Nat} {L st : List nb_V} {M : nb_M} {r : List nb_V × nb_M} (h : nb_ter G (nb_R G) m ret i ts c L st M = some r) : ∃ n, nb_ter G (nb_run G n) m ret i ts c L st M = some r := by
  unfold nb_ter at h
  split at h
  all_goals first
    | exact nb_R_iff.mp h
    | exact nb_ite_cont (a' := fun n => nb_run G n _ _ _ _ _) (b' := fun n => nb_run G n _ _ _ _ _) nb_R_iff.mp nb_R_iff.mp h
    | exact nb_swt_cont (F := fun n t => nb_run G n _ t _ _ _) (fun t r h => nb_R_iff.mp h) _ _ h
    | exact nb_lsw_cont (F := fun n t => nb_run G n _ t _ _ _) (fun t r h => nb_R_iff.mp h) _ _ h
    | exact nb_inv_cont h
    | exact ⟨0, h⟩
    | cases h
theorem nb_blk_cont {G : nb_G} {m k : Nat} {L st : List nb_V} {M : nb_M} {r : List nb_V × nb_M} (h : nb_blk G (nb_R G) m k L st M = some r) : ∃ n, nb_blk G (nb_run G n) m k L st M = some r := by
  unfold nb_blk at h ⊢
  split at h
  · split at h
    · rename_i h1
      simp only [if_pos h1]
      exact nb_ter_cont h
    · cases h
  · cases h
theorem nb_R_eq (G : nb_G) (m k : Nat) (L st : List nb_V) (M : nb_M) : nb_R G m k L st M = nb_blk G (nb_R G) m k L st M := by
  apply Option.ext
  intro r
  constructor
  · intro h
    obtain ⟨n, hn⟩ := nb_R_iff.mp h
    cases n with
    | zero => cases hn
    | succ n => exact nb_blk_mono (nb_run_R G n) _ _ _ _ _ _ hn
  · intro h
    obtain ⟨n, hn⟩ := nb_blk_cont h
    exact nb_R_iff.mpr ⟨n + 1, hn⟩
