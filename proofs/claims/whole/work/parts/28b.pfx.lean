/-! what was made stays made -/
def nb_fcP (M : nb_M) (F : nb_K → nb_A) : Prop := (∀ k, F k = none) ∨ ∃ b' L' st' M' w, (∀ k, F k = k b' L' st' M') ∧ M'.2.1 = M.2.1 ++ w
theorem nb_fcP_none {M : nb_M} : nb_fcP M (fun _ => none) := Or.inl fun _ => rfl
theorem nb_fcP_go {b' : Bool} {L' st' : List nb_V} {M M' : nb_M} {w : List (Nat × Nat)} (h : M'.2.1 = M.2.1 ++ w) : nb_fcP M (fun k => k b' L' st' M') := Or.inr ⟨b', L', st', M', w, fun _ => rfl, h⟩
theorem nb_fcP_ite {M : nb_M} {p : Prop} {_ : Decidable p} {F F' : nb_K → nb_A} (h : nb_fcP M F) (h' : nb_fcP M F') : nb_fcP M (fun k => if p then F k else F' k) := by
  by_cases hp : p
  · simpa only [if_pos hp] using h
  · simpa only [if_neg hp] using h'
theorem nb_ald_fcP (kd r : Nat) (b : Bool) (L st : List nb_V) (M : nb_M) : nb_fcP M (nb_ald kd r b L st M) := by
  unfold nb_ald
  match st with
  | [] => exact nb_fcP_none
  | [_] => exact nb_fcP_none
  | i :: a :: st => exact nb_fcP_ite (nb_fcP_go (w := []) (List.append_nil _).symm) nb_fcP_none
theorem nb_ast_fcP (kd t : Nat) (f : Int → Int) (b : Bool) (L st : List nb_V) (M : nb_M) : nb_fcP M (nb_ast kd t f b L st M) := by
  unfold nb_ast
  match st with
  | [] => exact nb_fcP_none
  | [_] => exact nb_fcP_none
  | [_, _] => exact nb_fcP_none
  | v :: i :: a :: st => exact nb_fcP_ite (nb_fcP_go (w := []) (List.append_nil _).symm) nb_fcP_none
theorem nb_load_fcP (lo hi n : Nat) (b : Bool) (L st : List nb_V) (M : nb_M) : nb_fcP M (nb_load lo hi n b L st M) := by
  unfold nb_load
  cases L[n]? with
  | none => exact nb_fcP_none
  | some v => exact nb_fcP_ite (nb_fcP_go (w := []) (List.append_nil _).symm) nb_fcP_none
theorem nb_store_fcP (lo hi n : Nat) (b : Bool) (L st : List nb_V) (M : nb_M) : nb_fcP M (nb_store lo hi n b L st M) := by
  unfold nb_store
  match st with
  | [] => exact nb_fcP_none
  | v :: st => exact nb_fcP_ite (nb_fcP_go (w := []) (List.append_nil _).symm) nb_fcP_none
theorem nb_lstore_fcP (n : Nat) (b : Bool) (L st : List nb_V) (M : nb_M) : nb_fcP M (nb_lstore n b L st M) := by
  unfold nb_lstore
  match st with
  | [] => exact nb_fcP_none
  | v :: st => exact nb_fcP_ite (nb_fcP_go (w := []) (List.append_nil _).symm) nb_fcP_none
theorem nb_iinc_fcP (n : Nat) (d : Int) (b : Bool) (L st : List nb_V) (M : nb_M) : nb_fcP M (nb_iinc n d b L st M) := by
  unfold nb_iinc
  cases L[n]? with
  | none => exact nb_fcP_none
  | some v => exact nb_fcP_ite (nb_fcP_go (w := []) (List.append_nil _).symm) nb_fcP_none
theorem nb_un_fcP (t r : Nat) (f : Int → Int) (b : Bool) (L st : List nb_V) (M : nb_M) : nb_fcP M (nb_un t r f b L st M) := by
  unfold nb_un
  match st with
  | [] => exact nb_fcP_none
  | v :: st => exact nb_fcP_ite (nb_fcP_go (w := []) (List.append_nil _).symm) nb_fcP_none
theorem nb_bin_fcP (tx ty r : Nat) (f : Int → Int → Int) (b : Bool) (L st : List nb_V) (M : nb_M) : nb_fcP M (nb_bin tx ty r f b L st M) := by
  unfold nb_bin
  match st with
  | [] => exact nb_fcP_none
  | [_] => exact nb_fcP_none
  | v :: w :: st => exact nb_fcP_ite (nb_fcP_go (w := []) (List.append_nil _).symm) nb_fcP_none
theorem nb_binz_fcP (f : Int → Int → Int) (b : Bool) (L st : List nb_V) (M : nb_M) : nb_fcP M (nb_binz f b L st M) := by
  unfold nb_binz
  match st with
  | [] => exact nb_fcP_none
  | [_] => exact nb_fcP_none
  | v :: w :: st => exact nb_fcP_ite (nb_fcP_go (w := []) (List.append_nil _).symm) nb_fcP_none
theorem nb_newa_fcP (kd : Nat) (b : Bool) (L st : List nb_V) (M : nb_M) : nb_fcP M (nb_newa kd b L st M) := by
  unfold nb_newa
  match st with
  | [] => exact nb_fcP_none
  | v :: st => exact nb_fcP_ite (nb_fcP_go (M := M) rfl) nb_fcP_none
set_option maxHeartbeats 4000000 in
theorem nb_sx_fcP (G : nb_G) (own : Nat) (i : Instr) (b : Bool) (L st : List nb_V) (M : nb_M) : nb_fcP M (nb_sx G own i b L st M) := by
  unfold nb_sx
  split
  all_goals first
    | exact nb_load_fcP ..
    | exact nb_store_fcP ..
    | exact nb_bin_fcP ..
    | exact nb_un_fcP ..
    | exact nb_lstore_fcP ..
    | exact nb_iinc_fcP ..
    | exact nb_binz_fcP ..
    | exact nb_ald_fcP ..
    | exact nb_ast_fcP ..
    | exact nb_newa_fcP ..
    | exact nb_fcP_go (w := []) (List.append_nil _).symm
    | exact nb_fcP_none
    | skip
  all_goals first
    | (unfold nb_ldc; split <;> first | exact nb_fcP_ite (nb_fcP_go (w := []) (List.append_nil _).symm) nb_fcP_none | exact nb_fcP_none)
    | (unfold nb_cst; split <;> first | exact nb_fcP_ite (nb_fcP_go (w := []) (List.append_nil _).symm) nb_fcP_none | exact nb_fcP_none)
    | (unfold nb_dup; split <;> first | exact nb_fcP_ite (nb_fcP_go (w := []) (List.append_nil _).symm) nb_fcP_none | exact nb_fcP_none)
    | (unfold nb_dup2; split <;> first | exact nb_fcP_ite (nb_fcP_go (w := []) (List.append_nil _).symm) nb_fcP_none | exact nb_fcP_none)
    | (unfold nb_pop; split <;> first | exact nb_fcP_ite (nb_fcP_go (w := []) (List.append_nil _).symm) nb_fcP_none | exact nb_fcP_none)
    | (unfold nb_alen; split <;> first | exact nb_fcP_ite (nb_fcP_go (w := []) (List.append_nil _).symm) nb_fcP_none | exact nb_fcP_none)
    | (unfold nb_newm; split <;> first | exact nb_fcP_ite (nb_fcP_go (M := M) rfl) nb_fcP_none | exact nb_fcP_none)
    | (unfold nb_getf; split <;> first | exact nb_fcP_none | (split <;> first | exact nb_fcP_ite (nb_fcP_go (w := []) (List.append_nil _).symm) nb_fcP_none | exact nb_fcP_none))
    | (unfold nb_putf; split <;> first | exact nb_fcP_none | (split <;> first | exact nb_fcP_ite (nb_fcP_go (w := []) (List.append_nil _).symm) nb_fcP_none | exact nb_fcP_none))
    | (unfold nb_newc; split <;> first | exact nb_fcP_ite (nb_fcP_go (M := M) rfl) nb_fcP_none | exact nb_fcP_none)
    | (unfold nb_newr; split <;> first | exact nb_fcP_ite (nb_newa_fcP ..) nb_fcP_none | exact nb_fcP_none)
    | (unfold nb_bald; split <;> first | exact nb_fcP_ite (nb_ald_fcP ..) (nb_ald_fcP ..) | exact nb_fcP_none)
    | (unfold nb_bast; split <;> first | exact nb_fcP_ite (nb_ast_fcP ..) (nb_ast_fcP ..) | exact nb_fcP_none)
    | (unfold nb_aald; split <;> first | exact nb_fcP_ite (nb_ald_fcP ..) nb_fcP_none | exact nb_fcP_none)
    | (unfold nb_aast; split <;> first | exact nb_fcP_ite (nb_ast_fcP ..) nb_fcP_none | exact nb_fcP_none)
theorem nb_str_fcP (G : nb_G) (own : Nat) : ∀ (is : List (Instr × Nat)) (b : Bool) (L st : List nb_V) (M : nb_M), nb_fcP M (nb_str G own is b L st M)
  | [], b, L, st, M => nb_fcP_go (w := []) (List.append_nil _).symm
  | i :: is, b, L, st, M => by
    rcases nb_sx_fcP G own i.1 b L st M with h | ⟨b', L', st', M', w, h, h2⟩
    · exact Or.inl fun k => h _
    · rcases nb_str_fcP G own is b' L' st' M' with h' | ⟨b2, L2, st2, M2, w2, h', g2⟩
      · exact Or.inl fun k => (h _).trans (h' k)
      · exact Or.inr ⟨b2, L2, st2, M2, w ++ w2, fun k => (h _).trans (h' k), by rw [g2, h2, List.append_assoc]⟩
def nb_px (M : nb_M) (r : List nb_V × nb_M) : Prop := ∃ w, r.2.2.1 = M.2.1 ++ w
def nb_pxC (f : nb_C) : Prop := ∀ m k L st M r, f m k L st M = some r → nb_px M r
theorem nb_px_rf (M : nb_M) (v : List nb_V) : nb_px M (v, M) := ⟨[], (List.append_nil _).symm⟩
theorem nb_px_tr {M : nb_M} {r r' : List nb_V × nb_M} (h : nb_px M r) (h' : nb_px r.2 r') : nb_px M r' := by
  obtain ⟨w, h⟩ := h
  obtain ⟨w', h'⟩ := h'
  exact ⟨w ++ w', by rw [h', h, List.append_assoc]⟩
theorem nb_jk_px (M : nb_M) (v : List nb_V) : nb_px M (v, nb_jk M) := ⟨[], (List.append_nil _).symm⟩
theorem nb_px_get {M : nb_M} {r : List nb_V × nb_M} (h : nb_px M r) : ∀ (j : Nat) (q : Nat × Nat), M.2.1[j]? = some q → r.2.2.1[j]? = some q := by
  obtain ⟨w, h⟩ := h
  intro j q hq
  rw [h, List.getElem?_append_left (List.getElem?_eq_some_iff.mp hq).1]
  exact hq
theorem nb_led_px {f : Nat → List nb_V → nb_M → nb_A} (hf : ∀ c vs M r, f c vs M = some r → nb_px M r) {x i o : Int} {M : nb_M} {r : List nb_V × nb_M} (h : nb_led f x i o M = some r) : nb_px M r := by
  unfold nb_led at h
  split at h
  · cases h
  · split at h
    · cases h
      exact nb_jk_px M _
    · obtain ⟨a, ha, hb⟩ := Option.bind_eq_some_iff.mp h
      have h1 := hf _ _ _ _ ha
      split at hb
      · split at hb
        · cases hb
        · split at hb
          · cases hb
            exact nb_px_tr h1 (nb_jk_px a.2 _)
          · cases hb
            exact h1
      · cases hb
theorem nb_prim_px {G : nb_G} {f : Nat → List nb_V → nb_M → nb_A} (hf : ∀ c vs M r, f c vs M = some r → nb_px M r) {c : Nat} {vs : List nb_V} {M : nb_M} {r : List nb_V × nb_M} (h : nb_prim G f c vs M = some r) : nb_px M r := by
  unfold nb_prim at h
  split at h
  · cases h
    exact nb_px_rf M _
  · split at h
    · cases h
      exact nb_px_rf M _
    · cases h
  · split at h
    · cases h
      exact nb_px_rf M _
    · cases h
  · split at h
    · cases h
      exact ⟨[], (List.append_nil _).symm⟩
    · cases h
  · exact nb_led_px hf h
  · cases h
    exact nb_px_rf M _
  · cases h
    exact nb_px_rf M _
  · cases h
    exact nb_px_rf M _
  · cases h
theorem nb_entr_px {G : nb_G} {f : nb_C} (hf : nb_pxC f) {c : Nat} {X : nb_X} {vs : List nb_V} {M : nb_M} {r : List nb_V × nb_M} (h : nb_entr G f c X vs M = some r) : nb_px M r := by
  unfold nb_entr at h
  split at h
  · exact hf _ _ _ _ _ _ h
  · cases h
theorem nb_cal_px {G : nb_G} {f : nb_C} (hf : nb_pxC f) {c : Nat} {vs : List nb_V} {M : nb_M} {r : List nb_V × nb_M} (h : nb_cal G f c vs M = some r) : nb_px M r := by
  unfold nb_cal at h
  split at h
  · exact nb_entr_px hf h
  · refine nb_prim_px (fun c' vs' M' r' h' => ?_) h
    split at h'
    · exact nb_entr_px hf h'
    · cases h'
theorem nb_inv_px {G : nb_G} {f : nb_C} (hf : nb_pxC f) {m t c : Nat} {virt : Bool} {L st : List nb_V} {M : nb_M} {r : List nb_V × nb_M} (h : nb_inv G f m t c virt L st M = some r) : nb_px M r := by
  unfold nb_inv at h
  split at h
  · split at h
    · split at h
      · cases h
      · split at h
        · cases h
        · obtain ⟨a, ha, hb⟩ := Option.bind_eq_some_iff.mp h
          exact nb_px_tr (nb_cal_px hf ha) (hf _ _ _ _ _ _ hb)
    · obtain ⟨a, ha, hb⟩ := Option.bind_eq_some_iff.mp h
      exact nb_px_tr (nb_cal_px hf ha) (hf _ _ _ _ _ _ hb)
  · cases h
theorem nb_swt_px {M : nb_M} {f : Nat → nb_A} (hf : ∀ t r, f t = some r → nb_px M r) {x : Int} {d : Nat} {r : List nb_V × nb_M} : ∀ (ts : List Nat) (lo : Int), nb_swt f x d lo ts = some r → nb_px M r
  | [], _, h => hf _ _ h
  | t :: ts, lo, h => by
    unfold nb_swt at h
    split at h
    · exact hf _ _ h
    · exact nb_swt_px hf ts _ h
theorem nb_lsw_px {M : nb_M} {f : Nat → nb_A} (hf : ∀ t r, f t = some r → nb_px M r) {x : Int} {d : Nat} {r : List nb_V × nb_M} : ∀ (ks : List (Int × Int)) (ts : List Nat), nb_lsw f x d ks ts = some r → nb_px M r
  | [], _, h => by
    unfold nb_lsw at h
    exact hf _ _ h
  | _ :: _, [], h => by
    unfold nb_lsw at h
    exact hf _ _ h
  | k :: ks, t :: ts, h => by
    unfold nb_lsw at h
    split at h
    · exact hf _ _ h
    · exact nb_lsw_px hf ks ts h
theorem nb_ite_px {M : nb_M} {c : Prop} {_ : Decidable c} {a b : nb_A} {r : List nb_V × nb_M} (ha : a = some r → nb_px M r) (hb : b = some r → nb_px M r) (h : (if c then a else b) = some r) : nb_px M r := by
  split at h
  · exact ha h
  · exact hb h
theorem nb_some_px {M : nb_M} {v : List nb_V} {r : List nb_V × nb_M} (h : some (v, M) = some r) : nb_px M r := by
  cases h
  exact nb_px_rf M _
theorem nb_none_px {M : nb_M} {r : List nb_V × nb_M} (h : (none : nb_A) = some r) : nb_px M r := by cases h
set_option maxHeartbeats 4000000 in
theorem nb_ter_px {G : nb_G} {f : nb_C} (hf : nb_pxC f) {m ret : Nat} {i : Instr} {ts : List Nat} {c : Nat} {L st : List nb_V} {M : nb_M} {r : List nb_V × nb_M} (h : nb_ter G f m ret i ts c L st M = some r) : nb_px M r := by
  unfold nb_ter at h
  split at h
  all_goals first
    | exact hf _ _ _ _ _ _ h
    | exact nb_ite_px (hf _ _ _ _ _ _) (hf _ _ _ _ _ _) h
    | exact nb_swt_px (fun t r h => hf _ _ _ _ _ _ h) _ _ h
    | exact nb_lsw_px (fun t r h => hf _ _ _ _ _ _ h) _ _ h
    | exact nb_inv_px hf h
    | exact nb_ite_px nb_some_px nb_none_px h
    | exact nb_ite_px nb_some_px (nb_ite_px nb_some_px nb_none_px) h
    | cases h
theorem nb_blk_px {G : nb_G} {f : nb_C} (hf : nb_pxC f) : nb_pxC (nb_blk G f) := by
  intro m k L st M r h
  unfold nb_blk at h
  cases hX : G.2.2.2.2.1 m with
  | none => simp [hX] at h
  | some X =>
    cases hB : G.2.2.2.1 m k with
    | none => simp [hX, hB] at h
    | some B =>
      simp only [hX, hB] at h
      rcases nb_str_fcP G X.1 B.2.1 true L st M with h' | ⟨b2, L2, st2, M2, w, h', g2⟩
      · rw [h'] at h
        cases h
      · rw [h'] at h
        unfold nb_fin at h
        split at h
        · obtain ⟨w2, g3⟩ := nb_ter_px hf h
          exact ⟨w ++ w2, by rw [g3, g2, List.append_assoc]⟩
        · cases h
theorem nb_run_px (G : nb_G) : ∀ n, nb_pxC (nb_run G n)
  | 0 => fun _ _ _ _ _ _ h => by cases h
  | n + 1 => nb_blk_px (nb_run_px G n)
