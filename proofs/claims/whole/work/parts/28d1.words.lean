/-! THE TABLES ARE RIGHT: checks, printed by wip/gen/mkchk.py -/
def nb_all2 {α β : Type} (f : α → β → Bool) : List α → List β → Bool
  | [], [] => true
  | a :: as, b :: bs => f a b && nb_all2 f as bs
  | _, _ => false
theorem nb_all2_mem {α β : Type} {f : α → β → Bool} : ∀ {l : List α} {k : List β}, nb_all2 f l k = true → ∀ a ∈ l, ∃ b, f a b = true
  | [], _, _, a, ha => by cases ha
  | _ :: _, [], h, _, _ => by cases h
  | a :: as, b :: bs, h, x, hx => by
    simp only [nb_all2, Bool.and_eq_true] at h
    rcases List.mem_cons.mp hx with rfl | hx
    · exact ⟨b, h.1⟩
    · exact nb_all2_mem h.2 x hx
theorem nb_all2_get {α β : Type} {f : α → β → Bool} : ∀ {l : List α} {k : List β}, nb_all2 f l k = true → ∀ (j : Nat) (a : α), l[j]? = some a → ∃ b, k[j]? = some b ∧ f a b = true
  | [], _, _, j, a, ha => by simp at ha
  | _ :: _, [], h, _, _, _ => by cases h
  | a :: as, b :: bs, h, j, x, hx => by
    simp only [nb_all2, Bool.and_eq_true] at h
    cases j with
    | zero =>
      simp at hx
      subst hx
      exact ⟨b, rfl, h.1⟩
    | succ j => exact nb_all2_get h.2 j x (by simpa using hx)
def nb_wdl (k : Nat) : List Cond := match k with
  | 0 => k2_sels lw_privs
  | 1 => tables_1_1
  | 2 => tables_1_2
  | 3 => tables_1_3
  | 4 => tables_1_4
  | 5 => tables_1_5
  | 6 => tables_1_6
  | 7 => tables_1_7
  | 8 => tables_1_8
  | _ => []
theorem nb_wdl_mem {k : Nat} {w : Cond} (h : w ∈ nb_wdl k) : w ∈ lw_tbl := by
  unfold lw_tbl tables_1
  simp only [List.mem_append]
  unfold nb_wdl at h
  split at h
  · exact Or.inl h
  · exact Or.inr (Or.inl h)
  · exact Or.inr (Or.inr (Or.inl h))
  · exact Or.inr (Or.inr (Or.inr (Or.inl h)))
  · exact Or.inr (Or.inr (Or.inr (Or.inr (Or.inl h))))
  · exact Or.inr (Or.inr (Or.inr (Or.inr (Or.inr (Or.inl h)))))
  · exact Or.inr (Or.inr (Or.inr (Or.inr (Or.inr (Or.inr (Or.inl h))))))
  · exact Or.inr (Or.inr (Or.inr (Or.inr (Or.inr (Or.inr (Or.inr (Or.inl h)))))))
  · exact Or.inr (Or.inr (Or.inr (Or.inr (Or.inr (Or.inr (Or.inr (Or.inr h)))))))
  · cases h
def nb_wat (w : Cond) (j : Nat) : Bool := decide ((nb_wdl (j / 1000))[j % 1000]? = some w)
theorem nb_wat_mem {w : Cond} {j : Nat} (h : nb_wat w j = true) : w ∈ lw_tbl := nb_wdl_mem (List.mem_of_getElem? (of_decide_eq_true h))
def nb_in (w : Cond) (j : Nat) : Bool := nb_wat w j && goodWord w
theorem nb_in_Ts {w : Cond} {j : Nat} (h : nb_in w j = true) : w ∈ nb_Ts := by
  unfold nb_in at h
  simp only [Bool.and_eq_true] at h
  exact List.mem_filter.mpr ⟨nb_wat_mem h.1, h.2⟩
