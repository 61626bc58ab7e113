/-! SOUNDNESS of a straight stretch -/
/-- a stretch stops, or goes on from one point; locals keep their number, memory doesn't shrink, what was wrong stays so -/
def nb_fcI (b : Bool) (L : List nb_V) (M : nb_M) (F : nb_K → nb_A) : Prop := (∀ k, F k = none) ∨ ∃ b' L' st' M', (∀ k, F k = k b' L' st' M') ∧ L'.length = L.length ∧ nb_cz M ≤ nb_cz M' ∧ nb_sz M ≤ nb_sz M' ∧ (b' = true → b = true)
theorem nb_fcI_none {b : Bool} {L : List nb_V} {M : nb_M} : nb_fcI b L M (fun _ => none) := Or.inl fun _ => rfl
theorem nb_fcI_go {b b' : Bool} {L L' st' : List nb_V} {M M' : nb_M} (h1 : L'.length = L.length) (h2 : nb_cz M ≤ nb_cz M') (h3 : nb_sz M ≤ nb_sz M') (h4 : b' = true → b = true) : nb_fcI b L M (fun k => k b' L' st' M') := Or.inr ⟨b', L', st', M', fun _ => rfl, h1, h2, h3, h4⟩
theorem nb_fcI_ite {b : Bool} {L : List nb_V} {M : nb_M} {p : Prop} {_ : Decidable p} {F F' : nb_K → nb_A} (h : nb_fcI b L M F) (h' : nb_fcI b L M F') : nb_fcI b L M (fun k => if p then F k else F' k) := by
  by_cases hp : p
  · simpa only [if_pos hp] using h
  · simpa only [if_neg hp] using h'
theorem nb_and_l {x y : Bool} (h : (x && y) = true) : x = true := (Bool.and_eq_true x y ▸ h : x = true ∧ y = true).1
theorem nb_ald_fcI (kd r : Nat) (b : Bool) (L st : List nb_V) (M : nb_M) : nb_fcI b L M (nb_ald kd r b L st M) := by
  unfold nb_ald
  match st with
  | [] => exact nb_fcI_none
  | [_] => exact nb_fcI_none
  | i :: a :: st => exact nb_fcI_ite (nb_fcI_go rfl (Nat.le_refl _) (Nat.le_refl _) nb_and_l) nb_fcI_none
theorem nb_ast_fcI (kd t : Nat) (f : Int → Int) (b : Bool) (L st : List nb_V) (M : nb_M) : nb_fcI b L M (nb_ast kd t f b L st M) := by
  unfold nb_ast
  match st with
  | [] => exact nb_fcI_none
  | [_] => exact nb_fcI_none
  | [_, _] => exact nb_fcI_none
  | v :: i :: a :: st => exact nb_fcI_ite (nb_fcI_go rfl (Nat.le_refl _) (Nat.le_refl _) nb_and_l) nb_fcI_none
theorem nb_fcI_weak {b b2 : Bool} {L : List nb_V} {M : nb_M} {F : nb_K → nb_A} (h : nb_fcI b2 L M F) (hb : b2 = true → b = true) : nb_fcI b L M F := by
  rcases h with h | ⟨b', L', st', M', h1, h2, h3, h4, h5⟩
  · exact Or.inl h
  · exact Or.inr ⟨b', L', st', M', h1, h2, h3, h4, fun q => hb (h5 q)⟩
theorem nb_load_fcI (lo hi n : Nat) (b : Bool) (L st : List nb_V) (M : nb_M) : nb_fcI b L M (nb_load lo hi n b L st M) := by
  unfold nb_load
  cases L[n]? with
  | none => exact nb_fcI_none
  | some v => exact nb_fcI_ite (nb_fcI_go rfl (Nat.le_refl _) (Nat.le_refl _) (fun h => h)) nb_fcI_none
theorem nb_store_fcI (lo hi n : Nat) (b : Bool) (L st : List nb_V) (M : nb_M) : nb_fcI b L M (nb_store lo hi n b L st M) := by
  unfold nb_store
  match st with
  | [] => exact nb_fcI_none
  | v :: st => exact nb_fcI_ite (nb_fcI_go (nb_put_len ..) (Nat.le_refl _) (Nat.le_refl _) (fun h => h)) nb_fcI_none
theorem nb_lstore_fcI (n : Nat) (b : Bool) (L st : List nb_V) (M : nb_M) : nb_fcI b L M (nb_lstore n b L st M) := by
  unfold nb_lstore
  match st with
  | [] => exact nb_fcI_none
  | v :: st => exact nb_fcI_ite (nb_fcI_go (by rw [List.length_set, nb_put_len]) (Nat.le_refl _) (Nat.le_refl _) (fun h => h)) nb_fcI_none
theorem nb_iinc_fcI (n : Nat) (d : Int) (b : Bool) (L st : List nb_V) (M : nb_M) : nb_fcI b L M (nb_iinc n d b L st M) := by
  unfold nb_iinc
  cases L[n]? with
  | none => exact nb_fcI_none
  | some v => exact nb_fcI_ite (nb_fcI_go (nb_put_len ..) (Nat.le_refl _) (Nat.le_refl _) (fun h => h)) nb_fcI_none
theorem nb_un_fcI (t r : Nat) (f : Int → Int) (b : Bool) (L st : List nb_V) (M : nb_M) : nb_fcI b L M (nb_un t r f b L st M) := by
  unfold nb_un
  match st with
  | [] => exact nb_fcI_none
  | v :: st => exact nb_fcI_ite (nb_fcI_go rfl (Nat.le_refl _) (Nat.le_refl _) (fun h => h)) nb_fcI_none
theorem nb_bin_fcI (tx ty r : Nat) (f : Int → Int → Int) (b : Bool) (L st : List nb_V) (M : nb_M) : nb_fcI b L M (nb_bin tx ty r f b L st M) := by
  unfold nb_bin
  match st with
  | [] => exact nb_fcI_none
  | [_] => exact nb_fcI_none
  | v :: w :: st => exact nb_fcI_ite (nb_fcI_go rfl (Nat.le_refl _) (Nat.le_refl _) (fun h => h)) nb_fcI_none
theorem nb_binz_fcI (f : Int → Int → Int) (b : Bool) (L st : List nb_V) (M : nb_M) : nb_fcI b L M (nb_binz f b L st M) := by
  unfold nb_binz
  match st with
  | [] => exact nb_fcI_none
  | [_] => exact nb_fcI_none
  | v :: w :: st => exact nb_fcI_ite (nb_fcI_go rfl (Nat.le_refl _) (Nat.le_refl _) nb_and_l) nb_fcI_none
theorem nb_newa_fcI (kd : Nat) (b : Bool) (L st : List nb_V) (M : nb_M) : nb_fcI b L M (nb_newa kd b L st M) := by
  unfold nb_newa
  match st with
  | [] => exact nb_fcI_none
  | v :: st => exact nb_fcI_ite (nb_fcI_go rfl (by rw [nb_al_cz]; omega) (by rw [nb_al_sz]; omega) nb_and_l) nb_fcI_none
theorem nb_alm_cz (M : nb_M) (n d : Nat) : nb_cz (nb_alm M n d) = nb_cz M + (1 + n) := by
  show (M.2.1 ++ ((7, n) :: List.replicate n (0, d))).length + M.2.2.1 = M.2.1.length + M.2.2.1 + (1 + n)
  simp
  omega
theorem nb_alm_sz (M : nb_M) (n d : Nat) : nb_sz (nb_alm M n d) = nb_sz M + (n + n * d) := by
  show ((M.2.1 ++ ((7, n) :: List.replicate n (0, d))).map (fun q : Nat × Nat => q.2)).sum + M.2.2.2 = (M.2.1.map (fun q : Nat × Nat => q.2)).sum + M.2.2.2 + (n + n * d)
  simp
  omega
set_option maxHeartbeats 4000000 in
theorem nb_sx_fcI (G : nb_G) (own : Nat) (i : Instr) (b : Bool) (L st : List nb_V) (M : nb_M) : nb_fcI b L M (nb_sx G own i b L st M) := by
  unfold nb_sx
  split
  all_goals first
    | exact nb_load_fcI ..
    | exact nb_store_fcI ..
    | exact nb_bin_fcI ..
    | exact nb_un_fcI ..
    | exact nb_lstore_fcI ..
    | exact nb_iinc_fcI ..
    | exact nb_binz_fcI ..
    | exact nb_ald_fcI ..
    | exact nb_ast_fcI ..
    | exact nb_newa_fcI ..
    | exact nb_fcI_go rfl (Nat.le_refl _) (Nat.le_refl _) (fun h => h)
    | exact nb_fcI_none
    | skip
  all_goals first
    | (unfold nb_ldc; split <;> first | exact nb_fcI_ite (nb_fcI_go rfl (Nat.le_refl _) (Nat.le_refl _) (fun h => h)) nb_fcI_none | exact nb_fcI_none)
    | (unfold nb_cst; split <;> first | exact nb_fcI_ite (nb_fcI_go rfl (Nat.le_refl _) (Nat.le_refl _) (fun h => h)) nb_fcI_none | exact nb_fcI_none)
    | (unfold nb_dup; split <;> first | exact nb_fcI_ite (nb_fcI_go rfl (Nat.le_refl _) (Nat.le_refl _) (fun h => h)) nb_fcI_none | exact nb_fcI_none)
    | (unfold nb_dup2; split <;> first | exact nb_fcI_ite (nb_fcI_go rfl (Nat.le_refl _) (Nat.le_refl _) (fun h => h)) nb_fcI_none | exact nb_fcI_none)
    | (unfold nb_pop; split <;> first | exact nb_fcI_ite (nb_fcI_go rfl (Nat.le_refl _) (Nat.le_refl _) (fun h => h)) nb_fcI_none | exact nb_fcI_none)
    | (unfold nb_alen; split <;> first | exact nb_fcI_ite (nb_fcI_go rfl (Nat.le_refl _) (Nat.le_refl _) nb_and_l) nb_fcI_none | exact nb_fcI_none)
    | (unfold nb_newm; split <;> first | exact nb_fcI_ite (nb_fcI_go rfl (by rw [nb_alm_cz]; omega) (by rw [nb_alm_sz]; omega) nb_and_l) nb_fcI_none | exact nb_fcI_none)
    | (unfold nb_getf; split <;> first | exact nb_fcI_none | (split <;> first | exact nb_fcI_ite (nb_fcI_go rfl (Nat.le_refl _) (Nat.le_refl _) nb_and_l) nb_fcI_none | exact nb_fcI_none))
    | (unfold nb_putf; split <;> first | exact nb_fcI_none | (split <;> first | exact nb_fcI_ite (nb_fcI_go rfl (Nat.le_refl _) (Nat.le_refl _) nb_and_l) nb_fcI_none | exact nb_fcI_none))
    | (unfold nb_newc; split <;> first | exact nb_fcI_ite (nb_fcI_go rfl (by rw [nb_al_cz]; omega) (by rw [nb_al_sz]; omega) nb_and_l) nb_fcI_none | exact nb_fcI_none)
    | (unfold nb_newr; split <;> first | exact nb_fcI_ite (nb_newa_fcI ..) nb_fcI_none | exact nb_fcI_none)
    | (unfold nb_bald; split <;> first | exact nb_fcI_ite (nb_ald_fcI ..) (nb_ald_fcI ..) | exact nb_fcI_none)
    | (unfold nb_bast; split <;> first | exact nb_fcI_ite (nb_ast_fcI ..) (nb_ast_fcI ..) | exact nb_fcI_none)
    | (unfold nb_aald; split <;> first | exact nb_fcI_ite (nb_ald_fcI ..) nb_fcI_none | exact nb_fcI_none)
    | (unfold nb_aast; split <;> first | exact nb_fcI_ite (nb_fcI_weak (nb_ast_fcI ..) nb_and_l) nb_fcI_none | exact nb_fcI_none)
theorem nb_str_fcI (G : nb_G) (own : Nat) : ∀ (is : List (Instr × Nat)) (b : Bool) (L st : List nb_V) (M : nb_M), nb_fcI b L M (nb_str G own is b L st M)
  | [], b, L, st, M => nb_fcI_go rfl (Nat.le_refl _) (Nat.le_refl _) (fun h => h)
  | i :: is, b, L, st, M => by
    rcases nb_sx_fcI G own i.1 b L st M with h | ⟨b', L', st', M', h, h2, h3, h4, h5⟩
    · exact Or.inl fun k => h _
    · rcases nb_str_fcI G own is b' L' st' M' with h' | ⟨b2, L2, st2, M2, h', g2, g3, g4, g5⟩
      · exact Or.inl fun k => (h _).trans (h' k)
      · exact Or.inr ⟨b2, L2, st2, M2, fun k => (h _).trans (h' k), g2.trans h2, Nat.le_trans h3 g3, Nat.le_trans h4 g4, fun q => h5 (g5 q)⟩
/-- the instructions of a stretch stand in the code -/
def nb_bodyB (cc : ByteArray) (own : Nat) (ini : Bool) : Nat → List (Instr × Nat) → Bool
  | _, [] => true
  | pc, i :: is => decide (decode cc pc = .ok i) && (nb_iokB own ini i.1 i.2 && nb_bodyB cc own ini (pc + i.2) is)
def nb_end : Nat → List (Instr × Nat) → Nat
  | pc, [] => pc
  | pc, i :: is => nb_end (pc + i.2) is
/-- what the program's tables say, for a class -/
def nb_TOK (own : Nat) : Prop := (∀ n f, nb_P.1 own n = some f → nb_FOK own n f) ∧ (∀ n v, nb_P.2.1 own n = some v → nb_COK own n v) ∧ (∀ n q, nb_P.2.2.1 own n = some q → nb_NOK own n q ∧ nb_AOK own n q) ∧ ∀ kd, kd < 4 → Cond.arrayClass (nb_aty kd) ∈ nb_Ts
section NBS
variable {p : Program} {l : Launch} {e : Env} {R : Room} {s : State} {m : MethodId} {args : Array Value} {below : List Frame} {meth : Method} {c : Code} {Q : State → Prop} {cc : ByteArray} {E : nb_E} {z0 z1 own : Nat} {r : List nb_V × nb_M}
theorem nb_str_sound {ini : Bool} (hx : p.tables.exec = Jvm.exec) (hb : c.code = cc) (hown : s.vm.findClass (nb_onm own) = some m.cls) (hSt : nb_S E s) (hini : ini = true → meth.name = "<init>") (hT : nb_TOK own) (hMN : nb_MNA p l e R s m args below meth c Q cc E z0 z1 own r) (hR : nb_cz r.2 - z0 ≤ R.cells ∧ nb_sz r.2 - z1 ≤ R.slots)
    {k : nb_K} {nL : Nat} (hkb : ∀ b' L' st' M', k b' L' st' M' = some r → b' = true) (hkz : ∀ b' L' st' M', k b' L' st' M' = some r → nb_cz M' ≤ nb_cz r.2 ∧ nb_sz M' ≤ nb_sz r.2) :
    ∀ (is : List (Instr × Nat)) (pc : Nat) (b : Bool) (L st : List nb_V) (M : nb_M), nb_bodyB cc own ini pc is = true → z0 ≤ nb_cz M ∧ z1 ≤ nb_sz M → L.length = nL → nb_str nb_P own is b L st M k = some r → (∀ b' L' st' M', k b' L' st' M' = some r → z0 ≤ nb_cz M' ∧ z1 ≤ nb_sz M' → L'.length = nL → nb_Go p l e R s m args below meth c Q E z0 z1 (nb_end pc is) L' st' M') → nb_Go p l e R s m args below meth c Q E z0 z1 pc L st M
  | [], pc, b, L, st, M, _, hz, hL, h, hk => hk b L st M h hz hL
  | i :: is, pc, b, L, st, M, hB, hz, hL, h, hk => by
    simp only [nb_bodyB, Bool.and_eq_true, decide_eq_true_eq] at hB
    obtain ⟨hd, hi, hB⟩ := hB
    have h0 : nb_sx nb_P own i.1 b L st M (fun b L st M => nb_str nb_P own is b L st M k) = some r := h
    rcases nb_sx_fcI nb_P own i.1 b L st M with q | ⟨b1, L1, st1, M1, q1, q2, q3, q4, -⟩
    · rw [q] at h0
      cases h0
    · have hk1 : nb_sx nb_P own i.1 b L st M (fun b' L' st' M' => if L'.length = nL ∧ z0 ≤ nb_cz M' ∧ z1 ≤ nb_sz M' then nb_str nb_P own is b' L' st' M' k else none) = some r := by
        rw [q1] at h0 ⊢
        rw [if_pos ⟨q2.trans hL, by omega, by omega⟩]
        exact h0
      have split : ∀ {b' : Bool} {L' st' : List nb_V} {M' : nb_M}, (if L'.length = nL ∧ z0 ≤ nb_cz M' ∧ z1 ≤ nb_sz M' then nb_str nb_P own is b' L' st' M' k else none) = some r → (L'.length = nL ∧ z0 ≤ nb_cz M' ∧ z1 ≤ nb_sz M') ∧ nb_str nb_P own is b' L' st' M' k = some r := by
        intro b' L' st' M' w
        split at w
        · rename_i w1
          exact ⟨w1, w⟩
        · cases w
      refine nb_sx_sound (ini := ini) hx hb hown hSt hini hT.1 hT.2.1 hT.2.2.1 hT.2.2.2 hMN hd hi hR hz hk1 ?_ ?_ ?_
      · intro b' L' st' M' w
        obtain ⟨-, w⟩ := split w
        rcases nb_str_fcI nb_P own is b' L' st' M' with g | ⟨b2, L2, st2, M2, g1, g2, g3, g4, g5⟩
        · rw [g] at w
          cases w
        · rw [g1] at w
          exact g5 (hkb _ _ _ _ w)
      · intro b' L' st' M' w
        obtain ⟨-, w⟩ := split w
        rcases nb_str_fcI nb_P own is b' L' st' M' with g | ⟨b2, L2, st2, M2, g1, g2, g3, g4, g5⟩
        · rw [g] at w
          cases w
        · rw [g1] at w
          have := hkz _ _ _ _ w
          omega
      · intro b' L' st' M' w
        obtain ⟨⟨w1, w2⟩, w⟩ := split w
        exact nb_str_sound hx hb hown hSt hini hT hMN hR hkb hkz is (pc + i.2) b' L' st' M' hB w2 w1 w hk
end NBS
