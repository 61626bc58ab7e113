/-! TOKENS: what stands where in a text -/
def pu_ltr (c : Int) : Prop := 97 ≤ c ∧ c ≤ 122
def pu_dgt (c : Int) : Prop := 48 ≤ c ∧ c ≤ 57
def pu_line (v : Int) : Prop := v = pu_tv 60 ∨ v = pu_tv 61 ∨ v = pu_tv 62 ∨ v = pu_tv 63 ∨ v = pu_tv 64 ∨ v = pu_tv 65
def pu_dv (f : Int → Int) : Nat → Int
  | 0 => 0
  | n + 1 => 10 * pu_dv f n + (f n - 48)
theorem pu_dv_rg {f : Int → Int} : ∀ n : Nat, (∀ i : Nat, i < n → pu_dgt (f i)) → 0 ≤ pu_dv f n ∧ pu_dv f n < (10 : Int) ^ n
  | 0, _ => by
    unfold pu_dv
    exact ⟨Int.le_refl 0, by decide⟩
  | n + 1, h => by
    have ih := pu_dv_rg (f := f) n (fun i hi => h i (by omega))
    have g := h n (by omega)
    have e : (10 : Int) ^ (n + 1) = (10 : Int) ^ n * 10 := Int.pow_succ _ _
    unfold pu_dgt at g
    unfold pu_dv
    rw [e]
    omega
theorem pu_p10 : ∀ n : Nat, n ≤ 3 → (10 : Int) ^ n ≤ 1000 := by decide +kernel
theorem pu_dv_3 {f : Int → Int} {n : Nat} (hn : n ≤ 3) (h : ∀ i : Nat, i < n → pu_dgt (f i)) : 0 ≤ pu_dv f n ∧ pu_dv f n ≤ 999 := by
  have a := pu_dv_rg n h
  have b := pu_p10 n hn
  omega
/-- a token from p on, up to e', behind blanks from e on -/
def pu_tkA (tx : Int → Int) (n e p k v e' : Int) : Prop :=
  ((0 ≤ e ∧ e ≤ p ∧ p < e' ∧ e' ≤ n) ∧ ∀ i, e ≤ i → i < p → tx i = 32) ∧
  ((pu_ltr (tx p) ∧ (∀ i, p ≤ i → i < e' → pu_ltr (tx i)) ∧ (e' < n → ¬ pu_ltr (tx e')) ∧ ((8 < e' - p ∧ k = 6) ∨ (e' - p ≤ 8 ∧ v = pu_wv (fun i => tx (p + i)) (e' - p).toNat ∧ ((k = 1 ∧ ¬ pu_line v) ∨ (k = 2 ∧ pu_line v))))) ∨
   (pu_dgt (tx p) ∧ (∀ i, p ≤ i → i < e' → pu_dgt (tx i)) ∧ (e' < n → ¬ pu_dgt (tx e')) ∧ ((3 < e' - p ∧ k = 6) ∨ (e' - p ≤ 3 ∧ k = 3 ∧ v = pu_dv (fun i => tx (p + i)) (e' - p).toNat))) ∨
   (¬ pu_ltr (tx p) ∧ ¬ pu_dgt (tx p) ∧ (tx p ≠ 32 ∧ 0 ≤ tx p) ∧ e' = p + 1 ∧ ((tx p = 59 ∧ k = 4) ∨ (tx p = 44 ∧ k = 5) ∨ (tx p ≠ 59 ∧ tx p ≠ 44 ∧ k = 6))))
def pu_tkE (tx : Int → Int) (n e : Int) : Prop := (0 ≤ e ∧ e ≤ n) ∧ ∀ i, e ≤ i → i < n → tx i = 32
/-- the reference's token -/
def pu_rt (N : nb_M) (p k v : Int) : Prop := N.1 603 4 = p ∧
  ((k = 0 ∧ N.1 603 6 = 0) ∨ ((k = 1 ∨ k = 2) ∧ N.1 603 6 = 2 ∧ (1 ≤ N.1 603 8 ∧ N.1 603 8 ≤ 8) ∧ pu_abc (N.1 605) (N.1 603 8).toNat ∧ v = pu_wv (N.1 605) (N.1 603 8).toNat ∧ (k = 2 ↔ pu_line v)) ∨ (k = 3 ∧ N.1 603 6 = 3 ∧ N.1 603 7 = v ∧ 0 ≤ v ∧ v ≤ 999) ∨ (k = 4 ∧ N.1 603 6 = 59) ∨ (k = 5 ∧ N.1 603 6 = 44) ∨ (k = 6 ∧ N.1 603 6 = 1))
/-- what a token read by the reference changes -/
def pu_nt (N N' : nb_M) : Prop := nb_Lay N' ∧ N'.2 = N.2 ∧ (∀ a, a ≠ 603 → a ≠ 605 → N'.1 a = N.1 a) ∧ ∀ i, i < 4 ∨ 8 < i → N'.1 603 i = N.1 603 i
theorem pu_nt.id {N : nb_M} (W : nb_Lay N) : pu_nt N N := ⟨W, rfl, fun _ _ _ => rfl, fun _ _ => rfl⟩
theorem pu_nt.fld {N N' : nb_M} (h : pu_nt N N') {i v : Int} (hi : i = 4 ∨ i = 5 ∨ i = 6 ∨ i = 7 ∨ i = 8) : pu_nt N (nb_wr N' 603 i v) := by
  obtain ⟨h1, h2, h3, h4⟩ := h
  refine ⟨h1.wr (fun w => by rcases hi with rfl | rfl | rfl | rfl | rfl <;> exact nb_nlit (by decide) (by decide)), h2, fun a p q => ?_, fun j hj => ?_⟩
  · rw [nb_wr_b p]; exact h3 a p q
  · rw [nb_wr_1, if_neg (by omega)]; exact h4 j hj
theorem pu_nt.let {N N' : nb_M} (h : pu_nt N N') {i v : Int} : pu_nt N (nb_wr N' 605 i v) := by
  obtain ⟨h1, h2, h3, h4⟩ := h
  refine ⟨h1.wr (fun w => nb_nnum (by decide) (by decide)), h2, fun a p q => ?_, fun j hj => ?_⟩
  · rw [nb_wr_b q]; exact h3 a p q
  · rw [nb_wr_b (by decide)]; exact h4 j hj
theorem sp_m_nextToken_E {N : nb_M} {n e : Int} {v1 v2 v3 : nb_V} (W : nb_Lay N) (hn : N.1 603 3 = n) (hn1 : n ≤ 1000) (he : N.1 603 5 = e) (h : pu_tkE (N.1 604) n e) : nb_W 91 0 [(20, 603), v1, v2, v3] [] N (fun r' N' => r' = [] ∧ pu_rt N' n 0 0 ∧ pu_nt N N') := by
  obtain ⟨h1, h2⟩ := h
  refine w_m_nextToken_0 W ?_
  rw [he]
  suffices hl : ∀ (m : Nat) (l : Int), e ≤ l → l + m = n → nb_W 91 1 [(20, 603), (0, l), v2, v3] [] N (fun r' N' => r' = [] ∧ pu_rt N' n 0 0 ∧ pu_nt N N') from hl (n - e).toNat e (by omega) (by omega)
  intro m
  induction m with
  | zero =>
    intro l hl hm
    refine w_m_nextToken_1 W (by omega) ⟨fun c => absurd c (by omega), fun _ _ => ⟨rfl, ⟨?_, Or.inl ⟨rfl, ?_⟩⟩, ((((pu_nt.id W).fld (by omega)).fld (by omega)).fld (by omega)).fld (by omega) |>.fld (by omega)⟩⟩
    · simp [nb_wr_1]; omega
    · simp [nb_wr_1]
  | succ m ih =>
    intro l hl hm
    have b := h2 l hl (by omega)
    exact w_m_nextToken_1 W (by omega) ⟨fun _ => ⟨by omega, by omega, fun _ => ih (l + 1) (by omega) (by omega), fun c => absurd b c⟩, fun c => absurd c (by omega)⟩
theorem sp_m_nextToken_A {N : nb_M} {n e p k v e' : Int} {v1 v2 v3 : nb_V} (W : nb_Lay N) (hn : N.1 603 3 = n) (hn1 : n ≤ 1000) (he : N.1 603 5 = e) (h : pu_tkA (N.1 604) n e p k v e') : nb_W 91 0 [(20, 603), v1, v2, v3] [] N (fun r' N' => r' = [] ∧ pu_rt N' p k v ∧ N'.1 603 5 = e' ∧ pu_nt N N') := by
  obtain ⟨⟨h1, h2⟩, h3⟩ := h
  refine w_m_nextToken_0 W ?_
  rw [he]
  suffices hl : ∀ (m : Nat) (l : Int), e ≤ l → l + m = p → nb_W 91 1 [(20, 603), (0, l), v2, v3] [] N (fun r' N' => r' = [] ∧ pu_rt N' p k v ∧ N'.1 603 5 = e' ∧ pu_nt N N') from hl (p - e).toNat e (by omega) (by omega)
  intro m
  induction m with
  | succ m ih =>
    intro l hl hm
    have b := h2 l hl (by omega)
    exact w_m_nextToken_1 W (by omega) ⟨fun _ => ⟨by omega, by omega, fun _ => ih (l + 1) (by omega) (by omega), fun c => absurd b c⟩, fun c => absurd c (by omega)⟩
  | zero =>
    intro l hl hm
    have el : l = p := by omega
    subst el
    have q0 : pu_nt N (nb_wr (nb_wr (nb_wr N 603 4 l) 603 8 0) 603 7 0) := (((pu_nt.id W).fld (by omega)).fld (by omega)).fld (by omega)
    -- a sign
    have sgn : ∀ t : Int, nb_Lay (nb_wr (nb_wr (nb_wr (nb_wr (nb_wr N 603 4 l) 603 8 0) 603 7 0) 603 5 (l + 1)) 603 6 t) → (e' = l + 1) → ((k = 4 ∧ t = 59) ∨ (k = 5 ∧ t = 44) ∨ (k = 6 ∧ t = 1)) → (([] : List nb_V) = [] ∧ pu_rt (nb_wr (nb_wr (nb_wr (nb_wr (nb_wr N 603 4 l) 603 8 0) 603 7 0) 603 5 (l + 1)) 603 6 t) l k v ∧ (nb_wr (nb_wr (nb_wr (nb_wr (nb_wr N 603 4 l) 603 8 0) 603 7 0) 603 5 (l + 1)) 603 6 t).1 603 5 = e' ∧ pu_nt N (nb_wr (nb_wr (nb_wr (nb_wr (nb_wr N 603 4 l) 603 8 0) 603 7 0) 603 5 (l + 1)) 603 6 t)) := fun t _ ee ht => by
      refine ⟨rfl, ⟨by simp [nb_wr_1], Or.inr (Or.inr (Or.inr ?_))⟩, by simp [nb_wr_1]; omega, (q0.fld (by omega)).fld (by omega)⟩
      have et : (nb_wr (nb_wr (nb_wr (nb_wr (nb_wr N 603 4 l) 603 8 0) 603 7 0) 603 5 (l + 1)) 603 6 t).1 603 6 = t := by rw [nb_wr_1, if_pos ⟨rfl, rfl⟩]
      rw [et]
      omega
    refine w_m_nextToken_1 W (by omega) ⟨fun _ => ⟨by omega, by omega, fun b32 => ?_, fun b32 => ⟨fun bm => ?_, fun bm => ⟨fun c97 => ⟨fun c48 => ⟨fun c44 => ?_, fun c44 => ?_⟩, fun c48 => ⟨fun c57 => ⟨fun c59 => ?_, fun c59 => ?_⟩, fun c57 => ?_⟩⟩, fun c97 => ⟨fun c122 => ?_, fun c122 => ?_⟩⟩⟩⟩, fun c => absurd c (by omega)⟩
    · unfold pu_ltr pu_dgt at h3; omega
    · exfalso; unfold pu_ltr pu_dgt at h3; rcases h3 with q | q | q <;> omega
    · rw [c44]
      exact fun hL => sgn 44 hL (by unfold pu_ltr pu_dgt at h3; omega) (by unfold pu_ltr pu_dgt at h3; omega)
    · exact fun hL => sgn 1 hL (by unfold pu_ltr pu_dgt at h3; omega) (by unfold pu_ltr pu_dgt at h3; omega)
    · rw [c59]
      exact fun hL => sgn 59 hL (by unfold pu_ltr pu_dgt at h3; omega) (by unfold pu_ltr pu_dgt at h3; omega)
    · exact fun hL => sgn 1 hL (by unfold pu_ltr pu_dgt at h3; omega) (by unfold pu_ltr pu_dgt at h3; omega)
    · -- a whole
      have hd : (∀ i, l ≤ i → i < e' → pu_dgt (N.1 604 i)) ∧ (e' < n → ¬ pu_dgt (N.1 604 e')) ∧ ((3 < e' - l ∧ k = 6) ∨ (e' - l ≤ 3 ∧ k = 3 ∧ v = pu_dv (fun i => N.1 604 (l + i)) (e' - l).toNat)) := by
        rcases h3 with q | q | q
        · exfalso; have := q.1; unfold pu_ltr at this; omega
        · exact q.2
        · exfalso; have := q.2.1; unfold pu_dgt at this; omega
      obtain ⟨d1, d2, d3⟩ := hd
      suffices hl : ∀ (m : Nat) (j : Nat) (v2 : nb_V) (N1 : nb_M), l + j + m = e' → pu_nt N N1 → N1.1 603 4 = l → (j ≤ 3 → N1.1 603 7 = pu_dv (fun i => N.1 604 (l + i)) j) → nb_W 91 31 [(20, 603), (0, l + j), v2, (0, (j : Int))] [] N1 (fun r' N' => r' = [] ∧ pu_rt N' l k v ∧ N'.1 603 5 = e' ∧ pu_nt N N') by
        have g := hl (e' - l).toNat 0 (nb_clr (0, N.1 604 l)) _ (by omega) q0 (by simp [nb_wr_1]) (fun _ => by rw [nb_wr_1, if_pos ⟨rfl, rfl⟩]; rfl)
        rw [show l + ((0 : Nat) : Int) = l by omega] at g
        exact g
      intro m
      induction m with
      | zero =>
        intro j v2 N1 hj q1 h4 h7
        have e604 : N1.1 604 = N.1 604 := q1.2.2.1 604 (by decide) (by decide)
        have e3 : N1.1 603 3 = n := (q1.2.2.2 3 (by decide)).trans hn
        have fin : ∀ t : Int, nb_Lay (nb_wr (nb_wr N1 603 5 (l + j)) 603 6 t) → ((k = 6 ∧ t = 1) ∨ (k = 3 ∧ t = 3 ∧ (j : Int) ≤ 3)) → (([] : List nb_V) = [] ∧ pu_rt (nb_wr (nb_wr N1 603 5 (l + j)) 603 6 t) l k v ∧ (nb_wr (nb_wr N1 603 5 (l + j)) 603 6 t).1 603 5 = e' ∧ pu_nt N (nb_wr (nb_wr N1 603 5 (l + j)) 603 6 t)) := fun t _ ht => by
          have et : (nb_wr (nb_wr N1 603 5 (l + j)) 603 6 t).1 603 6 = t := by rw [nb_wr_1, if_pos ⟨rfl, rfl⟩]
          have e7 : (nb_wr (nb_wr N1 603 5 (l + j)) 603 6 t).1 603 7 = N1.1 603 7 := by rw [nb_wr_1, if_neg (by omega), nb_wr_1, if_neg (by omega)]
          refine ⟨rfl, ⟨by rw [nb_wr_1, if_neg (by omega), nb_wr_1, if_neg (by omega)]; exact h4, ?_⟩, by rw [nb_wr_1, if_neg (by omega), nb_wr_1, if_pos ⟨rfl, rfl⟩]; omega, (q1.fld (by omega)).fld (by omega)⟩
          rw [et, e7]
          rcases ht with ⟨a, b⟩ | ⟨a, b, c⟩
          · exact Or.inr (Or.inr (Or.inr (Or.inr (Or.inr ⟨a, b⟩))))
          · have g : v = pu_dv (fun i => N.1 604 (l + i)) j := by
              rcases d3 with q | q
              · omega
              · rw [q.2.2, show (e' - l).toNat = j by omega]
            have b3 := pu_dv_3 (f := fun i => N.1 604 (l + i)) (n := j) (by omega) (fun i hi => d1 (l + i) (by omega) (by omega))
            exact Or.inr (Or.inr (Or.inl ⟨a, b, (h7 (by omega)).trans g.symm, by omega, by omega⟩))
        refine w_m_nextToken_31 q1.1 (by omega) ?_
        rw [e604, e3]
        have ej : l + (j : Int) = e' := by omega
        have nd : l + (j : Int) < n → ¬ pu_dgt (N.1 604 (l + j)) := fun c => by rw [ej]; exact d2 (by omega)
        have a1 : 3 < (j : Int) → nb_Lay (nb_wr (nb_wr N1 603 5 (l + j)) 603 6 1) → _ := fun a hL => fin 1 hL (by omega)
        have a3 : (j : Int) ≤ 3 → nb_Lay (nb_wr (nb_wr N1 603 5 (l + j)) 603 6 3) → _ := fun a hL => fin 3 hL (by omega)
        exact ⟨fun c => ⟨by omega, by omega, fun _ => ⟨a1, a3⟩, fun a => ⟨fun _ => ⟨a1, a3⟩, fun b => absurd ⟨a, b⟩ (nd c)⟩⟩, fun _ => ⟨a1, a3⟩⟩
      | succ m ih =>
        intro j v2 N1 hj q1 h4 h7
        have e604 : N1.1 604 = N.1 604 := q1.2.2.1 604 (by decide) (by decide)
        have e3 : N1.1 603 3 = n := (q1.2.2.2 3 (by decide)).trans hn
        have dg := d1 (l + j) (by omega) (by omega)
        refine w_m_nextToken_31 q1.1 (by omega) ?_
        rw [e604, e3]
        have dg' := dg
        unfold pu_dgt at dg'
        refine ⟨fun _ => ⟨by omega, by omega, fun a => absurd a (by omega), fun _ => ⟨fun a => absurd a (by omega), fun _ => ⟨fun a => ?_, fun a => ?_⟩⟩⟩, fun c => absurd c (by omega)⟩
        · have b3 := pu_dv_3 (f := fun i => N.1 604 (l + i)) (n := j) (by omega) (fun i hi => d1 (l + i) (by omega) (by omega))
          have e7 := h7 (by omega)
          rw [e7, nb_mul_eq (by omega) (by omega), nb_add_eq (x := 10 * _) (by omega) (by omega), nb_sub_eq (by omega) (by omega), nb_add_eq (x := (j : Int)) (by omega) (by omega)]
          have g := ih (j + 1) (nb_clr v2) (nb_wr N1 603 7 (10 * pu_dv (fun i => N.1 604 (l + i)) j + N.1 604 (l + j) - 48)) (by omega) (q1.fld (by omega)) (by rw [nb_wr_1, if_neg (by omega)]; exact h4) (fun _ => by
            rw [nb_wr_1, if_pos ⟨rfl, rfl⟩]
            show _ = 10 * pu_dv (fun i => N.1 604 (l + i)) j + (N.1 604 (l + j) - 48)
            omega)
          rw [show l + ((j + 1 : Nat) : Int) = l + j + 1 by omega] at g
          exact g
        · rw [nb_add_eq (x := (j : Int)) (by omega) (by omega)]
          have g := ih (j + 1) (nb_clr v2) N1 (by omega) q1 h4 (fun z => absurd z (by omega))
          rw [show l + ((j + 1 : Nat) : Int) = l + j + 1 by omega] at g
          exact g
    · exact fun hL => sgn 1 hL (by unfold pu_ltr pu_dgt at h3; omega) (by unfold pu_ltr pu_dgt at h3; omega)
    · -- a word
      have hd : (∀ i, l ≤ i → i < e' → pu_ltr (N.1 604 i)) ∧ (e' < n → ¬ pu_ltr (N.1 604 e')) ∧ ((8 < e' - l ∧ k = 6) ∨ (e' - l ≤ 8 ∧ v = pu_wv (fun i => N.1 604 (l + i)) (e' - l).toNat ∧ ((k = 1 ∧ ¬ pu_line v) ∨ (k = 2 ∧ pu_line v)))) := by
        rcases h3 with q | q | q
        · exact q.2
        · exfalso; have := q.1; unfold pu_dgt at this; omega
        · exfalso; have := q.1; unfold pu_ltr at this; omega
      obtain ⟨d1, d2, d3⟩ := hd
      suffices hl : ∀ (m : Nat) (j : Nat) (v2 v3 : nb_V) (N1 : nb_M), l + j + m = e' → pu_nt N N1 → N1.1 603 4 = l → N1.1 603 8 = j → (∀ i : Nat, i < j → i < 8 → N1.1 605 i = N.1 604 (l + i)) → nb_W 91 14 [(20, 603), (0, l + j), v2, v3] [] N1 (fun r' N' => r' = [] ∧ pu_rt N' l k v ∧ N'.1 603 5 = e' ∧ pu_nt N N') by
        have g := hl (e' - l).toNat 0 (0, N.1 604 l) v3 _ (by omega) q0 (by simp [nb_wr_1]) (by simp [nb_wr_1]) (fun i hi _ => absurd hi (by omega))
        rw [show l + ((0 : Nat) : Int) = l by omega] at g
        exact g
      intro m
      induction m with
      | zero =>
        intro j v2 v3 N1 hj q1 h4 h8 h5
        have e604 : N1.1 604 = N.1 604 := q1.2.2.1 604 (by decide) (by decide)
        have e3 : N1.1 603 3 = n := (q1.2.2.2 3 (by decide)).trans hn
        have fin : ∀ t : Int, nb_Lay (nb_wr (nb_wr N1 603 5 (l + j)) 603 6 t) → ((k = 6 ∧ t = 1) ∨ ((j : Int) ≤ 8 ∧ t = 2)) → (([] : List nb_V) = [] ∧ pu_rt (nb_wr (nb_wr N1 603 5 (l + j)) 603 6 t) l k v ∧ (nb_wr (nb_wr N1 603 5 (l + j)) 603 6 t).1 603 5 = e' ∧ pu_nt N (nb_wr (nb_wr N1 603 5 (l + j)) 603 6 t)) := fun t _ ht => by
          have et : (nb_wr (nb_wr N1 603 5 (l + j)) 603 6 t).1 603 6 = t := by rw [nb_wr_1, if_pos ⟨rfl, rfl⟩]
          have e8 : (nb_wr (nb_wr N1 603 5 (l + j)) 603 6 t).1 603 8 = j := by rw [nb_wr_1, if_neg (by omega), nb_wr_1, if_neg (by omega)]; exact h8
          have e5 : (nb_wr (nb_wr N1 603 5 (l + j)) 603 6 t).1 605 = N1.1 605 := by rw [nb_wr_b (by decide), nb_wr_b (by decide)]
          refine ⟨rfl, ⟨by rw [nb_wr_1, if_neg (by omega), nb_wr_1, if_neg (by omega)]; exact h4, ?_⟩, by rw [nb_wr_1, if_neg (by omega), nb_wr_1, if_pos ⟨rfl, rfl⟩]; omega, (q1.fld (by omega)).fld (by omega)⟩
          rw [et, e8, e5, show ((j : Nat) : Int).toNat = j from rfl]
          rcases ht with ⟨a, b⟩ | ⟨a, b⟩
          · exact Or.inr (Or.inr (Or.inr (Or.inr (Or.inr ⟨a, b⟩))))
          · rcases d3 with q | ⟨q1', q2, q3⟩
            · omega
            · have ejn : (e' - l).toNat = j := by omega
              rw [ejn] at q2
              have ew : pu_wv (N1.1 605) j = pu_wv (fun i => N.1 604 (l + i)) j := pu_wv_congr j (fun i hi => h5 i hi (by omega))
              refine Or.inr (Or.inl ⟨by omega, b, by omega, fun i hi => ?_, q2.trans ew.symm, ?_⟩)
              · rw [h5 i hi (by omega)]
                exact d1 (l + i) (by omega) (by omega)
              · rcases q3 with ⟨x, y⟩ | ⟨x, y⟩
                · exact ⟨fun z => absurd z (by omega), fun z => absurd z y⟩
                · exact ⟨fun _ => y, fun _ => x⟩
        refine w_m_nextToken_14 q1.1 (by omega) ?_
        rw [e604, e3, h8]
        have ej : l + (j : Int) = e' := by omega
        have nd : l + (j : Int) < n → ¬ pu_ltr (N.1 604 (l + j)) := fun c => by rw [ej]; exact d2 (by omega)
        have a1 : 8 < (j : Int) → nb_Lay (nb_wr (nb_wr N1 603 5 (l + j)) 603 6 1) → _ := fun a hL => fin 1 hL (by omega)
        have a3 : (j : Int) ≤ 8 → nb_Lay (nb_wr (nb_wr N1 603 5 (l + j)) 603 6 2) → _ := fun a hL => fin 2 hL (by omega)
        exact ⟨fun c => ⟨by omega, by omega, fun _ => ⟨a1, a3⟩, fun a => ⟨fun _ => ⟨a1, a3⟩, fun b => absurd ⟨a, b⟩ (nd c)⟩⟩, fun _ => ⟨a1, a3⟩⟩
      | succ m ih =>
        intro j v2 v3 N1 hj q1 h4 h8 h5
        have e604 : N1.1 604 = N.1 604 := q1.2.2.1 604 (by decide) (by decide)
        have e3 : N1.1 603 3 = n := (q1.2.2.2 3 (by decide)).trans hn
        have dg := d1 (l + j) (by omega) (by omega)
        have dg' := dg
        unfold pu_ltr at dg'
        refine w_m_nextToken_14 q1.1 (by omega) ?_
        rw [e604, e3, h8]
        refine ⟨fun _ => ⟨by omega, by omega, fun a => absurd a (by omega), fun _ => ⟨fun a => absurd a (by omega), fun _ => ⟨fun a => ⟨by omega, ?_⟩, fun a => ?_⟩⟩⟩, fun c => absurd c (by omega)⟩
        · rw [nb_add_eq (x := (j : Int)) (by omega) (by omega)]
          have g := ih (j + 1) v2 v3 (nb_wr (nb_wr N1 605 j (N.1 604 (l + j))) 603 8 (j + 1)) (by omega) ((q1.let).fld (by omega)) (by rw [nb_wr_1, if_neg (by omega), nb_wr_b (by decide)]; exact h4) (by rw [nb_wr_1, if_pos ⟨rfl, rfl⟩]; omega) (fun i hi h8' => by
            rw [nb_wr_b (by decide), nb_wr_1]
            by_cases c : i = j
            · subst c
              rw [if_pos ⟨rfl, rfl⟩]
            · rw [if_neg (by omega)]
              exact h5 i (by omega) h8')
          rw [show l + ((j + 1 : Nat) : Int) = l + j + 1 by omega] at g
          exact g
        · rw [nb_add_eq (x := (j : Int)) (by omega) (by omega)]
          have g := ih (j + 1) v2 v3 (nb_wr N1 603 8 (j + 1)) (by omega) (q1.fld (by omega)) (by rw [nb_wr_1, if_neg (by omega)]; exact h4) (by rw [nb_wr_1, if_pos ⟨rfl, rfl⟩]; omega) (fun i hi h8' => by
            rw [nb_wr_b (by decide)]
            exact h5 i (by omega) h8')
          rw [show l + ((j + 1 : Nat) : Int) = l + j + 1 by omega] at g
          exact g
