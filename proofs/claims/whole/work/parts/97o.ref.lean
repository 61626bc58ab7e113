/-! AN EVENING leaves alone what lies outside its row -/
def pu_out (R R' : Int → Int) : Prop := ∀ j, j < 0 ∨ 108 ≤ j → R' j = R j
theorem pu_cms_out {pe R : Int → Int} {t : Int} : ∀ n : Nat, n ≤ 10 → pu_out R (pu_cms pe t R n)
  | 0, _ => fun _ _ => rfl
  | n + 1, h => fun j hj => (pu_cm_0 (by omega) (by omega)).trans (pu_cms_out n (by omega) j hj)
theorem pu_bg_out {r cr R : Int → Int} {t s h p : Int} (hs : 0 ≤ s ∧ s ≤ 3) (hh : 1 ≤ h ∧ h ≤ 2) (hp : 0 ≤ p ∧ p ≤ 9) (h1 : 0 ≤ R 1 ∧ R 1 ≤ 9) : pu_out R (pu_bg r cr t s h p R) := fun j hj => by
  unfold pu_bg
  rw [nb_ud_other (by omega), nb_ud_other (by omega), nb_ud_other (by omega), nb_ud_other (by omega), nb_ud_other (by omega), nb_ud_other (by omega), nb_ud_other (by omega), nb_ud_other (by omega), nb_ud_other (by omega)]
theorem pu_bgs_out {r cr pe : Int → Int} {np t s h : Int} (hr : pu_Rr r) (hc : pu_Rc cr) (hnp : 0 ≤ np ∧ np ≤ 10) (hs : 0 ≤ s ∧ s ≤ 3) (hh : 1 ≤ h ∧ h ≤ 2) (ht : 0 ≤ t ∧ t ≤ 9999) : ∀ (n : Nat) (R : Int → Int), pu_Rw R → pu_Rk R → pu_out R (pu_bgs r cr pe np t s h n R)
  | 0, R, hR, hk => fun _ _ => rfl
  | n + 1, R, hR, hk => by
    unfold pu_bgs
    split
    · exact fun _ _ => rfl
    · rename_i hx
      rcases pu_nf_rg (cr := cr) (pe := pe) (R := R) (s := s) hnp with h | ⟨h0, h9, hn, hw⟩
      · exact absurd h hx
      · obtain ⟨k1, k2, k3⟩ := pu_bg_rk (r := r) (cr := cr) (t := t) hs hh ⟨h0, h9⟩ hw hR hk
        have k4 := pu_bg_rw (h := h) hr hc hR hs hh ⟨h0, h9⟩ ht k3
        have k5 := pu_bg_out (r := r) (cr := cr) (t := t) (h := h) hs hh ⟨h0, h9⟩ ⟨hR.2.2.2.1.1, k3⟩
        split
        · exact fun j hj => (pu_bgs_out hr hc hnp hs hh ht n _ k4 k1 j hj).trans (k5 j hj)
        · exact k5
theorem pu_sh_out {r cr pe : Int → Int} {np t s : Int} (hr : pu_Rr r) (hc : pu_Rc cr) (hnp : 0 ≤ np ∧ np ≤ 10) (hs : 0 ≤ s ∧ s ≤ 3) (ht : 0 ≤ t ∧ t ≤ 9999) {R : Int → Int} (hR : pu_Rw R) (hk : pu_Rk R) : ∀ (n : Nat), n ≤ 2 → pu_out R (pu_sh r cr pe np t s n R)
  | 0, _ => fun _ _ => rfl
  | n + 1, h => by
    obtain ⟨h1, h2, h3⟩ := pu_sh_ok (pe := pe) hr hc hnp hs ht hR hk n (by omega)
    have ih := pu_sh_out (pe := pe) hr hc hnp hs ht hR hk n (by omega)
    unfold pu_sh
    split
    · exact fun j hj => (pu_bgs_out (pe := pe) hr hc hnp hs (h := (n : Int) + 1) (by omega) ht 10 _ h1 h2 j hj).trans (ih j hj)
    · exact ih
theorem pu_ss_out {r cr pe : Int → Int} {np t : Int} (hr : pu_Rr r) (hc : pu_Rc cr) (hnp : 0 ≤ np ∧ np ≤ 10) (ht : 0 ≤ t ∧ t ≤ 9999) {R : Int → Int} (hR : pu_Rw R) (hk : pu_Rk R) : ∀ (n : Nat), n ≤ 4 → pu_out R (pu_ss r cr pe np t n R)
  | 0, _ => fun _ _ => rfl
  | n + 1, h => by
    obtain ⟨h1, h2, h3⟩ := pu_ss_ok (pe := pe) hr hc hnp ht hR hk n (by omega)
    have ih := pu_ss_out (pe := pe) hr hc hnp ht hR hk n (by omega)
    have h4 := (hc n (by omega) (by omega)).2.2
    exact fun j hj => (pu_sh_out (pe := pe) hr hc hnp (s := n) (by omega) ht h1 h2 (cr (6 * n + 5)).toNat (by omega) j hj).trans (ih j hj)
theorem pu_secs_out {r cr pe : Int → Int} {ns : Int} (hr : pu_Rr r) (hc : pu_Rc cr) (hns : 0 ≤ ns ∧ ns ≤ 4) {R : Int → Int} (hR : pu_Rw R) (hk : pu_Rk R) : ∀ n : Nat, R 0 + n ≤ 9999 → pu_out R (pu_secs r cr pe ns n R)
  | 0, _ => fun _ _ => rfl
  | n + 1, h => fun j hj => by
    obtain ⟨h1, h2, h3⟩ := pu_secs_ok (pe := pe) hr hc hns hR hk n (by omega)
    have ih := pu_secs_out (pe := pe) hr hc hns hR hk n (by omega) j hj
    have ht := h1.2.2.1
    have hnp := hr.2.2.2.2.2.2.1
    have ht' : 0 ≤ pu_secs r cr pe ns n R 0 ∧ pu_secs r cr pe ns n R 0 ≤ 9999 := by omega
    obtain ⟨g1, g2, g3⟩ := pu_cms_ok (pe := pe) (t := pu_secs r cr pe ns n R 0) ht' h1 h2 (r 5).toNat (by omega)
    show pu_sec r cr pe ns (pu_secs r cr pe ns n R) j = R j
    unfold pu_sec
    rw [nb_ud_other (by omega), pu_ss_out (pe := pe) hr hc hnp ht' g1 g2 ns.toNat (by omega) j hj, pu_cms_out _ (by omega) j hj, ih]
theorem pu_eve_ok {r cr pe S g : Int → Int} {ns bell : Int} (hr : pu_Rr r) (hc : pu_Rc cr) (hns : 0 ≤ ns ∧ ns ≤ 4) (hb : 0 ≤ bell ∧ bell ≤ 9000) (hR : pu_Rw S) (hk : pu_Rk S) : pu_Rw (pu_eve r cr pe ns bell (pu_cpy S g 0 0 108)) ∧ pu_out g (pu_eve r cr pe ns bell (pu_cpy S g 0 0 108)) := by
  have hR2 := pu_Rw_congr (R' := pu_cpy S g 0 0 108) pu_cpy_in hR
  have hk2 := pu_Rk_congr (R' := pu_cpy S g 0 0 108) pu_cpy_in hk
  have h0 := hR2.2.2.1
  have hx : pu_cpy S g 0 0 108 0 + ((bell + 1 - pu_cpy S g 0 0 108 0).toNat : Int) ≤ 9999 ∨ (bell + 1 - pu_cpy S g 0 0 108 0).toNat = 0 := by omega
  unfold pu_eve
  rcases hx with hx | hx
  · refine ⟨(pu_secs_ok (pe := pe) hr hc hns hR2 hk2 _ hx).1, fun j hj => (pu_secs_out (pe := pe) hr hc hns hR2 hk2 _ hx j hj).trans ?_⟩
    unfold pu_cpy
    exact if_neg (by omega)
  · rw [hx]
    refine ⟨hR2, fun j hj => ?_⟩
    unfold pu_secs pu_cpy
    exact if_neg (by omega)
theorem pu_cpy_out {f g g' : Int → Int} {a i n : Int} (h : ∀ j, j < i ∨ i + n ≤ j → g j = g' j) : pu_cpy f g a i n = pu_cpy f g' a i n := by
  funext j
  unfold pu_cpy
  split
  · rfl
  · exact h j (by omega)
theorem pu_cpy_ud {S g : Int → Int} {i v : Int} (h : 0 ≤ i ∧ i < 108) : pu_cpy (nb_ud S i v) g 0 0 108 = nb_ud (pu_cpy S g 0 0 108) i v := by
  funext j
  simp only [pu_cpy, nb_ud]
  rw [show j - 0 + 0 = j by omega]
  (repeat' split) <;> first | rfl | omega
/-! THE REFERENCE WITHIN A QUESTION: its scene's row is S, of its staff's row C stands outside what is told -/
def pu_MM (M N : nb_M) (S C : Int → Int) : Prop := nb_Lay N ∧ N.2 = M.2 ∧ N.1 608 = S ∧ N.1 603 11 = 0 ∧ (∀ a, a ≠ 603 → a ≠ 608 → a ≠ 609 → a < 612 → N.1 a = M.1 a) ∧ (∀ i, i ≠ 0 → i ≠ 11 → i ≠ 25 → i ≠ 26 → i ≠ 27 → i ≠ 28 → i ≠ 33 → N.1 603 i = M.1 603 i) ∧ (∀ j, j < 0 ∨ 108 ≤ j → N.1 609 j = M.1 609 j) ∧ (∀ j, j < 0 ∨ 18 ≤ j → N.1 612 j = C j) ∧ ∀ j, j < 0 ∨ 70 ≤ j → N.1 613 j = M.1 613 j
theorem pu_MM_g {M : nb_M} (hL : nb_Lay M) : pu_MM M (nb_wr (nb_wr M 603 0 0) 603 11 0) (M.1 608) (M.1 612) := by
  refine ⟨(hL.wr (fun w => nb_nlit (by decide) (by decide))).wr (fun w => nb_nlit (by decide) (by decide)), rfl, ?_, ?_, fun a h1 h2 h3 h4 => ?_, fun i h0 h11 _ _ _ _ _ => ?_, fun j _ => ?_, fun j _ => ?_, fun j _ => ?_⟩
  · rw [nb_wr_b (by decide), nb_wr_b (by decide)]
  · rw [nb_wr_1, if_pos ⟨rfl, rfl⟩]
  · rw [nb_wr_b h1, nb_wr_b h1]
  · rw [nb_wr_1, if_neg (by omega), nb_wr_1, if_neg (by omega)]
  · rw [nb_wr_b (by decide), nb_wr_b (by decide)]
  · rw [nb_wr_b (by decide), nb_wr_b (by decide)]
  · rw [nb_wr_b (by decide), nb_wr_b (by decide)]
theorem pu_MM.row {M N : nb_M} {S C : Int → Int} (h : pu_MM M N S C) {a : Int} (h1 : a ≠ 603) (h2 : a ≠ 608) (h3 : a ≠ 609) (h4 : a < 612) : N.1 a = M.1 a := h.2.2.2.2.1 a h1 h2 h3 h4
theorem pu_MM.r {M N : nb_M} {S C : Int → Int} (h : pu_MM M N S C) : N.1 606 = M.1 606 := h.row (by decide) (by decide) (by decide) (by decide)
theorem pu_MM.mq {M N : nb_M} {C : Int → Int} (h : pu_MM M N (M.1 608) C) (hC : (0 ≤ C 19 ∧ C 19 ≤ 19) ∧ (0 ≤ C 22 ∧ C 22 ≤ 9) ∧ (0 ≤ C 23 ∧ C 23 ≤ 2)) : pu_MQ M N 0 := by
  obtain ⟨h1, h2, h3, h4, h5, h6, h7, h8, h9⟩ := h
  refine ⟨h1, h2, h4, ?_, fun a p q s => ?_, h6⟩
  · unfold pu_I7
    rw [h8 19 (by decide), h8 22 (by decide), h8 23 (by decide)]
    exact hC
  · by_cases e : a = 608
    · subst e
      exact h3
    · exact h5 a p e q s
/-- fields of the model's own that don't count -/
theorem pu_MM.fld {M N : nb_M} {S C : Int → Int} (h : pu_MM M N S C) {i v : Int} (hi : i = 25 ∨ i = 26 ∨ i = 27 ∨ i = 28 ∨ i = 33) : pu_MM M (nb_wr N 603 i v) S C := by
  obtain ⟨h1, h2, h3, h4, h5, h6, h7, h8, h9⟩ := h
  refine ⟨h1.wr (fun w => by rcases hi with rfl | rfl | rfl | rfl | rfl <;> exact nb_nlit (by decide) (by decide)), h2, ?_, ?_, fun a p q s t => ?_, fun j a b c d e f g => ?_, ?_, ?_, ?_⟩
  · rw [nb_wr_b (by decide)]; exact h3
  · rw [nb_wr_1, if_neg (by omega)]; exact h4
  · rw [nb_wr_b p]; exact h5 a p q s t
  · rw [nb_wr_1, if_neg (by omega)]; exact h6 j a b c d e f g
  · rw [nb_wr_b (by decide)]; exact h7
  · rw [nb_wr_b (by decide)]; exact h8
  · rw [nb_wr_b (by decide)]; exact h9
theorem pu_MM.crew {M N : nb_M} {S C : Int → Int} (h : pu_MM M N S C) {i v : Int} (hi : 0 ≤ i ∧ i < 18) : pu_MM M (nb_wr N 612 i v) S C := by
  obtain ⟨h1, h2, h3, h4, h5, h6, h7, h8, h9⟩ := h
  refine ⟨h1.wr (fun w => nb_nnum (by decide) (by decide)), h2, ?_, ?_, fun a p q s t => ?_, fun j a b c d e f g => ?_, ?_, fun j hj => ?_, ?_⟩
  · rw [nb_wr_b (by decide)]; exact h3
  · rw [nb_wr_1, if_neg (by omega)]; exact h4
  · rw [nb_wr_b (by omega)]; exact h5 a p q s t
  · rw [nb_wr_1, if_neg (by omega)]; exact h6 j a b c d e f g
  · rw [nb_wr_b (by decide)]; exact h7
  · rw [nb_wr_1, if_neg (by omega)]; exact h8 j hj
  · rw [nb_wr_b (by decide)]; exact h9
theorem pu_MM.folk {M N : nb_M} {S C : Int → Int} (h : pu_MM M N S C) {i v : Int} (hi : 0 ≤ i ∧ i < 70) : pu_MM M (nb_wr N 613 i v) S C := by
  obtain ⟨h1, h2, h3, h4, h5, h6, h7, h8, h9⟩ := h
  refine ⟨h1.wr (fun w => nb_nnum (by decide) (by decide)), h2, ?_, ?_, fun a p q s t => ?_, fun j a b c d e f g => ?_, ?_, ?_, fun j hj => ?_⟩
  · rw [nb_wr_b (by decide)]; exact h3
  · rw [nb_wr_1, if_neg (by omega)]; exact h4
  · rw [nb_wr_b (by omega)]; exact h5 a p q s t
  · rw [nb_wr_1, if_neg (by omega)]; exact h6 j a b c d e f g
  · rw [nb_wr_b (by decide)]; exact h7
  · rw [nb_wr_b (by decide)]; exact h8
  · rw [nb_wr_1, if_neg (by omega)]; exact h9 j hj
theorem pu_MM.st {M N : nb_M} {S C : Int → Int} (h : pu_MM M N S C) {i v : Int} : pu_MM M (nb_wr N 608 i v) (nb_ud S i v) C := by
  obtain ⟨h1, h2, h3, h4, h5, h6, h7, h8, h9⟩ := h
  refine ⟨h1.wr (fun w => nb_nrow (Or.inl rfl)), h2, ?_, ?_, fun a p q s t => ?_, fun j a b c d e f g => ?_, ?_, ?_, ?_⟩
  · rw [nb_wr_a, h3]
  · rw [nb_wr_1, if_neg (by omega)]; exact h4
  · rw [nb_wr_b q]; exact h5 a p q s t
  · rw [nb_wr_1, if_neg (by omega)]; exact h6 j a b c d e f g
  · rw [nb_wr_b (by decide)]; exact h7
  · rw [nb_wr_b (by decide)]; exact h8
  · rw [nb_wr_b (by decide)]; exact h9
/-- rows from 614 on don't count -/
theorem pu_MM.far {M N : nb_M} {S C : Int → Int} (h : pu_MM M N S C) {a i v : Int} (ha : 614 ≤ a) : pu_MM M (nb_wr N a i v) S C := by
  obtain ⟨h1, h2, h3, h4, h5, h6, h7, h8, h9⟩ := h
  refine ⟨h1.wr (fun w => fun q => ?_), h2, ?_, ?_, fun b p q s t => ?_, fun j b p c d e f g => ?_, ?_, ?_, ?_⟩
  · rcases q with q | q | ⟨H, hH, q⟩ | ⟨A, hA, q⟩
    · have := nb_rt_rg q
      omega
    · unfold nb_fc at q
      omega
    · unfold nb_hs at hH
      rcases q with q | q | q | q | q | q | ⟨s, q⟩ <;> omega
    · unfold nb_sc at hA
      rcases q with q | q | q | ⟨s, q⟩ <;> omega
  · rw [nb_wr_b (by omega)]; exact h3
  · rw [nb_wr_1, if_neg (by omega)]; exact h4
  · rw [nb_wr_b (by omega)]; exact h5 b p q s t
  · rw [nb_wr_1, if_neg (by omega)]; exact h6 j b p c d e f g
  · rw [nb_wr_b (by omega)]; exact h7
  · rw [nb_wr_b (by omega)]; exact h8
  · rw [nb_wr_b (by omega)]; exact h9
theorem sp_m_asToldQ {M N : nb_M} {S C : Int → Int} (h : pu_MM M N S C) : nb_W 121 0 [(20, 603)] [] N (fun r' N' => r' = [] ∧ pu_MM M N' S C ∧ N'.1 603 25 = M.1 606 4 ∧ (∀ i, i ≠ 25 → N'.1 603 i = N.1 603 i) ∧ N'.1 612 = pu_cpy (M.1 606) C 23 0 18 ∧ N'.1 613 = pu_pea M ∧ ∀ a, 614 ≤ a → N'.1 a = N.1 a) := by
  have h1 := h.1
  have e6 := h.r
  obtain ⟨-, h2, h3, h4, h5, h6, h7, h8, h9⟩ := h
  refine nb_Wp (sp_m_asTold h1) ⟨rfl, ⟨((h1.wr (fun w => nb_nlit (by decide) (by decide))).up (fun i w => nb_nnum (by decide) (by decide))).up (fun i w => nb_nnum (by decide) (by decide)), h2, ?_, ?_, fun a p q s t => ?_, fun j a b c d e f g => ?_, fun j hj => ?_, fun j hj => ?_, fun j hj => ?_⟩, ?_, fun i hi => ?_, ?_, ?_, fun a ha => ?_⟩
  · rw [nb_up_other (by decide), nb_up_other (by decide), nb_wr_b (by decide)]; exact h3
  · rw [nb_up_other (by decide), nb_up_other (by decide), nb_wr_1, if_neg (by omega)]; exact h4
  · rw [nb_up_other (by omega), nb_up_other (by omega), nb_wr_b p]; exact h5 a p q s t
  · rw [nb_up_other (by decide), nb_up_other (by decide), nb_wr_1, if_neg (by omega)]; exact h6 j a b c d e f g
  · rw [nb_up_other (by decide), nb_up_other (by decide), nb_wr_b (by decide)]; exact h7 j hj
  · rw [nb_up_other (by decide), nb_up_same]
    unfold pu_cpy
    rw [if_neg (by omega)]
    exact h8 j hj
  · rw [nb_up_same]
    unfold pu_cpy
    rw [if_neg (by omega)]
    exact h9 j hj
  · rw [nb_up_other (by decide), nb_up_other (by decide), nb_wr_1, if_pos ⟨rfl, rfl⟩, e6]
  · rw [nb_up_other (by decide), nb_up_other (by decide), nb_wr_1, if_neg (by omega)]
  · rw [nb_up_other (by decide), nb_up_same, e6]
    exact pu_cpy_out (fun j hj => h8 j (by omega))
  · rw [nb_up_same, e6]
    exact pu_cpy_out (fun j hj => h9 j (by omega))
  · rw [nb_up_other (by omega), nb_up_other (by omega), nb_wr_b (by omega)]
theorem sp_m_eveningQ {M N : nb_M} {S C cr pe : Int → Int} {ns bell : Int} (h : pu_MM M N S C) (hr : pu_Rr (M.1 606)) (hc : pu_Rc cr) (hp : pu_Rp pe) (hS : pu_Rw S) (hk : pu_Rk S) (e25 : N.1 603 25 = ns) (e26 : N.1 603 26 = bell) (e12 : N.1 612 = cr) (e13 : N.1 613 = pe) (hns : 0 ≤ ns ∧ ns ≤ 4) (hb : 0 ≤ bell ∧ bell ≤ 9000) : nb_W 134 0 [(20, 603)] [] N (fun r' N' => r' = [] ∧ pu_MM M N' S C ∧ N'.1 609 = pu_eve (M.1 606) cr pe ns bell (pu_cpy S (M.1 609) 0 0 108) ∧ ∀ a, a ≠ 609 → N'.1 a = N.1 a) := by
  subst e25 e26 e12 e13
  have h1 := h.1
  have e6 := h.r
  obtain ⟨-, h2, h3, h4, h5, h6, h7, h8, h9⟩ := h
  subst h3
  have ec : pu_cpy (N.1 608) (N.1 609) 0 0 108 = pu_cpy (N.1 608) (M.1 609) 0 0 108 := pu_cpy_out (fun j hj => h7 j (by omega))
  have ho := (pu_eve_ok (g := M.1 609) (pe := N.1 613) hr hc hns hb hS hk).2
  refine nb_Wp (sp_m_evening h1 (by rw [e6]; exact hr) hc hp hS hk hns hb) ?_
  rw [ec, e6]
  refine ⟨rfl, ⟨h1.up (fun i w => nb_nrow (Or.inr rfl)), h2, ?_, ?_, fun a p q s t => ?_, fun j a b c d e f g => ?_, fun j hj => ?_, ?_, ?_⟩, ?_, fun a ha => ?_⟩
  · rw [nb_up_other (by decide)]
  · rw [nb_up_other (by decide)]; exact h4
  · rw [nb_up_other s]; exact h5 a p q s t
  · rw [nb_up_other (by decide)]; exact h6 j a b c d e f g
  · rw [nb_up_same]; exact ho j hj
  · rw [nb_up_other (by decide)]; exact h8
  · rw [nb_up_other (by decide)]; exact h9
  · rw [nb_up_same]
  · rw [nb_up_other ha]
theorem sp_m_sumOfQ {M N : nb_M} {S C pe E : Int → Int} {bell w : Int} {v2 v3 v4 : nb_V} (h : pu_MM M N S C) (hr : pu_Rr (M.1 606)) (hp : pu_Rp pe) (hE : pu_Rw E) (e9 : N.1 609 = E) (e13 : N.1 613 = pe) (e26 : N.1 603 26 = bell) (hb : 0 ≤ bell ∧ bell ≤ 9000) : nb_R nb_P 140 0 [(20, 603), (0, w), v2, v3, v4] [] N = some ([(0, pu_sum (M.1 606) pe E (M.1 606 5) bell w)], N) := by
  have e6 := h.r
  have g := sp_m_sumOf (M := N) (w := w) (v2 := v2) (v3 := v3) (v4 := v4) h.1 (by rw [e6]; exact hr) (by rw [e9]; exact hE) (by rw [e13]; exact hp) (by rw [e26]; exact hb)
  rw [e6, e9, e13, e26] at g
  exact g
theorem pu_cra_CQ {M M1 : nb_M} {tr : Int} (hq : pu_CQ M M1 tr) : pu_cra M1 = pu_cra M ∧ pu_pea M1 = pu_pea M ∧ pu_sta M1 = pu_sta M := by
  unfold pu_cra pu_pea pu_sta
  rw [hq.row (a := 606) (by decide), hq.row (a := 612) (by decide), hq.row (a := 613) (by decide), hq.row (a := 608) (by decide), hq.row (a := 609) (by decide)]
  exact ⟨rfl, rfl, rfl⟩
