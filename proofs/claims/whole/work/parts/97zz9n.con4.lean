/-! THE CLASS MADE -/
def zf (M : nb_M) (n : Int) : Prop := ∀ b, n ≤ b → ∀ i, M.1 b i = 0
/-- a house as made -/
def hk (M : nb_M) (H : Int) : Prop := (∀ a i v, nb_fh H a i v → M.1 a i = v) ∧ (∀ i, 9 ≤ i → M.1 H i = 0) ∧ ∀ p, 0 ≤ p → p < 10 → pu_gk (M.1 (H + 20 + p))
theorem nb_fh_rg {H a i v : Int} (h : nb_fh H a i v) : H ≤ a ∧ a < H + 36 := by
  unfold nb_fh at h
  rcases h with h | h | h | h | h | h | ⟨s, h⟩ <;> omega
theorem nb_fs_rg {A a i v : Int} (h : nb_fs A a i v) : A ≤ a ∧ a < A + 22 := by
  unfold nb_fs at h
  rcases h with h | h | h | ⟨s, h⟩ <;> omega
theorem hk.mv {M M' : nb_M} {H : Int} (h : hk M H) (e : ∀ b, H ≤ b → b < H + 36 → M'.1 b = M.1 b) : hk M' H := by
  refine ⟨fun a i v q => ?_, fun i hi => ?_, fun p a b => ?_⟩
  · have r := nb_fh_rg q
    rw [e a r.1 r.2]
    exact h.1 a i v q
  · rw [e H (by omega) (by omega)]
    exact h.2.1 i hi
  · rw [e _ (by omega) (by omega)]
    exact h.2.2 p a b
/-- a scene as made -/
def sk (M : nb_M) (A : Int) : Prop := (∀ a i v, nb_fs A a i v → M.1 a i = v) ∧ M.1 A 3 = 4 ∧ ∀ i, 4 ≤ i → M.1 A i = 0
theorem sk.mv {M M' : nb_M} {A : Int} (h : sk M A) (e : ∀ b, A ≤ b → b < A + 22 → M'.1 b = M.1 b) : sk M' A := by
  refine ⟨fun a i v q => ?_, ?_, fun i hi => ?_⟩
  · have r := nb_fs_rg q
    rw [e a r.1 r.2]
    exact h.1 a i v q
  · rw [e A (by omega) (by omega)]
    exact h.2.1
  · rw [e A (by omega) (by omega)]
    exact h.2.2 i hi
theorem pu_gk_made {g : Int → Int} (h : ∀ i, g i = 0) : pu_gk (cgf g) := ⟨rfl, rfl, rfl, rfl, h 13, h 14⟩
/-- a house made on new ground -/
theorem ci_hk {M : nb_M} {K : List (Nat × Nat)} {H : Int} {v1 : nb_V} (hM : cs M K) (hK : (K.length : Int) = H + 1) (hH : 2 ≤ H) (hz : zf M H) : nb_W 218 0 [(12, H), v1] [] M (fun r M' => r = [] ∧ cs M' (K ++ nb_KH.tail) ∧ (∀ b, (b < H ∨ H + 36 ≤ b) → M'.1 b = M.1 b) ∧ hk M' H) := by
  refine nb_W.imp (ci_h hM hK hH) ?_
  rintro r N ⟨rfl, h1, h2, h3, h4, h5⟩
  refine ⟨rfl, h1, h2, h3, fun i hi => (h4 i hi).trans (hz H (by omega) i), fun p a b => ?_⟩
  rw [h5 p a b]
  exact pu_gk_made (fun i => hz _ (by omega) i)
theorem ci_sk {M : nb_M} {K : List (Nat × Nat)} {A : Int} {v2 : nb_V} (hM : cs M K) (hK : (K.length : Int) = A + 1) (hA : 2 ≤ A) (hz : zf M A) : nb_W 253 0 [(15, A), (12, 4), v2] [] M (fun r M' => r = [] ∧ cs M' (K ++ nb_KS.tail) ∧ (∀ b, (b < A ∨ A + 22 ≤ b) → M'.1 b = M.1 b) ∧ sk M' A) := by
  refine nb_W.imp (ci_sc hM hK hA) ?_
  rintro r N ⟨rfl, h1, h2, h3, h4, h5⟩
  exact ⟨rfl, h1, h2, h3, h4, fun i hi => (h5 i hi).trans (hz A (by omega) i)⟩
def K0 (L : Nat) : List (Nat × Nat) := [(0, 0), (0, L), (16, 18), (1, 1000)]
def cc (L : Nat) : List (Nat × Nat) := K0 L ++ (nb_KH ++ (nb_KH ++ (nb_KA ++ (nb_KS ++ (nb_KS ++ nb_KB)))))
/-- how many scenes -/
def cy : Nat → List (Nat × Nat)
  | 0 => []
  | n + 1 => cy n ++ nb_KS
theorem cy_len : ∀ n, (cy n).length = 22 * n
  | 0 => rfl
  | n + 1 => by
    show (cy n ++ nb_KS).length = _
    rw [List.length_append, cy_len n]
    show 22 * n + 22 = _
    omega
theorem nb_KB_len : nb_KB.length = 145 := by decide +kernel
theorem cc_len (L : Nat) : (cc L).length = 273 := by
  show (K0 L ++ (nb_KH ++ (nb_KH ++ (nb_KA ++ (nb_KS ++ (nb_KS ++ nb_KB)))))).length = 273
  rw [List.length_append, List.length_append, List.length_append, List.length_append, List.length_append, List.length_append, nb_KB_len]
  rfl
/-- the class's cells but for the scenes kept -/
def ck (M : nb_M) : Prop := hk M 4 ∧ hk M 40 ∧ sk M 84 ∧ sk M 106 ∧ (M.1 76 0 = 77 ∧ M.1 76 1 = 81 ∧ M.1 76 2 = 82 ∧ M.1 76 3 = 83) ∧ (M.1 77 0 = 78 ∧ M.1 77 1 = 79 ∧ M.1 77 2 = 80) ∧ (M.1 130 0 = 131 ∧ M.1 130 1 = 132 ∧ M.1 130 2 = 141) ∧ M.1 142 0 = 143 ∧ (∀ i, 0 ≤ i → i < 8 → M.1 132 i = 133 + i) ∧ (∀ i, 0 ≤ i → i < 128 → M.1 144 i = 145 + i) ∧ (∀ i, M.1 141 i = 0) ∧ ∀ i, M.1 2 i = if i = 14 then 144 else if i = 13 then 142 else if i = 12 then 130 else if i = 10 then 129 else if i = 7 then 128 else if i = 6 then 106 else if i = 5 then 84 else if i = 4 then 76 else if i = 3 then 40 else if i = 2 then 4 else if i = 0 then 3 else 0
theorem ck.mv {M M' : nb_M} (h : ck M) (e : ∀ b, 2 ≤ b → b < 273 → b ≠ 128 → b ≠ 129 → M'.1 b = M.1 b) : ck M' := by
  obtain ⟨h1, h2, h3, h4, h5, h6, h7, h8, h9, h10, h11, h12⟩ := h
  refine ⟨h1.mv (fun b x y => e b (by omega) (by omega) (by omega) (by omega)), h2.mv (fun b x y => e b (by omega) (by omega) (by omega) (by omega)), h3.mv (fun b x y => e b (by omega) (by omega) (by omega) (by omega)), h4.mv (fun b x y => e b (by omega) (by omega) (by omega) (by omega)), ?_, ?_, ?_, ?_, ?_, ?_, ?_, ?_⟩
  · rw [e 76 (by decide) (by decide) (by decide) (by decide)]; exact h5
  · rw [e 77 (by decide) (by decide) (by decide) (by decide)]; exact h6
  · rw [e 130 (by decide) (by decide) (by decide) (by decide)]; exact h7
  · rw [e 142 (by decide) (by decide) (by decide) (by decide)]; exact h8
  · rw [e 132 (by decide) (by decide) (by decide) (by decide)]; exact h9
  · rw [e 144 (by decide) (by decide) (by decide) (by decide)]; exact h10
  · rw [e 141 (by decide) (by decide) (by decide) (by decide)]; exact h11
  · rw [e 2 (by decide) (by decide) (by decide) (by decide)]; exact h12
/-- up to the first loop -/
theorem ci_c0 {M : nb_M} {L : Nat} {v1 : nb_V} {Q : List nb_V → nb_M → Prop} (hM : cs M [(0, 0), (0, L), (16, 18)]) (hz : zf M 2) (H : ∀ M', cs M' (cc L) → M'.1 1 = M.1 1 → zf M' 273 → ck M' → (∀ i, M'.1 128 i = 0) → (∀ i, M'.1 129 i = 0) → nb_W 1 31 [(19, 2), (0, 0)] [] M' Q) : nb_W 1 0 [(19, 2), v1] [] M Q := by
  refine nb_Wg (q_c_init_0 (h1 := by decide) ..) (nb_Gp ?_)
  refine nb_Wg (q_c_init_1 (h1 := hM.z) ..) (nb_Gr ?_)
  rw [hM.nx (n := 3) rfl]
  refine nb_Wg (q_c_init_2 (h1 := by decide) ..) (nb_Gr ?_)
  have g1 : cs (nb_wr (nb_al M 1 1000) 2 0 3) (K0 L) := (hM.al rfl).wr
  refine nb_Wg (q_c_init_3 (h1 := g1.z) ..) (nb_Gr ?_)
  rw [g1.nx (n := 4) rfl]
  have g2 : cs (nb_al (nb_wr (nb_al M 1 1000) 2 0 3) 9 16) (K0 L ++ [(9, 16)]) := g1.al rfl
  have k1 : ∀ b, b ≠ 2 → (nb_al (nb_wr (nb_al M 1 1000) 2 0 3) 9 16).1 b = M.1 b := fun b h => by rw [nb_al_1, nb_wr_b h, nb_al_1]
  have r1 : ∀ i, (nb_al (nb_wr (nb_al M 1 1000) 2 0 3) 9 16).1 2 i = if i = 0 then 3 else 0 := fun i => by simp [nb_wr_1, nb_al_1, hz 2 (by decide) i]
  generalize nb_al (nb_wr (nb_al M 1 1000) 2 0 3) 9 16 = M1 at g2 k1 r1 ⊢
  refine nb_Wg (q_c_init_4 (h1 := by decide) ..) (nb_Gb ?_)
  refine nb_W.imp (ci_hk g2 rfl (by decide) (fun b hb i => by rw [k1 b (by omega)]; exact hz b (by omega) i)) ?_
  rintro r M2 ⟨rfl, g3, k2, hk4⟩
  refine nb_Wg (q_c_init_5 (h1 := by decide) ..) (nb_Gr ?_)
  have g4 : cs (nb_wr M2 2 2 4) (K0 L ++ nb_KH) := g3.wr
  refine nb_Wg (q_c_init_6 (h1 := g4.z) ..) (nb_Gr ?_)
  rw [g4.nx (n := 40) rfl]
  have g5 : cs (nb_al (nb_wr M2 2 2 4) 9 16) (K0 L ++ nb_KH ++ [(9, 16)]) := g4.al rfl
  have k3 : ∀ b, b ≠ 2 → (nb_al (nb_wr M2 2 2 4) 9 16).1 b = M2.1 b := fun b h => by rw [nb_al_1, nb_wr_b h]
  have r3 : ∀ i, (nb_al (nb_wr M2 2 2 4) 9 16).1 2 i = if i = 2 then 4 else if i = 0 then 3 else 0 := fun i => by
    have e : M2.1 2 i = if i = 0 then 3 else 0 := by rw [k2 2 (by decide)]; exact r1 i
    simp [nb_wr_1, nb_al_1, e]
  generalize nb_al (nb_wr M2 2 2 4) 9 16 = M3 at g5 k3 r3 ⊢
  refine nb_Wg (q_c_init_7 (h1 := by decide) ..) (nb_Gb ?_)
  refine nb_W.imp (ci_hk g5 rfl (by decide) (fun b hb i => by rw [k3 b (by omega), k2 b (by omega), k1 b (by omega)]; exact hz b (by omega) i)) ?_
  rintro r M4 ⟨rfl, g6, k4, hk40⟩
  refine nb_Wg (q_c_init_8 (h1 := by decide) ..) (nb_Gr ?_)
  have g7 : cs (nb_wr M4 2 3 40) (K0 L ++ nb_KH ++ nb_KH) := g6.wr
  refine nb_Wg (q_c_init_9 (h1 := g7.z) ..) (nb_Gr ?_)
  rw [g7.nx (n := 76) rfl]
  have g8 : cs (nb_al (nb_wr M4 2 3 40) 10 11) (K0 L ++ nb_KH ++ nb_KH ++ [(10, 11)]) := g7.al rfl
  have k5 : ∀ b, b ≠ 2 → (nb_al (nb_wr M4 2 3 40) 10 11).1 b = M4.1 b := fun b h => by rw [nb_al_1, nb_wr_b h]
  have r5 : ∀ i, (nb_al (nb_wr M4 2 3 40) 10 11).1 2 i = if i = 3 then 40 else if i = 2 then 4 else if i = 0 then 3 else 0 := fun i => by
    have e : M4.1 2 i = if i = 2 then 4 else if i = 0 then 3 else 0 := by rw [k4 2 (by decide)]; exact r3 i
    simp [nb_wr_1, nb_al_1, e]
  generalize nb_al (nb_wr M4 2 3 40) 10 11 = M5 at g8 k5 r5 ⊢
  refine nb_Wg (q_c_init_10 (h1 := by decide) (h2 := by decide) ..) (nb_Gb ?_)
  rw [show nb_rd M5 2 3 = 40 from r5 3]
  refine nb_W.imp (ci_rd g8 rfl) ?_
  rintro r M6 ⟨rfl, g9, k6, f76, f77⟩
  refine nb_Wg (q_c_init_11 (h1 := by decide) ..) (nb_Gr ?_)
  have g10 : cs (nb_wr M6 2 4 76) (K0 L ++ nb_KH ++ nb_KH ++ nb_KA) := g9.wr
  refine nb_Wg (q_c_init_12 (h1 := g10.z) ..) (nb_Gr ?_)
  rw [g10.nx (n := 84) rfl]
  have g11 : cs (nb_al (nb_wr M6 2 4 76) 12 9) (K0 L ++ nb_KH ++ nb_KH ++ nb_KA ++ [(12, 9)]) := g10.al rfl
  have k7 : ∀ b, b ≠ 2 → (nb_al (nb_wr M6 2 4 76) 12 9).1 b = M6.1 b := fun b h => by rw [nb_al_1, nb_wr_b h]
  have r7 : ∀ i, (nb_al (nb_wr M6 2 4 76) 12 9).1 2 i = if i = 4 then 76 else if i = 3 then 40 else if i = 2 then 4 else if i = 0 then 3 else 0 := fun i => by
    have e : M6.1 2 i = if i = 3 then 40 else if i = 2 then 4 else if i = 0 then 3 else 0 := by rw [k6 2 (by decide) (by decide)]; exact r5 i
    simp [nb_wr_1, nb_al_1, e]
  generalize nb_al (nb_wr M6 2 4 76) 12 9 = M7 at g11 k7 r7 ⊢
  refine nb_Wg (q_c_init_13 (h1 := by decide) (h2 := by decide) ..) (nb_Gb ?_)
  rw [show nb_rd M7 2 2 = 4 from r7 2]
  refine nb_W.imp (ci_sk g11 rfl (by decide) (fun b hb i => by rw [k7 b (by omega), k6 b (by omega) (by omega), k5 b (by omega), k4 b (by omega), k3 b (by omega), k2 b (by omega), k1 b (by omega)]; exact hz b (by omega) i)) ?_
  rintro r M8 ⟨rfl, g12, k8, sk84⟩
  refine nb_Wg (q_c_init_14 (h1 := by decide) ..) (nb_Gr ?_)
  have g13 : cs (nb_wr M8 2 5 84) (K0 L ++ nb_KH ++ nb_KH ++ nb_KA ++ nb_KS) := g12.wr
  refine nb_Wg (q_c_init_15 (h1 := g13.z) ..) (nb_Gr ?_)
  rw [g13.nx (n := 106) rfl]
  have g14 : cs (nb_al (nb_wr M8 2 5 84) 12 9) (K0 L ++ nb_KH ++ nb_KH ++ nb_KA ++ nb_KS ++ [(12, 9)]) := g13.al rfl
  have k9 : ∀ b, b ≠ 2 → (nb_al (nb_wr M8 2 5 84) 12 9).1 b = M8.1 b := fun b h => by rw [nb_al_1, nb_wr_b h]
  have r9 : ∀ i, (nb_al (nb_wr M8 2 5 84) 12 9).1 2 i = if i = 5 then 84 else if i = 4 then 76 else if i = 3 then 40 else if i = 2 then 4 else if i = 0 then 3 else 0 := fun i => by
    have e : M8.1 2 i = if i = 4 then 76 else if i = 3 then 40 else if i = 2 then 4 else if i = 0 then 3 else 0 := by rw [k8 2 (by decide)]; exact r7 i
    simp [nb_wr_1, nb_al_1, e]
  generalize nb_al (nb_wr M8 2 5 84) 12 9 = M9 at g14 k9 r9 ⊢
  refine nb_Wg (q_c_init_16 (h1 := by decide) (h2 := by decide) ..) (nb_Gb ?_)
  rw [show nb_rd M9 2 2 = 4 from r9 2]
  refine nb_W.imp (ci_sk g14 rfl (by decide) (fun b hb i => by rw [k9 b (by omega), k8 b (by omega), k7 b (by omega), k6 b (by omega) (by omega), k5 b (by omega), k4 b (by omega), k3 b (by omega), k2 b (by omega), k1 b (by omega)]; exact hz b (by omega) i)) ?_
  rintro r M10 ⟨rfl, g15, k10, sk106⟩
  refine nb_Wg (q_c_init_17 (h1 := by decide) ..) (nb_Gr ?_)
  have g16 : cs (nb_wr M10 2 6 106) (K0 L ++ nb_KH ++ nb_KH ++ nb_KA ++ nb_KS ++ nb_KS) := g15.wr
  refine nb_Wg (q_c_init_18 (h1 := g16.z) ..) (nb_Gr ?_)
  rw [g16.nx (n := 128) rfl]
  refine nb_Wg (q_c_init_19 (h1 := by decide) ..) (nb_Gr ?_)
  have g17 : cs (nb_wr (nb_al (nb_wr M10 2 6 106) 6 12) 2 7 128) (K0 L ++ nb_KH ++ nb_KH ++ nb_KA ++ nb_KS ++ nb_KS ++ [(6, 12)]) := (g16.al rfl).wr
  refine nb_Wg (q_c_init_20 (h1 := g17.z) ..) (nb_Gr ?_)
  rw [g17.nx (n := 129) rfl]
  refine nb_Wg (q_c_init_21 (h1 := by decide) ..) (nb_Gr ?_)
  have g18 : cs (nb_wr (nb_al (nb_wr (nb_al (nb_wr M10 2 6 106) 6 12) 2 7 128) 6 3) 2 10 129) (K0 L ++ nb_KH ++ nb_KH ++ nb_KA ++ nb_KS ++ nb_KS ++ [(6, 12), (6, 3)]) := (g17.al rfl).wr
  refine nb_Wg (q_c_init_22 (h1 := g18.z) ..) (nb_Gr ?_)
  rw [g18.nx (n := 130) rfl]
  have g19 : cs (nb_al (nb_wr (nb_al (nb_wr (nb_al (nb_wr M10 2 6 106) 6 12) 2 7 128) 6 3) 2 10 129) 11 4) (K0 L ++ nb_KH ++ nb_KH ++ nb_KA ++ nb_KS ++ nb_KS ++ [(6, 12), (6, 3), (11, 4)]) := g18.al rfl
  have k11 : ∀ b, b ≠ 2 → (nb_al (nb_wr (nb_al (nb_wr (nb_al (nb_wr M10 2 6 106) 6 12) 2 7 128) 6 3) 2 10 129) 11 4).1 b = M10.1 b := fun b h => by rw [nb_al_1, nb_wr_b h, nb_al_1, nb_wr_b h, nb_al_1, nb_wr_b h]
  have r11 : ∀ i, (nb_al (nb_wr (nb_al (nb_wr (nb_al (nb_wr M10 2 6 106) 6 12) 2 7 128) 6 3) 2 10 129) 11 4).1 2 i = if i = 10 then 129 else if i = 7 then 128 else if i = 6 then 106 else if i = 5 then 84 else if i = 4 then 76 else if i = 3 then 40 else if i = 2 then 4 else if i = 0 then 3 else 0 := fun i => by
    have e : M10.1 2 i = if i = 5 then 84 else if i = 4 then 76 else if i = 3 then 40 else if i = 2 then 4 else if i = 0 then 3 else 0 := by rw [k10 2 (by decide)]; exact r9 i
    simp [nb_wr_1, nb_al_1, e]
  generalize nb_al (nb_wr (nb_al (nb_wr (nb_al (nb_wr M10 2 6 106) 6 12) 2 7 128) 6 3) 2 10 129) 11 4 = M11 at g19 k11 r11 ⊢
  refine nb_Wg (q_c_init_23 (h1 := by decide) ..) (nb_Gb ?_)
  refine nb_W.imp (ci_rw g19 rfl) ?_
  rintro r M12 ⟨rfl, g20, k12, f130, f132⟩
  refine nb_Wg (q_c_init_24 (h1 := by decide) ..) (nb_Gr ?_)
  have g21 : cs (nb_wr M12 2 12 130) (K0 L ++ nb_KH ++ nb_KH ++ nb_KA ++ nb_KS ++ nb_KS ++ [(6, 12), (6, 3), (11, 4)] ++ ([(0, 7), (7, 8)] ++ List.replicate 8 (0, 7) ++ [(0, 1024)])) := g20.wr
  refine nb_Wg (q_c_init_25 (h1 := g21.z) ..) (nb_Gr ?_)
  rw [g21.nx (n := 142) rfl]
  have g22 : cs (nb_al (nb_wr M12 2 12 130) 14 1) (K0 L ++ nb_KH ++ nb_KH ++ nb_KA ++ nb_KS ++ nb_KS ++ [(6, 12), (6, 3), (11, 4)] ++ ([(0, 7), (7, 8)] ++ List.replicate 8 (0, 7) ++ [(0, 1024)]) ++ [(14, 1)]) := g21.al rfl
  have k13 : ∀ b, b ≠ 2 → (nb_al (nb_wr M12 2 12 130) 14 1).1 b = M12.1 b := fun b h => by rw [nb_al_1, nb_wr_b h]
  have r13 : ∀ i, (nb_al (nb_wr M12 2 12 130) 14 1).1 2 i = if i = 12 then 130 else if i = 10 then 129 else if i = 7 then 128 else if i = 6 then 106 else if i = 5 then 84 else if i = 4 then 76 else if i = 3 then 40 else if i = 2 then 4 else if i = 0 then 3 else 0 := fun i => by
    have e : M12.1 2 i = if i = 10 then 129 else if i = 7 then 128 else if i = 6 then 106 else if i = 5 then 84 else if i = 4 then 76 else if i = 3 then 40 else if i = 2 then 4 else if i = 0 then 3 else 0 := by rw [k12 2 (by decide) (by decide)]; exact r11 i
    simp [nb_wr_1, nb_al_1, e]
  generalize nb_al (nb_wr M12 2 12 130) 14 1 = M13 at g22 k13 r13 ⊢
  refine nb_Wg (q_c_init_26 (h1 := by decide) ..) (nb_Gb ?_)
  refine nb_W.imp (ci_tl g22 rfl) ?_
  rintro r M14 ⟨rfl, g23, k14, f142⟩
  refine nb_Wg (q_c_init_27 (h1 := by decide) ..) (nb_Gr ?_)
  have g24 : cs (nb_wr M14 2 13 142) (K0 L ++ nb_KH ++ nb_KH ++ nb_KA ++ nb_KS ++ nb_KS ++ [(6, 12), (6, 3), (11, 4)] ++ ([(0, 7), (7, 8)] ++ List.replicate 8 (0, 7) ++ [(0, 1024)]) ++ [(14, 1)] ++ [(0, 10)]) := g23.wr
  refine nb_Wg (q_c_init_28 (h1 := g24.z) ..) (nb_Gr ?_)
  have n15 : nb_nx (nb_wr M14 2 13 142) = 144 := g24.nx rfl
  rw [n15]
  refine nb_Wg (q_c_init_29 (h1 := by decide) ..) (nb_Gr ?_)
  have g25 : cs (nb_wr (nb_alm (nb_wr M14 2 13 142) 128 7) 2 14 144) (cc L) := (g24.alm rfl).wr
  have k15 : ∀ b, b ≠ 2 → b ≠ 144 → (nb_wr (nb_alm (nb_wr M14 2 13 142) 128 7) 2 14 144).1 b = M14.1 b := fun b h h2 => by
    rw [nb_wr_b h]
    show (fun i => if b = nb_nx (nb_wr M14 2 13 142) ∧ 0 ≤ i ∧ i < ((128 : Nat) : Int) then nb_nx (nb_wr M14 2 13 142) + 1 + i else (nb_wr M14 2 13 142).1 b i) = M14.1 b
    funext i
    rw [n15, if_neg (by omega), nb_wr_b h]
  have r15 : ∀ i, 0 ≤ i → i < 128 → (nb_wr (nb_alm (nb_wr M14 2 13 142) 128 7) 2 14 144).1 144 i = 145 + i := fun i i0 i1 => by
    rw [nb_wr_b (by decide)]
    show (if (144 : Int) = nb_nx (nb_wr M14 2 13 142) ∧ 0 ≤ i ∧ i < ((128 : Nat) : Int) then nb_nx (nb_wr M14 2 13 142) + 1 + i else (nb_wr M14 2 13 142).1 144 i) = _
    rw [n15, if_pos ⟨rfl, i0, by omega⟩]
    omega
  have a15 : ∀ i, (nb_wr (nb_alm (nb_wr M14 2 13 142) 128 7) 2 14 144).1 2 i = if i = 14 then 144 else if i = 13 then 142 else if i = 12 then 130 else if i = 10 then 129 else if i = 7 then 128 else if i = 6 then 106 else if i = 5 then 84 else if i = 4 then 76 else if i = 3 then 40 else if i = 2 then 4 else if i = 0 then 3 else 0 := fun i => by
    have e : M14.1 2 i = if i = 12 then 130 else if i = 10 then 129 else if i = 7 then 128 else if i = 6 then 106 else if i = 5 then 84 else if i = 4 then 76 else if i = 3 then 40 else if i = 2 then 4 else if i = 0 then 3 else 0 := by rw [k14 2 (by decide)]; exact r13 i
    rw [nb_wr_1]
    by_cases c : i = 14
    · rw [if_pos ⟨rfl, c⟩, if_pos c]
    · rw [if_neg (by omega), if_neg c]
      show (if (2 : Int) = nb_nx (nb_wr M14 2 13 142) ∧ 0 ≤ i ∧ i < ((128 : Nat) : Int) then nb_nx (nb_wr M14 2 13 142) + 1 + i else (nb_wr M14 2 13 142).1 2 i) = _
      rw [n15, if_neg (by omega), nb_wr_1]
      by_cases c2 : i = 13
      · rw [if_pos ⟨rfl, c2⟩, if_pos c2]
      · rw [if_neg (by omega), if_neg c2, e]
  generalize nb_wr (nb_alm (nb_wr M14 2 13 142) 128 7) 2 14 144 = M15 at g25 k15 r15 a15 ⊢
  refine nb_Wg (q_c_init_30 ..) (nb_Gr ?_)
  have z15 : ∀ b, 2 < b → (128 ≤ b ∧ b < 130 ∨ b = 141 ∨ 273 ≤ b) → ∀ i, M15.1 b i = 0 := fun b h x i => by
    rw [k15 b (by omega) (by omega), k14 b (by omega), k13 b (by omega), k12 b (by omega) (by omega), k11 b (by omega), k10 b (by omega), k9 b (by omega), k8 b (by omega), k7 b (by omega), k6 b (by omega) (by omega), k5 b (by omega), k4 b (by omega), k3 b (by omega), k2 b (by omega), k1 b (by omega)]
    exact hz b (by omega) i
  refine H M15 g25 ?_ (fun b hb i => z15 b (by omega) (by omega) i) ⟨?_, ?_, ?_, ?_, ?_, ?_, ?_, ?_, fun i i0 i1 => ?_, r15, z15 141 (by decide) (by decide), a15⟩ (z15 128 (by decide) (by decide)) (z15 129 (by decide) (by decide))
  · rw [k15 1 (by decide) (by decide), k14 1 (by decide), k13 1 (by decide), k12 1 (by decide) (by decide), k11 1 (by decide), k10 1 (by decide), k9 1 (by decide), k8 1 (by decide), k7 1 (by decide), k6 1 (by decide) (by decide), k5 1 (by decide), k4 1 (by decide), k3 1 (by decide), k2 1 (by decide), k1 1 (by decide)]
  · exact hk4.mv (fun b x y => by rw [k15 b (by omega) (by omega), k14 b (by omega), k13 b (by omega), k12 b (by omega) (by omega), k11 b (by omega), k10 b (by omega), k9 b (by omega), k8 b (by omega), k7 b (by omega), k6 b (by omega) (by omega), k5 b (by omega), k4 b (by omega), k3 b (by omega)])
  · exact hk40.mv (fun b x y => by rw [k15 b (by omega) (by omega), k14 b (by omega), k13 b (by omega), k12 b (by omega) (by omega), k11 b (by omega), k10 b (by omega), k9 b (by omega), k8 b (by omega), k7 b (by omega), k6 b (by omega) (by omega), k5 b (by omega)])
  · exact sk84.mv (fun b x y => by rw [k15 b (by omega) (by omega), k14 b (by omega), k13 b (by omega), k12 b (by omega) (by omega), k11 b (by omega), k10 b (by omega), k9 b (by omega)])
  · exact sk106.mv (fun b x y => by rw [k15 b (by omega) (by omega), k14 b (by omega), k13 b (by omega), k12 b (by omega) (by omega), k11 b (by omega)])
  · rw [k15 76 (by decide) (by decide), k14 76 (by decide), k13 76 (by decide), k12 76 (by decide) (by decide), k11 76 (by decide), k10 76 (by decide), k9 76 (by decide), k8 76 (by decide), k7 76 (by decide)]
    exact ⟨f76 0, f76 1, f76 2, f76 3⟩
  · rw [k15 77 (by decide) (by decide), k14 77 (by decide), k13 77 (by decide), k12 77 (by decide) (by decide), k11 77 (by decide), k10 77 (by decide), k9 77 (by decide), k8 77 (by decide), k7 77 (by decide)]
    exact ⟨f77 0, f77 1, f77 2⟩
  · rw [k15 130 (by decide) (by decide), k14 130 (by decide), k13 130 (by decide)]
    exact ⟨f130 0, f130 1, f130 2⟩
  · rw [k15 142 (by decide) (by decide)]
    exact f142 0
  · rw [k15 132 (by decide) (by decide), k14 132 (by decide), k13 132 (by decide)]
    exact f132 i i0 i1
