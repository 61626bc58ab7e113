/-! CALL: staff -/
def pu_bv (F0 F1 now hn : Int) : Int := (if now < F0 then 1 else 0) + (if hn = 2 ∧ now < F1 then 1 else 0)
def pu_m1 (F now : Int) : Int := if now < F then F else now
def pu_fv (F0 F1 now hn : Int) : Int := if hn = 2 ∧ pu_m1 F1 now < pu_m1 F0 now then pu_m1 F1 now else pu_m1 F0 now
theorem sp_sv_busy {M : nb_M} {v now hn F0 F1 : Int} {v2 v3 : nb_V} (hv : v ≠ 0) (hvf : M.1 v 0 = v + 1) (hvl : nb_ln M (v + 1) = 2) (hv1 : v + 1 ≠ 0) (h6 : M.1 v 6 = hn) (hh : 1 ≤ hn ∧ hn ≤ 2) (f0 : M.1 (v + 1) 0 = F0) (f1 : M.1 (v + 1) 1 = F1) : nb_R nb_P 276 0 [(16, v), (0, now), v2, v3] [] M = some ([(0, pu_bv F0 F1 now hn)], M) := by
  apply nb_Wq
  refine w_sv_busy_0 hv hvf hvl hv1 ?_
  refine w_sv_busy_1 hv hvf hvl hv1 (by omega) (by omega) ⟨fun _ => ⟨fun _ => ?_, fun c => absurd c (by omega)⟩, fun c => absurd c (by omega)⟩
  rw [f0]
  rw [show (0 : Int) + 1 = 1 by rfl]
  have h2 : ∀ b : Int, 0 ≤ b → b ≤ 1 → nb_W 276 1 [(16, v), (0, now), (0, b), (0, 1)] [] M (fun r' M' => r' = [(0, b + (if hn = 2 ∧ now < F1 then 1 else 0))] ∧ M' = M) := by
    intro b b0 b1
    refine w_sv_busy_1 hv hvf hvl hv1 (by omega) (by omega) ⟨fun _ => ⟨fun c => ?_, fun c => ⟨?_, rfl⟩⟩, fun c => absurd c (by omega)⟩
    · rw [f1, show (1 : Int) + 1 = 2 by rfl]
      refine ⟨fun d => ?_, fun d => ?_⟩
      · rw [if_pos (by omega)]
        exact w_sv_busy_1 hv hvf hvl hv1 (by omega) (by omega) ⟨fun e => absurd e (by omega), fun _ => ⟨rfl, rfl⟩⟩
      · rw [if_neg (by omega), Int.add_zero]
        exact w_sv_busy_1 hv hvf hvl hv1 (by omega) (by omega) ⟨fun e => absurd e (by omega), fun _ => ⟨rfl, rfl⟩⟩
    · rw [if_neg (by omega), Int.add_zero]
  unfold pu_bv
  refine ⟨fun d => ?_, fun d => ?_⟩
  · rw [if_pos d]
    exact h2 1 (by omega) (by omega)
  · rw [if_neg (by omega)]
    exact h2 0 (by omega) (by omega)
theorem sp_sv_firstF {M : nb_M} {v now hn F0 F1 : Int} {v2 v3 : nb_V} (hv : v ≠ 0) (hvf : M.1 v 0 = v + 1) (hvl : nb_ln M (v + 1) = 2) (hv1 : v + 1 ≠ 0) (h6 : M.1 v 6 = hn) (hh : 1 ≤ hn ∧ hn ≤ 2) (f0 : M.1 (v + 1) 0 = F0) (f1 : M.1 (v + 1) 1 = F1) (hn1 : now ≤ 10000) (g0 : F0 ≤ 100000) : nb_R nb_P 277 0 [(16, v), (0, now), v2, v3] [] M = some ([(0, pu_fv F0 F1 now hn)], M) := by
  apply nb_Wq
  refine w_sv_firstF_0 hv hvf hvl hv1 ?_
  refine w_sv_firstF_1 hv hvf hvl hv1 (by omega) ⟨fun _ => ⟨fun _ => ?_, fun c => absurd c (by omega)⟩, fun c => absurd c (by omega)⟩
  rw [f0]
  rw [show (0 : Int) + 1 = 1 by rfl]
  have e0 : (if (if now < F0 then F0 else now) < 1000000 then (if now < F0 then F0 else now) else 1000000) = pu_m1 F0 now := by
    unfold pu_m1
    rw [if_pos (by split <;> omega)]
  rw [e0]
  refine w_sv_firstF_1 hv hvf hvl hv1 (by omega) ⟨fun _ => ⟨fun c => ?_, fun c => ⟨?_, rfl⟩⟩, fun c => absurd c (by omega)⟩
  · rw [f1, show (1 : Int) + 1 = 2 by rfl]
    refine w_sv_firstF_1 hv hvf hvl hv1 (by omega) ⟨fun e => absurd e (by omega), fun _ => ⟨?_, rfl⟩⟩
    unfold pu_fv
    by_cases d : pu_m1 F1 now < pu_m1 F0 now
    · rw [if_pos (show hn = 2 ∧ pu_m1 F1 now < pu_m1 F0 now from ⟨by omega, d⟩)]
      unfold pu_m1 at d ⊢
      rw [if_pos d]
    · rw [if_neg (show ¬ (hn = 2 ∧ pu_m1 F1 now < pu_m1 F0 now) from fun z => d z.2)]
      unfold pu_m1 at d ⊢
      rw [if_neg d]
  · unfold pu_fv
    rw [if_neg (by omega)]
/-- the reference's staff() behind its checks -/
def pu_stf (R : Int → Int) (hn s w : Int) : Int := if w = 0 then R (92 + 4 * s) else if w = 1 then pu_bv (R (92 + 4 * s + 1)) (R (92 + 4 * s + 2)) (R 0) hn else pu_fv (R (92 + 4 * s + 1)) (R (92 + 4 * s + 2)) (R 0) hn
theorem sp_m_staff_l {M : nb_M} {R : Int → Int} {hn s w : Int} (W : nb_Lay M) (e8 : M.1 608 = R) (eh : M.1 612 (6 * s + 5) = hn) (hh : 1 ≤ hn ∧ hn ≤ 2) (hs : 0 ≤ s ∧ s ≤ 2) (hR : pu_Rw R) : nb_W 143 9 [(20, 603), (0, s), (0, w), (0, 92 + 4 * s), (0, 0), (0, 1000000), (0, 1)] [] M (fun r' M' => r' = [(0, pu_stf R hn s w)] ∧ M' = M) := by
  obtain ⟨-, ⟨q10, q11⟩, ⟨q20, q21⟩, -⟩ := hR.2.1 s hs.1 (by omega)
  have q0 := hR.2.2.1
  have fin : ∀ (b f i : Int), hn < i → i ≤ 3 → 0 ≤ b → b ≤ 2 → 0 ≤ f → f ≤ 1000000 → b = pu_bv (R (92 + 4 * s + 1)) (R (92 + 4 * s + 2)) (R 0) hn → pu_m1 f (R 0) = pu_fv (R (92 + 4 * s + 1)) (R (92 + 4 * s + 2)) (R 0) hn → nb_W 143 9 [(20, 603), (0, s), (0, w), (0, 92 + 4 * s), (0, b), (0, f), (0, i)] [] M (fun r' M' => r' = [(0, pu_stf R hn s w)] ∧ M' = M) := by
    intro b f i i0 i3 b0 b2 f0 f1 hb hf
    refine w_m_staff_9 W (by omega) (by omega) (by omega) (by omega) (by omega) ⟨by omega, by omega, fun _ => ?_, fun c => absurd c (by omega)⟩
    rw [e8]
    unfold pu_stf
    refine ⟨fun c => ⟨by rw [if_pos c], rfl⟩, fun c => ⟨fun d => ⟨by rw [if_neg c, if_pos d, hb], rfl⟩, fun d => ⟨fun e => ⟨?_, rfl⟩, fun e => ⟨?_, rfl⟩⟩⟩⟩
    · rw [if_neg c, if_neg d, ← hf]
      unfold pu_m1
      rw [if_pos e]
    · rw [if_neg c, if_neg d, ← hf]
      unfold pu_m1
      rw [if_neg (by omega)]
  have two : ∀ (b f : Int), 0 ≤ b → b ≤ 1 → f = R (92 + 4 * s + 1) → b = (if R 0 < R (92 + 4 * s + 1) then 1 else 0) → nb_W 143 9 [(20, 603), (0, s), (0, w), (0, 92 + 4 * s), (0, b), (0, f), (0, 2)] [] M (fun r' M' => r' = [(0, pu_stf R hn s w)] ∧ M' = M) := by
    intro b f b0 b1 hf hb
    by_cases h1 : hn = 1
    · refine fin b f 2 (by omega) (by omega) b0 (by omega) (by omega) (by omega) ?_ ?_
      · unfold pu_bv
        rw [if_neg (show ¬ (hn = 2 ∧ R 0 < R (92 + 4 * s + 2)) by omega), hb, Int.add_zero]
      · unfold pu_fv
        rw [if_neg (show ¬ (hn = 2 ∧ pu_m1 (R (92 + 4 * s + 2)) (R 0) < pu_m1 (R (92 + 4 * s + 1)) (R 0)) by omega), hf]
    · have h2 : hn = 2 := by omega
      refine w_m_staff_9 W (by omega) (by omega) (by omega) (by omega) (by omega) ⟨by omega, by omega, fun c => absurd c (by omega), fun _ => ?_⟩
      rw [e8]
      refine ⟨fun c => ⟨fun d => ?_, fun d => ?_⟩, fun c => ⟨fun d => ?_, fun d => ?_⟩⟩ <;> refine fin _ _ _ (by omega) (by omega) (by omega) (by omega) (by omega) (by omega) ?_ ?_
      all_goals first
        | (unfold pu_bv
           rw [hb]
           (repeat' split) <;> omega)
        | (unfold pu_fv pu_m1
           (repeat' split) <;> omega)
  refine w_m_staff_9 W (by omega) (by omega) (by omega) (by omega) (by omega) ⟨by omega, by omega, fun c => absurd c (by omega), fun _ => ?_⟩
  rw [e8, show (1 : Int) + 1 = 2 by rfl]
  refine ⟨fun c => ⟨fun d => two _ _ (by omega) (by omega) rfl (by rw [if_pos c]; rfl), fun d => absurd d (by omega)⟩, fun c => ⟨fun d => two _ _ (by omega) (by omega) rfl (by rw [if_neg (by omega)]), fun d => absurd d (by omega)⟩⟩
