/-! CALL: waits; printed by wip/gen/req/p93.py -/
theorem pa_waits (p : Int) : pu_pair 26 [(19, 2), (0, p)] 152 [(20, 603), (0, p)] := by
  apply pu_pair_q
  intro M k hI hk0 hk1
  obtain ⟨Ho, hHo, hx2, hx3, hh, hSn, hT, h14, h7, hL⟩ := pu_I_at hI
  obtain ⟨z1, z2, z3, z4, z5, z6⟩ := pu_ev_rw hI
  have hr := hT.1
  have n5 := hr.2.2.2.2.2.2.1
  have n4 := hr.2.2.2.2.2.1
  have n2 := hr.2.2.2.1
  have h13 := hh.1.2.2.2.2.1
  by_cases hp : 0 ≤ p ∧ p < M.1 606 5
  · rw [if_neg (by omega)] at h14
    obtain ⟨f5, ft⟩ := pu_ev_f5 hI
    have e8 : M.1 (88 + p) 8 = M.1 608 (12 + 8 * p) := by
      have g := hSn.1.2.2.2.2.1 p hp.1 hp.2
      rw [show (84 : Int) + 4 + p = 88 + p by omega] at g
      exact g.2.2.2.2.2.2.2.1
    have f5p := f5 p hp.1 (by omega)
    refine ⟨pu_wo (pu_pea M) (pu_ev M) (M.1 606 2) p, 0, fun h => absurd h (by decide), ?_, fun M1 hq => ?_⟩
    · refine w_c_waits_0 hL hHo hx2 ?_
      rw [h13, e8]
      refine ⟨fun h => absurd h (by omega), fun _ => ⟨n5.1, n5.2, fun _ => ⟨fun h5 hL' => ⟨?_, pu_CQ_no hL'⟩, fun h5 => ?_⟩, fun h => absurd h (by omega)⟩⟩
      · have z := f5p.2 h5
        unfold pu_wo pu_fo
        simp [z]
      refine nb_W.imp (sp_c_evening hI (hL.wr (fun w => nb_nlit (by decide) (by decide))) rfl (fun a i h => nb_rd_other (M := M) h)) ?_
      rintro r' M' ⟨rfl, hf, ⟨hf3, hf8⟩, hS, hX, hIb⟩
      have hq := pu_CQ_fr hf
      have hx2' : M'.1 2 2 = Ho := by
        rw [hf.2.2 2 2 (by omega), nb_wr_1, if_neg (by omega)]
        exact hx2
      have hpe := (pu_pea_rg hT p hp.1 (by omega)).2.2.1
      refine ⟨rfl, hf.1, hx2', ?_⟩
      refine nb_Wp (sp_sc_waitOf hf.1 nb_sc106 n5.2 hp z1 hpe hS hX hf8 (by omega)) ⟨_, rfl, hf.1, hx2', fun _ => ⟨?_, hq⟩⟩
      have hb : pu_hb (pu_pea M) (pu_ev M) (pu_ev M 0) p := hIb.2.2.1.1 p hp.1 hp.2
      have hcb : pu_pea M (7 * p + 2) ≤ M.1 606 2 := by
        rw [pu_pea_eq M (by omega) (by omega)]
        exact hT.2.2.2.2.2.2.2.1 p hp.1 hp.2
      have hb0 := hb.1
      rw [← pu_wo_wc (bell := M.1 606 2) (z1.1 p hp.1 (by omega)).1 hb (fun z => by have := (hb0 z).1; omega) (fun z => h5 (f5p.1 z))]
    · have e603 := hq.row (a := 603) (by decide)
      have e606 := hq.row (a := 606) (by decide)
      have e608 := hq.row (a := 608) (by decide)
      have e609 := hq.row (a := 609) (by decide)
      have e612 := hq.row (a := 612) (by decide)
      have e613 := hq.row (a := 613) (by decide)
      have h7' : pu_I7 M1 := by
        unfold pu_I7
        rw [e612]
        exact h7
      refine w_m_waits_0 hq.1 ?_
      simp only [e603, e606, e608, e609, e612, e613]
      repeat' (first | assumption | with_reducible apply And.intro | intro _)
      all_goals first
        | assumption
        | omega
        | rfl
        | exact pu_MQ_eve h7' (by rw [e612]; exact pu_cpy12) (by assumption)
  · refine ⟨-1, 1, fun h => absurd h (by decide), ?_, fun M1 hq => ?_⟩
    · refine w_c_waits_0 hL hHo hx2 ?_
      rw [h13]
      exact ⟨fun _ hL => ⟨rfl, pu_CQ_no hL⟩, fun _ => ⟨n5.1, n5.2, fun h => absurd h (by omega), fun _ hL => ⟨rfl, pu_CQ_no hL⟩⟩⟩
    · have e603 := hq.row (a := 603) (by decide)
      have e606 := hq.row (a := 606) (by decide)
      have h7' : pu_I7 M1 := by
        unfold pu_I7
        rw [hq.row (a := 612) (by decide)]
        exact h7
      have h14' : M.1 603 14 = 0 ∨ M.1 603 14 = 1 := by
        rw [h14]
        split <;> simp
      refine w_m_waits_0 hq.1 ?_
      simp only [e603, e606]
      refine ⟨by omega, by omega, fun _ hL => ⟨by trivial, pu_MQ_no h7' hL⟩, fun _ => ⟨n5.1, n5.2, fun _ hL => ⟨by trivial, pu_MQ_no h7' hL⟩, fun _ => ⟨fun _ hL => ⟨by trivial, pu_MQ_no h7' hL⟩, fun h => absurd h (by omega)⟩⟩⟩
