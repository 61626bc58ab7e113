/-! THE SMALL CONSTRUCTORS; printed by wip/gen/req/gencon.py -/
theorem ci_tk {M : nb_M} {K : List (Nat × Nat)} (hM : cs M K) (hK : (K.length : Int) = 78) : nb_W 283 0 [(18, 77)] [] M (fun r M' => r = [] ∧ cs M' (K ++ [(0, 1001), (0, 1001), (2, 1001)]) ∧ (∀ b, b ≠ 77 → M'.1 b = M.1 b) ∧ (∀ i, M'.1 77 i = if i = 2 then 80 else if i = 1 then 79 else if i = 0 then 78 else M.1 77 i)) := by
  refine nb_Wg (q_tk_init_0 (h1 := by decide) ..) (nb_Gp ?_)
  refine nb_Wg (q_tk_init_1 (h1 := hM.z) ..) (nb_Gr ?_)
  rw [hM.nx (n := 78) (by first | exact hK | (simp; omega) | omega)]
  have g1 : cs (nb_al M 0 1001) (K ++ [(0, 1001)]) := hM.al (by simp)
  refine nb_Wg (q_tk_init_2 (h1 := by decide) ..) (nb_Gr ?_)
  replace g1 : cs (nb_wr (nb_al M 0 1001) 77 0 78) (K ++ [(0, 1001)]) := g1.wr
  refine nb_Wg (q_tk_init_3 (h1 := g1.z) ..) (nb_Gr ?_)
  rw [g1.nx (n := 79) (by first | exact hK | (simp; omega) | omega)]
  have g2 : cs (nb_al (nb_wr (nb_al M 0 1001) 77 0 78) 0 1001) (K ++ [(0, 1001), (0, 1001)]) := g1.al (by simp)
  refine nb_Wg (q_tk_init_4 (h1 := by decide) ..) (nb_Gr ?_)
  replace g2 : cs (nb_wr (nb_al (nb_wr (nb_al M 0 1001) 77 0 78) 0 1001) 77 1 79) (K ++ [(0, 1001), (0, 1001)]) := g2.wr
  refine nb_Wg (q_tk_init_5 (h1 := g2.z) ..) (nb_Gr ?_)
  rw [g2.nx (n := 80) (by first | exact hK | (simp; omega) | omega)]
  have g3 : cs (nb_al (nb_wr (nb_al (nb_wr (nb_al M 0 1001) 77 0 78) 0 1001) 77 1 79) 2 1001) (K ++ [(0, 1001), (0, 1001), (2, 1001)]) := g2.al (by simp)
  refine nb_Wg (q_tk_init_6 (h1 := by decide) ..) (nb_Gr ?_)
  replace g3 : cs (nb_wr (nb_al (nb_wr (nb_al (nb_wr (nb_al M 0 1001) 77 0 78) 0 1001) 77 1 79) 2 1001) 77 2 80) (K ++ [(0, 1001), (0, 1001), (2, 1001)]) := g3.wr
  refine nb_Wg (q_tk_init_7 ..) (nb_Gs ⟨rfl, g3, ?_⟩)
  exact ⟨fun b h => by simp only [nb_wr_b h, nb_al_1], fun i => by simp [nb_wr_1, nb_al_1]⟩
theorem ci_tl {M : nb_M} {K : List (Nat × Nat)} (hM : cs M K) (hK : (K.length : Int) = 143) : nb_W 279 0 [(17, 142)] [] M (fun r M' => r = [] ∧ cs M' (K ++ [(0, 10)]) ∧ (∀ b, b ≠ 142 → M'.1 b = M.1 b) ∧ (∀ i, M'.1 142 i = if i = 0 then 143 else M.1 142 i)) := by
  refine nb_Wg (q_tl_init_0 (h1 := by decide) ..) (nb_Gp ?_)
  refine nb_Wg (q_tl_init_1 (h1 := hM.z) ..) (nb_Gr ?_)
  rw [hM.nx (n := 143) (by first | exact hK | (simp; omega) | omega)]
  have g1 : cs (nb_al M 0 10) (K ++ [(0, 10)]) := hM.al (by simp)
  refine nb_Wg (q_tl_init_2 (h1 := by decide) ..) (nb_Gr ?_)
  replace g1 : cs (nb_wr (nb_al M 0 10) 142 0 143) (K ++ [(0, 10)]) := g1.wr
  refine nb_Wg (q_tl_init_3 ..) (nb_Gs ⟨rfl, g1, ?_⟩)
  exact ⟨fun b h => by simp only [nb_wr_b h, nb_al_1], fun i => by simp [nb_wr_1, nb_al_1]⟩
theorem ci_m {M : nb_M} {K : List (Nat × Nat)} (hM : cs M K) (hK : (K.length : Int) = 604) : nb_W 77 0 [(20, 603)] [] M (fun r M' => r = [] ∧ cs M' (K ++ [(0, 1000), (0, 8), (0, 347), (0, 347), (0, 108), (0, 108), (0, 1296), (0, 324), (0, 24), (0, 70), (0, 108), (0, 10), (0, 7), (0, 7), (3, 100)]) ∧ (∀ b, b ≠ 603 → M'.1 b = M.1 b) ∧ (∀ i, M'.1 603 i = if i = 34 then 618 else if i = 32 then 617 else if i = 31 then 616 else if i = 30 then 615 else if i = 29 then 614 else if i = 24 then 613 else if i = 23 then 612 else if i = 20 then 611 else if i = 19 then 610 else if i = 18 then 609 else if i = 17 then 608 else if i = 16 then 607 else if i = 15 then 606 else if i = 12 then 605 else if i = 10 then -1 else if i = 1 then 604 else M.1 603 i)) := by
  refine nb_Wg (q_m_init_0 (h1 := by decide) ..) (nb_Gp ?_)
  refine nb_Wg (q_m_init_1 (h1 := hM.z) ..) (nb_Gr ?_)
  rw [hM.nx (n := 604) (by first | exact hK | (simp; omega) | omega)]
  have g1 : cs (nb_al M 0 1000) (K ++ [(0, 1000)]) := hM.al (by simp)
  refine nb_Wg (q_m_init_2 (h1 := by decide) ..) (nb_Gr ?_)
  replace g1 : cs (nb_wr (nb_al M 0 1000) 603 1 604) (K ++ [(0, 1000)]) := g1.wr
  refine nb_Wg (q_m_init_3 (h1 := by decide) ..) (nb_Gr ?_)
  replace g1 : cs (nb_wr (nb_wr (nb_al M 0 1000) 603 1 604) 603 10 (-1)) (K ++ [(0, 1000)]) := g1.wr
  refine nb_Wg (q_m_init_4 (h1 := g1.z) ..) (nb_Gr ?_)
  rw [g1.nx (n := 605) (by first | exact hK | (simp; omega) | omega)]
  have g2 : cs (nb_al (nb_wr (nb_wr (nb_al M 0 1000) 603 1 604) 603 10 (-1)) 0 8) (K ++ [(0, 1000), (0, 8)]) := g1.al (by simp)
  refine nb_Wg (q_m_init_5 (h1 := by decide) ..) (nb_Gr ?_)
  replace g2 : cs (nb_wr (nb_al (nb_wr (nb_wr (nb_al M 0 1000) 603 1 604) 603 10 (-1)) 0 8) 603 12 605) (K ++ [(0, 1000), (0, 8)]) := g2.wr
  refine nb_Wg (q_m_init_6 (h1 := g2.z) ..) (nb_Gr ?_)
  rw [g2.nx (n := 606) (by first | exact hK | (simp; omega) | omega)]
  have g3 : cs (nb_al (nb_wr (nb_al (nb_wr (nb_wr (nb_al M 0 1000) 603 1 604) 603 10 (-1)) 0 8) 603 12 605) 0 347) (K ++ [(0, 1000), (0, 8), (0, 347)]) := g2.al (by simp)
  refine nb_Wg (q_m_init_7 (h1 := by decide) ..) (nb_Gr ?_)
  replace g3 : cs (nb_wr (nb_al (nb_wr (nb_al (nb_wr (nb_wr (nb_al M 0 1000) 603 1 604) 603 10 (-1)) 0 8) 603 12 605) 0 347) 603 15 606) (K ++ [(0, 1000), (0, 8), (0, 347)]) := g3.wr
  refine nb_Wg (q_m_init_8 (h1 := g3.z) ..) (nb_Gr ?_)
  rw [g3.nx (n := 607) (by first | exact hK | (simp; omega) | omega)]
  have g4 : cs (nb_al (nb_wr (nb_al (nb_wr (nb_al (nb_wr (nb_wr (nb_al M 0 1000) 603 1 604) 603 10 (-1)) 0 8) 603 12 605) 0 347) 603 15 606) 0 347) (K ++ [(0, 1000), (0, 8), (0, 347), (0, 347)]) := g3.al (by simp)
  refine nb_Wg (q_m_init_9 (h1 := by decide) ..) (nb_Gr ?_)
  replace g4 : cs (nb_wr (nb_al (nb_wr (nb_al (nb_wr (nb_al (nb_wr (nb_wr (nb_al M 0 1000) 603 1 604) 603 10 (-1)) 0 8) 603 12 605) 0 347) 603 15 606) 0 347) 603 16 607) (K ++ [(0, 1000), (0, 8), (0, 347), (0, 347)]) := g4.wr
  refine nb_Wg (q_m_init_10 (h1 := g4.z) ..) (nb_Gr ?_)
  rw [g4.nx (n := 608) (by first | exact hK | (simp; omega) | omega)]
  have g5 : cs (nb_al (nb_wr (nb_al (nb_wr (nb_al (nb_wr (nb_al (nb_wr (nb_wr (nb_al M 0 1000) 603 1 604) 603 10 (-1)) 0 8) 603 12 605) 0 347) 603 15 606) 0 347) 603 16 607) 0 108) (K ++ [(0, 1000), (0, 8), (0, 347), (0, 347), (0, 108)]) := g4.al (by simp)
  refine nb_Wg (q_m_init_11 (h1 := by decide) ..) (nb_Gr ?_)
  replace g5 : cs (nb_wr (nb_al (nb_wr (nb_al (nb_wr (nb_al (nb_wr (nb_al (nb_wr (nb_wr (nb_al M 0 1000) 603 1 604) 603 10 (-1)) 0 8) 603 12 605) 0 347) 603 15 606) 0 347) 603 16 607) 0 108) 603 17 608) (K ++ [(0, 1000), (0, 8), (0, 347), (0, 347), (0, 108)]) := g5.wr
  refine nb_Wg (q_m_init_12 (h1 := g5.z) ..) (nb_Gr ?_)
  rw [g5.nx (n := 609) (by first | exact hK | (simp; omega) | omega)]
  have g6 : cs (nb_al (nb_wr (nb_al (nb_wr (nb_al (nb_wr (nb_al (nb_wr (nb_al (nb_wr (nb_wr (nb_al M 0 1000) 603 1 604) 603 10 (-1)) 0 8) 603 12 605) 0 347) 603 15 606) 0 347) 603 16 607) 0 108) 603 17 608) 0 108) (K ++ [(0, 1000), (0, 8), (0, 347), (0, 347), (0, 108), (0, 108)]) := g5.al (by simp)
  refine nb_Wg (q_m_init_13 (h1 := by decide) ..) (nb_Gr ?_)
  replace g6 : cs (nb_wr (nb_al (nb_wr (nb_al (nb_wr (nb_al (nb_wr (nb_al (nb_wr (nb_al (nb_wr (nb_wr (nb_al M 0 1000) 603 1 604) 603 10 (-1)) 0 8) 603 12 605) 0 347) 603 15 606) 0 347) 603 16 607) 0 108) 603 17 608) 0 108) 603 18 609) (K ++ [(0, 1000), (0, 8), (0, 347), (0, 347), (0, 108), (0, 108)]) := g6.wr
  refine nb_Wg (q_m_init_14 (h1 := g6.z) ..) (nb_Gr ?_)
  rw [g6.nx (n := 610) (by first | exact hK | (simp; omega) | omega)]
  have g7 : cs (nb_al (nb_wr (nb_al (nb_wr (nb_al (nb_wr (nb_al (nb_wr (nb_al (nb_wr (nb_al (nb_wr (nb_wr (nb_al M 0 1000) 603 1 604) 603 10 (-1)) 0 8) 603 12 605) 0 347) 603 15 606) 0 347) 603 16 607) 0 108) 603 17 608) 0 108) 603 18 609) 0 1296) (K ++ [(0, 1000), (0, 8), (0, 347), (0, 347), (0, 108), (0, 108), (0, 1296)]) := g6.al (by simp)
  refine nb_Wg (q_m_init_15 (h1 := by decide) ..) (nb_Gr ?_)
  replace g7 : cs (nb_wr (nb_al (nb_wr (nb_al (nb_wr (nb_al (nb_wr (nb_al (nb_wr (nb_al (nb_wr (nb_al (nb_wr (nb_wr (nb_al M 0 1000) 603 1 604) 603 10 (-1)) 0 8) 603 12 605) 0 347) 603 15 606) 0 347) 603 16 607) 0 108) 603 17 608) 0 108) 603 18 609) 0 1296) 603 19 610) (K ++ [(0, 1000), (0, 8), (0, 347), (0, 347), (0, 108), (0, 108), (0, 1296)]) := g7.wr
  refine nb_Wg (q_m_init_16 (h1 := g7.z) ..) (nb_Gr ?_)
  rw [g7.nx (n := 611) (by first | exact hK | (simp; omega) | omega)]
  have g8 : cs (nb_al (nb_wr (nb_al (nb_wr (nb_al (nb_wr (nb_al (nb_wr (nb_al (nb_wr (nb_al (nb_wr (nb_al (nb_wr (nb_wr (nb_al M 0 1000) 603 1 604) 603 10 (-1)) 0 8) 603 12 605) 0 347) 603 15 606) 0 347) 603 16 607) 0 108) 603 17 608) 0 108) 603 18 609) 0 1296) 603 19 610) 0 324) (K ++ [(0, 1000), (0, 8), (0, 347), (0, 347), (0, 108), (0, 108), (0, 1296), (0, 324)]) := g7.al (by simp)
  refine nb_Wg (q_m_init_17 (h1 := by decide) ..) (nb_Gr ?_)
  replace g8 : cs (nb_wr (nb_al (nb_wr (nb_al (nb_wr (nb_al (nb_wr (nb_al (nb_wr (nb_al (nb_wr (nb_al (nb_wr (nb_al (nb_wr (nb_wr (nb_al M 0 1000) 603 1 604) 603 10 (-1)) 0 8) 603 12 605) 0 347) 603 15 606) 0 347) 603 16 607) 0 108) 603 17 608) 0 108) 603 18 609) 0 1296) 603 19 610) 0 324) 603 20 611) (K ++ [(0, 1000), (0, 8), (0, 347), (0, 347), (0, 108), (0, 108), (0, 1296), (0, 324)]) := g8.wr
  refine nb_Wg (q_m_init_18 (h1 := g8.z) ..) (nb_Gr ?_)
  rw [g8.nx (n := 612) (by first | exact hK | (simp; omega) | omega)]
  have g9 : cs (nb_al (nb_wr (nb_al (nb_wr (nb_al (nb_wr (nb_al (nb_wr (nb_al (nb_wr (nb_al (nb_wr (nb_al (nb_wr (nb_al (nb_wr (nb_wr (nb_al M 0 1000) 603 1 604) 603 10 (-1)) 0 8) 603 12 605) 0 347) 603 15 606) 0 347) 603 16 607) 0 108) 603 17 608) 0 108) 603 18 609) 0 1296) 603 19 610) 0 324) 603 20 611) 0 24) (K ++ [(0, 1000), (0, 8), (0, 347), (0, 347), (0, 108), (0, 108), (0, 1296), (0, 324), (0, 24)]) := g8.al (by simp)
  refine nb_Wg (q_m_init_19 (h1 := by decide) ..) (nb_Gr ?_)
  replace g9 : cs (nb_wr (nb_al (nb_wr (nb_al (nb_wr (nb_al (nb_wr (nb_al (nb_wr (nb_al (nb_wr (nb_al (nb_wr (nb_al (nb_wr (nb_al (nb_wr (nb_wr (nb_al M 0 1000) 603 1 604) 603 10 (-1)) 0 8) 603 12 605) 0 347) 603 15 606) 0 347) 603 16 607) 0 108) 603 17 608) 0 108) 603 18 609) 0 1296) 603 19 610) 0 324) 603 20 611) 0 24) 603 23 612) (K ++ [(0, 1000), (0, 8), (0, 347), (0, 347), (0, 108), (0, 108), (0, 1296), (0, 324), (0, 24)]) := g9.wr
  refine nb_Wg (q_m_init_20 (h1 := g9.z) ..) (nb_Gr ?_)
  rw [g9.nx (n := 613) (by first | exact hK | (simp; omega) | omega)]
  have g10 : cs (nb_al (nb_wr (nb_al (nb_wr (nb_al (nb_wr (nb_al (nb_wr (nb_al (nb_wr (nb_al (nb_wr (nb_al (nb_wr (nb_al (nb_wr (nb_al (nb_wr (nb_wr (nb_al M 0 1000) 603 1 604) 603 10 (-1)) 0 8) 603 12 605) 0 347) 603 15 606) 0 347) 603 16 607) 0 108) 603 17 608) 0 108) 603 18 609) 0 1296) 603 19 610) 0 324) 603 20 611) 0 24) 603 23 612) 0 70) (K ++ [(0, 1000), (0, 8), (0, 347), (0, 347), (0, 108), (0, 108), (0, 1296), (0, 324), (0, 24), (0, 70)]) := g9.al (by simp)
  refine nb_Wg (q_m_init_21 (h1 := by decide) ..) (nb_Gr ?_)
  replace g10 : cs (nb_wr (nb_al (nb_wr (nb_al (nb_wr (nb_al (nb_wr (nb_al (nb_wr (nb_al (nb_wr (nb_al (nb_wr (nb_al (nb_wr (nb_al (nb_wr (nb_al (nb_wr (nb_wr (nb_al M 0 1000) 603 1 604) 603 10 (-1)) 0 8) 603 12 605) 0 347) 603 15 606) 0 347) 603 16 607) 0 108) 603 17 608) 0 108) 603 18 609) 0 1296) 603 19 610) 0 324) 603 20 611) 0 24) 603 23 612) 0 70) 603 24 613) (K ++ [(0, 1000), (0, 8), (0, 347), (0, 347), (0, 108), (0, 108), (0, 1296), (0, 324), (0, 24), (0, 70)]) := g10.wr
  refine nb_Wg (q_m_init_22 (h1 := g10.z) ..) (nb_Gr ?_)
  rw [g10.nx (n := 614) (by first | exact hK | (simp; omega) | omega)]
  have g11 : cs (nb_al (nb_wr (nb_al (nb_wr (nb_al (nb_wr (nb_al (nb_wr (nb_al (nb_wr (nb_al (nb_wr (nb_al (nb_wr (nb_al (nb_wr (nb_al (nb_wr (nb_al (nb_wr (nb_wr (nb_al M 0 1000) 603 1 604) 603 10 (-1)) 0 8) 603 12 605) 0 347) 603 15 606) 0 347) 603 16 607) 0 108) 603 17 608) 0 108) 603 18 609) 0 1296) 603 19 610) 0 324) 603 20 611) 0 24) 603 23 612) 0 70) 603 24 613) 0 108) (K ++ [(0, 1000), (0, 8), (0, 347), (0, 347), (0, 108), (0, 108), (0, 1296), (0, 324), (0, 24), (0, 70), (0, 108)]) := g10.al (by simp)
  refine nb_Wg (q_m_init_23 (h1 := by decide) ..) (nb_Gr ?_)
  replace g11 : cs (nb_wr (nb_al (nb_wr (nb_al (nb_wr (nb_al (nb_wr (nb_al (nb_wr (nb_al (nb_wr (nb_al (nb_wr (nb_al (nb_wr (nb_al (nb_wr (nb_al (nb_wr (nb_al (nb_wr (nb_wr (nb_al M 0 1000) 603 1 604) 603 10 (-1)) 0 8) 603 12 605) 0 347) 603 15 606) 0 347) 603 16 607) 0 108) 603 17 608) 0 108) 603 18 609) 0 1296) 603 19 610) 0 324) 603 20 611) 0 24) 603 23 612) 0 70) 603 24 613) 0 108) 603 29 614) (K ++ [(0, 1000), (0, 8), (0, 347), (0, 347), (0, 108), (0, 108), (0, 1296), (0, 324), (0, 24), (0, 70), (0, 108)]) := g11.wr
  refine nb_Wg (q_m_init_24 (h1 := g11.z) ..) (nb_Gr ?_)
  rw [g11.nx (n := 615) (by first | exact hK | (simp; omega) | omega)]
  have g12 : cs (nb_al (nb_wr (nb_al (nb_wr (nb_al (nb_wr (nb_al (nb_wr (nb_al (nb_wr (nb_al (nb_wr (nb_al (nb_wr (nb_al (nb_wr (nb_al (nb_wr (nb_al (nb_wr (nb_al (nb_wr (nb_wr (nb_al M 0 1000) 603 1 604) 603 10 (-1)) 0 8) 603 12 605) 0 347) 603 15 606) 0 347) 603 16 607) 0 108) 603 17 608) 0 108) 603 18 609) 0 1296) 603 19 610) 0 324) 603 20 611) 0 24) 603 23 612) 0 70) 603 24 613) 0 108) 603 29 614) 0 10) (K ++ [(0, 1000), (0, 8), (0, 347), (0, 347), (0, 108), (0, 108), (0, 1296), (0, 324), (0, 24), (0, 70), (0, 108), (0, 10)]) := g11.al (by simp)
  refine nb_Wg (q_m_init_25 (h1 := by decide) ..) (nb_Gr ?_)
  replace g12 : cs (nb_wr (nb_al (nb_wr (nb_al (nb_wr (nb_al (nb_wr (nb_al (nb_wr (nb_al (nb_wr (nb_al (nb_wr (nb_al (nb_wr (nb_al (nb_wr (nb_al (nb_wr (nb_al (nb_wr (nb_al (nb_wr (nb_wr (nb_al M 0 1000) 603 1 604) 603 10 (-1)) 0 8) 603 12 605) 0 347) 603 15 606) 0 347) 603 16 607) 0 108) 603 17 608) 0 108) 603 18 609) 0 1296) 603 19 610) 0 324) 603 20 611) 0 24) 603 23 612) 0 70) 603 24 613) 0 108) 603 29 614) 0 10) 603 30 615) (K ++ [(0, 1000), (0, 8), (0, 347), (0, 347), (0, 108), (0, 108), (0, 1296), (0, 324), (0, 24), (0, 70), (0, 108), (0, 10)]) := g12.wr
  refine nb_Wg (q_m_init_26 (h1 := g12.z) ..) (nb_Gr ?_)
  rw [g12.nx (n := 616) (by first | exact hK | (simp; omega) | omega)]
  have g13 : cs (nb_al (nb_wr (nb_al (nb_wr (nb_al (nb_wr (nb_al (nb_wr (nb_al (nb_wr (nb_al (nb_wr (nb_al (nb_wr (nb_al (nb_wr (nb_al (nb_wr (nb_al (nb_wr (nb_al (nb_wr (nb_al (nb_wr (nb_wr (nb_al M 0 1000) 603 1 604) 603 10 (-1)) 0 8) 603 12 605) 0 347) 603 15 606) 0 347) 603 16 607) 0 108) 603 17 608) 0 108) 603 18 609) 0 1296) 603 19 610) 0 324) 603 20 611) 0 24) 603 23 612) 0 70) 603 24 613) 0 108) 603 29 614) 0 10) 603 30 615) 0 7) (K ++ [(0, 1000), (0, 8), (0, 347), (0, 347), (0, 108), (0, 108), (0, 1296), (0, 324), (0, 24), (0, 70), (0, 108), (0, 10), (0, 7)]) := g12.al (by simp)
  refine nb_Wg (q_m_init_27 (h1 := by decide) ..) (nb_Gr ?_)
  replace g13 : cs (nb_wr (nb_al (nb_wr (nb_al (nb_wr (nb_al (nb_wr (nb_al (nb_wr (nb_al (nb_wr (nb_al (nb_wr (nb_al (nb_wr (nb_al (nb_wr (nb_al (nb_wr (nb_al (nb_wr (nb_al (nb_wr (nb_al (nb_wr (nb_wr (nb_al M 0 1000) 603 1 604) 603 10 (-1)) 0 8) 603 12 605) 0 347) 603 15 606) 0 347) 603 16 607) 0 108) 603 17 608) 0 108) 603 18 609) 0 1296) 603 19 610) 0 324) 603 20 611) 0 24) 603 23 612) 0 70) 603 24 613) 0 108) 603 29 614) 0 10) 603 30 615) 0 7) 603 31 616) (K ++ [(0, 1000), (0, 8), (0, 347), (0, 347), (0, 108), (0, 108), (0, 1296), (0, 324), (0, 24), (0, 70), (0, 108), (0, 10), (0, 7)]) := g13.wr
  refine nb_Wg (q_m_init_28 (h1 := g13.z) ..) (nb_Gr ?_)
  rw [g13.nx (n := 617) (by first | exact hK | (simp; omega) | omega)]
  have g14 : cs (nb_al (nb_wr (nb_al (nb_wr (nb_al (nb_wr (nb_al (nb_wr (nb_al (nb_wr (nb_al (nb_wr (nb_al (nb_wr (nb_al (nb_wr (nb_al (nb_wr (nb_al (nb_wr (nb_al (nb_wr (nb_al (nb_wr (nb_al (nb_wr (nb_wr (nb_al M 0 1000) 603 1 604) 603 10 (-1)) 0 8) 603 12 605) 0 347) 603 15 606) 0 347) 603 16 607) 0 108) 603 17 608) 0 108) 603 18 609) 0 1296) 603 19 610) 0 324) 603 20 611) 0 24) 603 23 612) 0 70) 603 24 613) 0 108) 603 29 614) 0 10) 603 30 615) 0 7) 603 31 616) 0 7) (K ++ [(0, 1000), (0, 8), (0, 347), (0, 347), (0, 108), (0, 108), (0, 1296), (0, 324), (0, 24), (0, 70), (0, 108), (0, 10), (0, 7), (0, 7)]) := g13.al (by simp)
  refine nb_Wg (q_m_init_29 (h1 := by decide) ..) (nb_Gr ?_)
  replace g14 : cs (nb_wr (nb_al (nb_wr (nb_al (nb_wr (nb_al (nb_wr (nb_al (nb_wr (nb_al (nb_wr (nb_al (nb_wr (nb_al (nb_wr (nb_al (nb_wr (nb_al (nb_wr (nb_al (nb_wr (nb_al (nb_wr (nb_al (nb_wr (nb_al (nb_wr (nb_wr (nb_al M 0 1000) 603 1 604) 603 10 (-1)) 0 8) 603 12 605) 0 347) 603 15 606) 0 347) 603 16 607) 0 108) 603 17 608) 0 108) 603 18 609) 0 1296) 603 19 610) 0 324) 603 20 611) 0 24) 603 23 612) 0 70) 603 24 613) 0 108) 603 29 614) 0 10) 603 30 615) 0 7) 603 31 616) 0 7) 603 32 617) (K ++ [(0, 1000), (0, 8), (0, 347), (0, 347), (0, 108), (0, 108), (0, 1296), (0, 324), (0, 24), (0, 70), (0, 108), (0, 10), (0, 7), (0, 7)]) := g14.wr
  refine nb_Wg (q_m_init_30 (h1 := g14.z) ..) (nb_Gr ?_)
  rw [g14.nx (n := 618) (by first | exact hK | (simp; omega) | omega)]
  have g15 : cs (nb_al (nb_wr (nb_al (nb_wr (nb_al (nb_wr (nb_al (nb_wr (nb_al (nb_wr (nb_al (nb_wr (nb_al (nb_wr (nb_al (nb_wr (nb_al (nb_wr (nb_al (nb_wr (nb_al (nb_wr (nb_al (nb_wr (nb_al (nb_wr (nb_al (nb_wr (nb_wr (nb_al M 0 1000) 603 1 604) 603 10 (-1)) 0 8) 603 12 605) 0 347) 603 15 606) 0 347) 603 16 607) 0 108) 603 17 608) 0 108) 603 18 609) 0 1296) 603 19 610) 0 324) 603 20 611) 0 24) 603 23 612) 0 70) 603 24 613) 0 108) 603 29 614) 0 10) 603 30 615) 0 7) 603 31 616) 0 7) 603 32 617) 3 100) (K ++ [(0, 1000), (0, 8), (0, 347), (0, 347), (0, 108), (0, 108), (0, 1296), (0, 324), (0, 24), (0, 70), (0, 108), (0, 10), (0, 7), (0, 7), (3, 100)]) := g14.al (by simp)
  refine nb_Wg (q_m_init_31 (h1 := by decide) ..) (nb_Gr ?_)
  replace g15 : cs (nb_wr (nb_al (nb_wr (nb_al (nb_wr (nb_al (nb_wr (nb_al (nb_wr (nb_al (nb_wr (nb_al (nb_wr (nb_al (nb_wr (nb_al (nb_wr (nb_al (nb_wr (nb_al (nb_wr (nb_al (nb_wr (nb_al (nb_wr (nb_al (nb_wr (nb_al (nb_wr (nb_wr (nb_al M 0 1000) 603 1 604) 603 10 (-1)) 0 8) 603 12 605) 0 347) 603 15 606) 0 347) 603 16 607) 0 108) 603 17 608) 0 108) 603 18 609) 0 1296) 603 19 610) 0 324) 603 20 611) 0 24) 603 23 612) 0 70) 603 24 613) 0 108) 603 29 614) 0 10) 603 30 615) 0 7) 603 31 616) 0 7) 603 32 617) 3 100) 603 34 618) (K ++ [(0, 1000), (0, 8), (0, 347), (0, 347), (0, 108), (0, 108), (0, 1296), (0, 324), (0, 24), (0, 70), (0, 108), (0, 10), (0, 7), (0, 7), (3, 100)]) := g15.wr
  refine nb_Wg (q_m_init_32 ..) (nb_Gs ⟨rfl, g15, ?_⟩)
  exact ⟨fun b h => by simp only [nb_wr_b h, nb_al_1], fun i => by simp [nb_wr_1, nb_al_1]⟩
theorem ci_rd {M : nb_M} {K : List (Nat × Nat)} {Ho : Int} (hM : cs M K) (hK : (K.length : Int) = 77) : nb_W 223 0 [(13, 76), (12, Ho)] [] M (fun r M' => r = [] ∧ cs M' (K ++ nb_KA.tail) ∧ (∀ b, b ≠ 76 → b ≠ 77 → M'.1 b = M.1 b) ∧ (∀ i, M'.1 76 i = if i = 4 then Ho else if i = 3 then 83 else if i = 2 then 82 else if i = 1 then 81 else if i = 0 then 77 else M.1 76 i) ∧ ∀ i, M'.1 77 i = if i = 2 then 80 else if i = 1 then 79 else if i = 0 then 78 else M.1 77 i) := by
  refine nb_Wg (q_rd_init_0 (h1 := by decide) ..) (nb_Gp ?_)
  refine nb_Wg (q_rd_init_1 (h1 := hM.z) ..) (nb_Gr ?_)
  rw [hM.nx hK]
  have g1 : cs (nb_al M 15 4) (K ++ [(15, 4)]) := hM.al rfl
  refine nb_Wg (q_rd_init_2 (h1 := by decide) ..) (nb_Gb ?_)
  refine nb_W.imp (ci_tk g1 (by simp; omega)) ?_
  rintro r N ⟨rfl, g2, e2, a2⟩
  have g2 : cs N (K ++ [(15, 4), (0, 1001), (0, 1001), (2, 1001)]) := by simpa using g2
  refine nb_Wg (q_rd_init_3 (h1 := by decide) ..) (nb_Gr ?_)
  have g3 : cs (nb_wr N 76 0 77) (K ++ [(15, 4), (0, 1001), (0, 1001), (2, 1001)]) := g2.wr
  refine nb_Wg (q_rd_init_4 (h1 := g3.z) ..) (nb_Gr ?_)
  rw [g3.nx (n := 81) (by simp; omega)]
  refine nb_Wg (q_rd_init_5 (h1 := by decide) ..) (nb_Gr ?_)
  have g4 : cs (nb_wr (nb_al (nb_wr N 76 0 77) 2 18) 76 1 81) (K ++ [(15, 4), (0, 1001), (0, 1001), (2, 1001), (2, 18)]) := (g3.al (by simp)).wr
  refine nb_Wg (q_rd_init_6 (h1 := g4.z) ..) (nb_Gr ?_)
  rw [g4.nx (n := 82) (by simp; omega)]
  refine nb_Wg (q_rd_init_7 (h1 := by decide) ..) (nb_Gr ?_)
  have g5 : cs (nb_wr (nb_al (nb_wr (nb_al (nb_wr N 76 0 77) 2 18) 76 1 81) 0 18) 76 2 82) (K ++ [(15, 4), (0, 1001), (0, 1001), (2, 1001), (2, 18), (0, 18)]) := (g4.al (by simp)).wr
  refine nb_Wg (q_rd_init_8 (h1 := g5.z) ..) (nb_Gr ?_)
  rw [g5.nx (n := 83) (by simp; omega)]
  refine nb_Wg (q_rd_init_9 (h1 := by decide) ..) (nb_Gr ?_)
  refine nb_Wg (q_rd_init_10 (h1 := by decide) ..) (nb_Gr ?_)
  have g6 : cs (nb_wr (nb_wr (nb_al (nb_wr (nb_al (nb_wr (nb_al (nb_wr N 76 0 77) 2 18) 76 1 81) 0 18) 76 2 82) 0 18) 76 3 83) 76 4 Ho) (K ++ nb_KA.tail) := ((g5.al (by simp [nb_KA])).wr).wr
  refine nb_Wg (q_rd_init_11 ..) (nb_Gs ⟨rfl, g6, fun b h h2 => ?_, fun i => ?_, fun i => ?_⟩)
  · rw [nb_wr_b h, nb_wr_b h, nb_al_1, nb_wr_b h, nb_al_1, nb_wr_b h, nb_al_1, nb_wr_b h, e2 b h2, nb_al_1]
  · have e : N.1 76 = M.1 76 := e2 76 (by decide)
    simp [nb_wr_1, nb_al_1, e]
  · rw [nb_wr_b (by decide), nb_wr_b (by decide), nb_al_1, nb_wr_b (by decide), nb_al_1, nb_wr_b (by decide), nb_al_1, nb_wr_b (by decide), a2]
    rfl
theorem ci_rw {M : nb_M} {K : List (Nat × Nat)} (hM : cs M K) (hK : (K.length : Int) = 131) : nb_W 247 0 [(14, 130)] [] M (fun r M' => r = [] ∧ cs M' (K ++ ([(0, 7), (7, 8)] ++ List.replicate 8 (0, 7) ++ [(0, 1024)])) ∧ (∀ b, b ≠ 130 → b ≠ 132 → M'.1 b = M.1 b) ∧ (∀ i, M'.1 130 i = if i = 2 then 141 else if i = 1 then 132 else if i = 0 then 131 else M.1 130 i) ∧ ∀ i, 0 ≤ i → i < 8 → M'.1 132 i = 133 + i) := by
  refine nb_Wg (q_rw_init_0 (h1 := by decide) ..) (nb_Gp ?_)
  refine nb_Wg (q_rw_init_1 (h1 := hM.z) ..) (nb_Gr ?_)
  rw [hM.nx hK]
  refine nb_Wg (q_rw_init_2 (h1 := by decide) ..) (nb_Gr ?_)
  have g1 : cs (nb_wr (nb_al M 0 7) 130 0 131) (K ++ [(0, 7)]) := (hM.al rfl).wr
  refine nb_Wg (q_rw_init_3 (h1 := g1.z) ..) (nb_Gr ?_)
  have n1 : nb_nx (nb_wr (nb_al M 0 7) 130 0 131) = 132 := g1.nx (by simp; omega)
  rw [n1]
  refine nb_Wg (q_rw_init_4 (h1 := by decide) ..) (nb_Gr ?_)
  have g2 : cs (nb_wr (nb_alm (nb_wr (nb_al M 0 7) 130 0 131) 8 7) 130 1 132) (K ++ ([(0, 7), (7, 8)] ++ List.replicate 8 (0, 7))) := (g1.alm (by simp)).wr
  have e2 : ∀ b, b ≠ 130 → b ≠ 132 → (nb_wr (nb_alm (nb_wr (nb_al M 0 7) 130 0 131) 8 7) 130 1 132).1 b = M.1 b := fun b h h2 => by
    rw [nb_wr_b h]
    show (fun i => if b = nb_nx (nb_wr (nb_al M 0 7) 130 0 131) ∧ 0 ≤ i ∧ i < ((8 : Nat) : Int) then nb_nx (nb_wr (nb_al M 0 7) 130 0 131) + 1 + i else (nb_wr (nb_al M 0 7) 130 0 131).1 b i) = M.1 b
    funext i
    rw [n1, if_neg (by omega), nb_wr_b h, nb_al_1]
  have r2 : ∀ i, 0 ≤ i → i < 8 → (nb_wr (nb_alm (nb_wr (nb_al M 0 7) 130 0 131) 8 7) 130 1 132).1 132 i = 133 + i := fun i i0 i1 => by
    rw [nb_wr_b (by decide)]
    show (if (132 : Int) = nb_nx (nb_wr (nb_al M 0 7) 130 0 131) ∧ 0 ≤ i ∧ i < ((8 : Nat) : Int) then nb_nx (nb_wr (nb_al M 0 7) 130 0 131) + 1 + i else (nb_wr (nb_al M 0 7) 130 0 131).1 132 i) = _
    rw [n1, if_pos ⟨rfl, i0, by omega⟩]
    omega
  have a2 : ∀ i, (nb_wr (nb_alm (nb_wr (nb_al M 0 7) 130 0 131) 8 7) 130 1 132).1 130 i = if i = 1 then 132 else if i = 0 then 131 else M.1 130 i := fun i => by
    rw [nb_wr_1]
    by_cases c : i = 1
    · rw [if_pos ⟨rfl, c⟩, if_pos c]
    · rw [if_neg (by omega), if_neg c]
      show (if (130 : Int) = nb_nx (nb_wr (nb_al M 0 7) 130 0 131) ∧ 0 ≤ i ∧ i < ((8 : Nat) : Int) then nb_nx (nb_wr (nb_al M 0 7) 130 0 131) + 1 + i else (nb_wr (nb_al M 0 7) 130 0 131).1 130 i) = _
      rw [n1, if_neg (by omega)]
      simp [nb_wr_1, nb_al_1]
  generalize nb_wr (nb_alm (nb_wr (nb_al M 0 7) 130 0 131) 8 7) 130 1 132 = M2 at g2 e2 r2 a2 ⊢
  refine nb_Wg (q_rw_init_5 (h1 := g2.z) ..) (nb_Gr ?_)
  rw [g2.nx (n := 141) (by simp; omega)]
  refine nb_Wg (q_rw_init_6 (h1 := by decide) ..) (nb_Gr ?_)
  have g3 : cs (nb_wr (nb_al M2 0 1024) 130 2 141) (K ++ ([(0, 7), (7, 8)] ++ List.replicate 8 (0, 7) ++ [(0, 1024)])) := (g2.al (by simp)).wr
  refine nb_Wg (q_rw_init_7 ..) (nb_Gs ⟨rfl, g3, fun b h h2 => ?_, fun i => ?_, fun i i0 i1 => ?_⟩)
  · rw [nb_wr_b h, nb_al_1]; exact e2 b h h2
  · rw [nb_wr_1]
    by_cases c : i = 2
    · rw [if_pos ⟨rfl, c⟩, if_pos c]
    · rw [if_neg (by omega), if_neg c, nb_al_1]; exact a2 i
  · rw [nb_wr_b (by decide), nb_al_1]; exact r2 i i0 i1
