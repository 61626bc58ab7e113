/-! a block's equation out of what its stretch does and how it ends -/
theorem nb_step {G : nb_G} {m k : Nat} {L st : List nb_V} {M : nb_M} {c : Bool} {r : nb_A} (hq : nb_blk G (nb_R G) m k L st M = if c = true then r else none) (hc : c = true) : nb_R G m k L st M = r := by
  rw [nb_R_eq, hq, if_pos hc]
theorem nb_stepC {G : nb_G} {m k t cl : Nat} {vi : Bool} {L st L2 S2 : List nb_V} {M M2 : nb_M} {c : Bool} {r : nb_A} (hq : nb_blk G (nb_R G) m k L st M = if c = true then nb_inv G (nb_R G) m t cl vi L2 S2 M2 else none) (hc : c = true) (hi : nb_inv G (nb_R G) m t cl vi L2 S2 M2 = r) : nb_R G m k L st M = r := by
  rw [nb_R_eq, hq, if_pos hc, hi]
theorem nb_inv_eq {G : nb_G} {rec : nb_C} {m t c n : Nat} {virt : Bool} {L st : List nb_V} {M : nb_M} {v : nb_V} {vs rest : List nb_V} {x : nb_A} (hn : nb_npar G c = n) (h1 : Nat.ble n st.length = true) (h2 : Nat.ble (nb_wt (st.drop n)) 8 = true) (hv : (st.take n).reverse = v :: vs) (hd : st.drop n = rest) (hr : (virt && !nb_rcok G c v.1) = false) (h0 : virt = true → v.2 ≠ 0) (hx : nb_cal G rec c (v :: vs) M = x) :
    nb_inv G rec m t c virt L st M = x.bind fun r => rec m t L (r.1 ++ rest) r.2 := by
  subst hn
  unfold nb_inv
  rw [if_pos ⟨Nat.le_of_ble_eq_true h1, Nat.le_of_ble_eq_true h2⟩, hv, hd]
  rw [← hx]
  exact (if_neg (fun h => by rw [h.1, h.2] at hr; exact absurd hr (by decide))).trans (if_neg (fun h => h0 h.1 h.2))
