/-! THE REFERENCE IN WORDS OF NUMBERS: rows are functions of places -/
/-- what a drink adds to an order's time behind another one -/
def pu_tt (r : Int → Int) (last p d : Int) : Int := if r (111 + 5 * p + d) = 0 then 0 else r (111 + 5 * p + d) * r (8 + 3 * d + 1) + (if last < 0 ∨ r (111 + 5 * last + d) = 0 then r (8 + 3 * d) - r (8 + 3 * d + 1) else 0)
def pu_tbs (r : Int → Int) (last p : Int) : Nat → Int
  | 0 => 0
  | n + 1 => pu_tbs r last p n + pu_tt r last p n
/-- an order's time behind another one -/
def pu_tb (r : Int → Int) (last p : Int) : Int := pu_tbs r last p 5
def pu_cos (r : Int → Int) (p : Int) : Nat → Int
  | 0 => 0
  | n + 1 => pu_cos r p n + r (111 + 5 * p + n) * r (8 + 3 * n + 2)
def pu_co (r : Int → Int) (p : Int) : Int := pu_cos r p 5
def pu_far (a b : Int) : Int := if a < b then b - a else a - b
/-- how late someone's turn is -/
def pu_tn (cr pe R : Int → Int) (s p : Int) : Int :=
  if cr (6 * s) = 0 then (if R (12 + 8 * p + 1) < R (92 + 4 * s) then 1000000 + R (12 + 8 * p + 1) else R (12 + 8 * p + 1) - R (92 + 4 * s))
  else if cr (6 * s) = 1 then 2 * pu_far (R (12 + 8 * p + 1)) (R (92 + 4 * s)) + (if R (92 + 4 * s) < R (12 + 8 * p + 1) then 1 else 0)
  else if cr (6 * s) = 2 then - R (12 + 8 * p + 2)
  else if cr (6 * s) = 3 then R (12 + 8 * p + 3)
  else if pe (7 * p) = 3 then 0 else 1
def pu_nfs (cr pe R : Int → Int) (s : Int) : Nat → Int
  | 0 => -2
  | n + 1 => if R (12 + 8 * n) = 1 ∧ cr (6 * s + 2) ≤ R (12 + 8 * n + 1) ∧ R (12 + 8 * n + 1) ≤ cr (6 * s + 3) then
      (if pu_nfs cr pe R s n = -2 then (n : Int) else if pu_tn cr pe R s n < pu_tn cr pe R s (pu_nfs cr pe R s n) ∨ (pu_tn cr pe R s n = pu_tn cr pe R s (pu_nfs cr pe R s n) ∧ pe (7 * n + 2) < pe (7 * pu_nfs cr pe R s n + 2)) then (n : Int) else pu_nfs cr pe R s n)
      else pu_nfs cr pe R s n
/-- with whom one of the staff begins next; -2 -/
def pu_nf (np : Int) (cr pe R : Int → Int) (s : Int) : Int := pu_nfs cr pe R s np.toNat
/-- who comes, has it by a shelf, gives up -/
def pu_cm (pe : Int → Int) (t p : Int) (R : Int → Int) : Int → Int :=
  if R (12 + 8 * p) = 1 ∨ (R (12 + 8 * p) = 0 ∧ pe (7 * p + 2) = t) then
    (if 0 ≤ pe (7 * p + 6) - 1 ∧ pe (7 * p + 6) - 1 ≤ t then nb_ud (nb_ud (nb_ud R (12 + 8 * p) 3) (12 + 8 * p + 5) t) (12 + 8 * p + 7) t
     else if t - pe (7 * p + 2) < pe (7 * p + 4) then nb_ud R (12 + 8 * p) 1 else nb_ud (nb_ud R (12 + 8 * p) 4) (12 + 8 * p + 7) t)
  else R
def pu_cms (pe : Int → Int) (t : Int) (R : Int → Int) : Nat → Int → Int
  | 0 => R
  | n + 1 => pu_cm pe t n (pu_cms pe t R n)
/-- when an order is done -/
def pu_dn (r cr R : Int → Int) (t s p : Int) : Int := t + cr (6 * s + 4) * pu_far (R (92 + 4 * s)) (R (12 + 8 * p + 1)) + pu_tb r (R (92 + 4 * s + 3) - 1) p
/-- one of the staff begins with someone -/
def pu_bg (r cr : Int → Int) (t s h p : Int) (R : Int → Int) : Int → Int :=
  nb_ud (nb_ud (nb_ud (nb_ud (nb_ud (nb_ud (nb_ud (nb_ud (nb_ud R (12 + 8 * p) 2) (12 + 8 * p + 4) t) (12 + 8 * p + 5) (pu_dn r cr R t s p)) (12 + 8 * p + 6) s) (92 + 4 * s) (R (12 + 8 * p + 1))) (92 + 4 * s + h) (pu_dn r cr R t s p)) (92 + 4 * s + 3) (p + 1)) (2 + R 1) p) 1 (R 1 + 1)
/-- one of the staff by one hand -/
def pu_bgs (r cr pe : Int → Int) (np t s h : Int) : Nat → (Int → Int) → Int → Int
  | 0, R => R
  | n + 1, R => if pu_nf np cr pe R s = -2 then R else if pu_dn r cr R t s (pu_nf np cr pe R s) ≤ t then pu_bgs r cr pe np t s h n (pu_bg r cr t s h (pu_nf np cr pe R s) R) else pu_bg r cr t s h (pu_nf np cr pe R s) R
/-- one of the staff by his hands -/
def pu_sh (r cr pe : Int → Int) (np t s : Int) : Nat → (Int → Int) → Int → Int
  | 0, R => R
  | h + 1, R => if pu_sh r cr pe np t s h R (92 + 4 * s + ((h : Int) + 1)) ≤ t then pu_bgs r cr pe np t s ((h : Int) + 1) 10 (pu_sh r cr pe np t s h R) else pu_sh r cr pe np t s h R
def pu_ss (r cr pe : Int → Int) (np t : Int) : Nat → (Int → Int) → Int → Int
  | 0, R => R
  | s + 1, R => pu_sh r cr pe np t s (cr (6 * s + 5)).toNat (pu_ss r cr pe np t s R)
/-- a second goes by -/
def pu_sec (r cr pe : Int → Int) (ns : Int) (R : Int → Int) : Int → Int :=
  nb_ud (pu_ss r cr pe (r 5) (R 0) ns.toNat (pu_cms pe (R 0) R (r 5).toNat)) 0 (R 0 + 1)
def pu_secs (r cr pe : Int → Int) (ns : Int) : Nat → (Int → Int) → Int → Int
  | 0, R => R
  | n + 1, R => pu_sec r cr pe ns (pu_secs r cr pe ns n R)
/-- an evening -/
def pu_eve (r cr pe : Int → Int) (ns bell : Int) (R : Int → Int) : Int → Int := pu_secs r cr pe ns (bell + 1 - R 0).toNat R
/-- a copy of numbers -/
def pu_cpy (f g : Int → Int) (at' into many : Int) : Int → Int := fun j => if into ≤ j ∧ j < into + many then f (j - into + at') else g j
/-- how many haven't been begun with, nor gone -/
def pu_nb (R : Int → Int) : Nat → Int
  | 0 => 0
  | n + 1 => pu_nb R n + (if R (12 + 8 * n) = 0 ∨ R (12 + 8 * n) = 1 then 1 else 0)
