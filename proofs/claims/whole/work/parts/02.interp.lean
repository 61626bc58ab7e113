/-! THE INTERPRETER: words are Int, values are (tag, word); tags: 0 int, 1 long, 2 a String constant (its number), 3 + k a reference to a cell of kind k (0 null), 98 nothing known.
    Kinds: 0 int[], 1 byte[], 2 long[], 3 boolean[], 4 Guest[], 5 Server[], 6 Scene[], 7 int[][], 8 + i an object of class Xi.
    Memory: contents by address and place; kinds and lengths by address (0 null, 1 the script); cells and slots of no interest. -/
abbrev nb_V : Type := Nat × Int
abbrev nb_M : Type := (Int → Int → Int) × List (Nat × Nat) × Nat × Nat
def nb_rd (M : nb_M) (a i : Int) : Int := M.1 a i
def nb_wr (M : nb_M) (a i v : Int) : nb_M := (fun a' i' => if a' = a ∧ i' = i then v else M.1 a' i', M.2)
def nb_ln (M : nb_M) (a : Int) : Int := match M.2.1[a.toNat]? with
  | some q => (q.2 : Int)
  | none => 0
def nb_nx (M : nb_M) : Int := (M.2.1.length : Int)
def nb_al (M : nb_M) (k n : Nat) : nb_M := (M.1, M.2.1 ++ [(k, n)], M.2.2)
def nb_alm (M : nb_M) (n k : Nat) : nb_M := (fun a i => if a = nb_nx M ∧ 0 ≤ i ∧ i < (n : Int) then nb_nx M + 1 + i else M.1 a i, M.2.1 ++ ((7, n) :: List.replicate n (0, k)), M.2.2)
def nb_jk (M : nb_M) : nb_M := (M.1, M.2.1, M.2.2.1 + 1, M.2.2.2 + 5)
def nb_add (x y : Int) : Int := (Int32.ofInt x + Int32.ofInt y).toInt
def nb_sub (x y : Int) : Int := (Int32.ofInt x - Int32.ofInt y).toInt
def nb_mul (x y : Int) : Int := (Int32.ofInt x * Int32.ofInt y).toInt
def nb_neg (x : Int) : Int := (- Int32.ofInt x).toInt
def nb_div (x y : Int) : Int := (Int32.ofInt x / Int32.ofInt y).toInt
def nb_rem (x y : Int) : Int := (Int32.ofInt x % Int32.ofInt y).toInt
def nb_and (x y : Int) : Int := (Int32.ofInt x &&& Int32.ofInt y).toInt
def nb_or (x y : Int) : Int := (Int32.ofInt x ||| Int32.ofInt y).toInt
def nb_xor (x y : Int) : Int := (Int32.ofInt x ^^^ Int32.ofInt y).toInt
def nb_shl (x y : Int) : Int := (Int32.ofInt x <<< (Int32.ofInt y &&& 31)).toInt
def nb_shr (x y : Int) : Int := (Int32.ofInt x >>> (Int32.ofInt y &&& 31)).toInt
def nb_ushr (x y : Int) : Int := ((Int32.ofInt x).toUInt32 >>> ((Int32.ofInt y).toUInt32 &&& Int32.toUInt32 31)).toInt32.toInt
def nb_i2b (x : Int) : Int := (Int32.ofInt x).toInt8.toInt32.toInt
def nb_i2z (x : Int) : Int := (Int32.ofInt x &&& 1).toInt
def nb_i2l (x : Int) : Int := (Int32.ofInt x).toInt64.toInt
def nb_l2i (x : Int) : Int := (Int64.ofInt x).toInt32.toInt
def nb_ladd (x y : Int) : Int := (Int64.ofInt x + Int64.ofInt y).toInt
def nb_lsub (x y : Int) : Int := (Int64.ofInt x - Int64.ofInt y).toInt
def nb_lmul (x y : Int) : Int := (Int64.ofInt x * Int64.ofInt y).toInt
def nb_lor (x y : Int) : Int := (Int64.ofInt x ||| Int64.ofInt y).toInt
def nb_lshl (x y : Int) : Int := (Int64.ofInt x <<< ((Int32.ofInt y).toInt64 &&& 63)).toInt
def nb_lcmp (x y : Int) : Int := if x < y then -1 else if x = y then 0 else 1
/-- the state of a straight stretch: all is well so far, locals, operand stack, memory -/
abbrev nb_Q : Type := Bool × List nb_V × List nb_V × nb_M
def nb_bad (q : nb_Q) : nb_Q := (false, [], [], q.2.2.2)
def nb_load (lo hi : Nat) (n : Nat) (q : nb_Q) : nb_Q := match q.2.1[n]? with
  | some v => if lo ≤ v.1 ∧ v.1 ≤ hi then (q.1, q.2.1, v :: q.2.2.1, q.2.2.2) else nb_bad q
  | none => nb_bad q
/-- a store into the place behind it ends a long -/
def nb_clr (v : nb_V) : nb_V := if v.1 = 1 then (98, 0) else v
def nb_put (L : List nb_V) (n : Nat) (v : nb_V) : List nb_V := match n with
  | 0 => L.set 0 v
  | n + 1 => (L.set n (nb_clr (L.getD n (98, 0)))).set (n + 1) v
def nb_store (lo hi : Nat) (n : Nat) (q : nb_Q) : nb_Q := match q.2.2.1 with
  | v :: st => if lo ≤ v.1 ∧ v.1 ≤ hi ∧ v.1 ≠ 1 ∧ n < q.2.1.length then (q.1, nb_put q.2.1 n v, st, q.2.2.2) else nb_bad q
  | [] => nb_bad q
def nb_lstore (n : Nat) (q : nb_Q) : nb_Q := match q.2.2.1 with
  | v :: st => if v.1 = 1 ∧ n + 1 < q.2.1.length then (q.1, (nb_put q.2.1 n v).set (n + 1) (98, 0), st, q.2.2.2) else nb_bad q
  | [] => nb_bad q
def nb_iinc (n : Nat) (k : Int) (q : nb_Q) : nb_Q := match q.2.1[n]? with
  | some v => if v.1 = 0 ∧ n < q.2.1.length then (q.1, nb_put q.2.1 n (0, nb_add v.2 k), q.2.2.1, q.2.2.2) else nb_bad q
  | none => nb_bad q
def nb_un (t r : Nat) (f : Int → Int) (q : nb_Q) : nb_Q := match q.2.2.1 with
  | v :: st => if v.1 = t then (q.1, q.2.1, (r, f v.2) :: st, q.2.2.2) else nb_bad q
  | [] => nb_bad q
def nb_bin (tx ty r : Nat) (f : Int → Int → Int) (q : nb_Q) : nb_Q := match q.2.2.1 with
  | y :: x :: st => if x.1 = tx ∧ y.1 = ty then (q.1, q.2.1, (r, f x.2 y.2) :: st, q.2.2.2) else nb_bad q
  | _ => nb_bad q
def nb_binz (f : Int → Int → Int) (q : nb_Q) : nb_Q := match q.2.2.1 with
  | y :: x :: st => if x.1 = 0 ∧ y.1 = 0 then (q.1 && !decide (y.2 = 0), q.2.1, (0, f x.2 y.2) :: st, q.2.2.2) else nb_bad q
  | _ => nb_bad q
def nb_push (v : nb_V) (q : nb_Q) : nb_Q := (q.1, q.2.1, v :: q.2.2.1, q.2.2.2)
def nb_dup (q : nb_Q) : nb_Q := match q.2.2.1 with
  | v :: st => if v.1 ≠ 1 then (q.1, q.2.1, v :: v :: st, q.2.2.2) else nb_bad q
  | [] => nb_bad q
def nb_dup2 (q : nb_Q) : nb_Q := match q.2.2.1 with
  | v :: w :: st => if v.1 ≠ 1 ∧ w.1 ≠ 1 then (q.1, q.2.1, v :: w :: v :: w :: st, q.2.2.2) else nb_bad q
  | _ => nb_bad q
def nb_pop (q : nb_Q) : nb_Q := match q.2.2.1 with
  | v :: st => if v.1 ≠ 1 then (q.1, q.2.1, st, q.2.2.2) else nb_bad q
  | [] => nb_bad q
/-- a load out of an array of kind k, the answer's tag r -/
def nb_ald (k r : Nat) (q : nb_Q) : nb_Q := match q.2.2.1 with
  | i :: a :: st => if i.1 = 0 ∧ a.1 = 3 + k then (q.1 && (!decide (a.2 = 0) && (decide (0 ≤ i.2) && decide (i.2 < nb_ln q.2.2.2 a.2))), q.2.1, (r, nb_rd q.2.2.2 a.2 i.2) :: st, q.2.2.2) else nb_bad q
  | _ => nb_bad q
def nb_ast (k t : Nat) (f : Int → Int) (q : nb_Q) : nb_Q := match q.2.2.1 with
  | v :: i :: a :: st => if v.1 = t ∧ i.1 = 0 ∧ a.1 = 3 + k then (q.1 && (!decide (a.2 = 0) && (!decide (a.2 = 1) && (decide (0 ≤ i.2) && decide (i.2 < nb_ln q.2.2.2 a.2)))), q.2.1, st, nb_wr q.2.2.2 a.2 i.2 (f v.2)) else nb_bad q
  | _ => nb_bad q
/-- the kind of array that lies k values deep -/
def nb_kat (d : Nat) (q : nb_Q) : Nat := match q.2.2.1[d]? with
  | some v => v.1 - 3
  | none => 99
/-- the kind of the components of an array of references -/
def nb_comp (k : Nat) : Nat := match k with
  | 4 => 8
  | 5 => 13
  | 6 => 12
  | 7 => 0
  | _ => 99
def nb_aald (q : nb_Q) : nb_Q := if 4 ≤ nb_kat 1 q ∧ nb_kat 1 q ≤ 7 then nb_ald (nb_kat 1 q) (3 + nb_comp (nb_kat 1 q)) q else nb_bad q
def nb_aast (q : nb_Q) : nb_Q := if 4 ≤ nb_kat 2 q ∧ nb_kat 2 q ≤ 6 then (match q.2.2.1 with
  | v :: _ => nb_ast (nb_kat 2 q) (3 + nb_comp (nb_kat 2 q)) (fun x => x) (q.1 && !decide (v.2 = 0), q.2)
  | [] => nb_bad q) else nb_bad q
def nb_bald (q : nb_Q) : nb_Q := if nb_kat 1 q = 1 then nb_ald 1 0 q else nb_ald 3 0 q
def nb_bast (q : nb_Q) : nb_Q := if nb_kat 2 q = 1 then nb_ast 1 0 nb_i2b q else nb_ast 3 0 nb_i2z q
def nb_alen (q : nb_Q) : nb_Q := match q.2.2.1 with
  | a :: st => if 3 ≤ a.1 ∧ a.1 ≤ 10 then (q.1 && !decide (a.2 = 0), q.2.1, (0, nb_ln q.2.2.2 a.2) :: st, q.2.2.2) else nb_bad q
  | [] => nb_bad q
/-- a field: class, place, tag, whether boolean -/
abbrev nb_F : Type := Nat × Nat × Nat × Bool
def nb_getf (f : Option nb_F) (q : nb_Q) : nb_Q := match f, q.2.2.1 with
  | some f, a :: st => if a.1 = 11 + f.1 then (q.1 && !decide (a.2 = 0), q.2.1, (f.2.2.1, nb_rd q.2.2.2 a.2 (f.2.1 : Int)) :: st, q.2.2.2) else nb_bad q
  | _, _ => nb_bad q
def nb_putf (f : Option nb_F) (q : nb_Q) : nb_Q := match f, q.2.2.1 with
  | some f, v :: a :: st => if a.1 = 11 + f.1 ∧ v.1 = f.2.2.1 then (q.1 && (!decide (a.2 = 0) && (!f.2.2.2 || (decide (v.2 = 0) || decide (v.2 = 1)))), q.2.1, st, nb_wr q.2.2.2 a.2 (f.2.1 : Int) v.2) else nb_bad q
  | _, _ => nb_bad q
/-- the cells and slots of no interest bar new cells: an address couldn't be known -/
def nb_new (k n : Nat) (q : nb_Q) : nb_Q := (q.1 && decide (q.2.2.2.2.2.1 = 0), q.2.1, (3 + k, nb_nx q.2.2.2) :: q.2.2.1, nb_al q.2.2.2 k n)
def nb_newa (k : Nat) (q : nb_Q) : nb_Q := match q.2.2.1 with
  | n :: st => if n.1 = 0 then (q.1 && (decide (q.2.2.2.2.2.1 = 0) && (decide (0 ≤ n.2) && decide (n.2 ≤ 100000))), q.2.1, (3 + k, nb_nx q.2.2.2) :: st, nb_al q.2.2.2 k n.2.toNat) else nb_bad q
  | [] => nb_bad q
def nb_newm (q : nb_Q) : nb_Q := match q.2.2.1 with
  | k :: n :: st => if k.1 = 0 ∧ n.1 = 0 then (q.1 && (decide (q.2.2.2.2.2.1 = 0) && (decide (0 ≤ n.2) && (decide (n.2 ≤ 1000) && (decide (0 ≤ k.2) && decide (k.2 ≤ 1000))))), q.2.1, (10, nb_nx q.2.2.2) :: st, nb_alm q.2.2.2 n.2.toNat k.2.toNat) else nb_bad q
  | _ => nb_bad q
/-- a block: where it begins, its straight stretch, its last instruction and that one's length, the blocks that follow, the method that it calls -/
abbrev nb_B : Type := Nat × List (Instr × Nat) × Instr × Nat × List Nat × Nat
/-- a method: its class, its locals, what it returns (0 nothing, 1 int, 2 boolean, 3 long, 4 a reference), its arguments, its level -/
abbrev nb_X : Type := Nat × Nat × Nat × Nat × Nat
/-- a program: fields, constants, classes by class and pool index; blocks, methods, texts -/
abbrev nb_G : Type := (Nat → Nat → Option nb_F) × (Nat → Nat → Option nb_V) × (Nat → Nat → Option (Nat × Nat)) × (Nat → Nat → Option nb_B) × (Nat → Option nb_X) × (Int → List Int)
def nb_cst (t : Nat) (v : Option nb_V) (q : nb_Q) : nb_Q := match v with
  | some v => if v.1 = t then nb_push v q else nb_bad q
  | none => nb_bad q
def nb_ldc (v : Option nb_V) (q : nb_Q) : nb_Q := match v with
  | some v => if v.1 = 0 ∨ v.1 = 2 then nb_push v q else nb_bad q
  | none => nb_bad q
def nb_newc (v : Option (Nat × Nat)) (q : nb_Q) : nb_Q := match v with
  | some v => if 8 ≤ v.1 then nb_new v.1 v.2 q else nb_bad q
  | none => nb_bad q
def nb_newr (v : Option (Nat × Nat)) (q : nb_Q) : nb_Q := match v with
  | some v => if 4 ≤ v.1 ∧ v.1 ≤ 6 then nb_newa v.1 q else nb_bad q
  | none => nb_bad q
def nb_sx (G : nb_G) (own : Nat) (i : Instr) (q : nb_Q) : nb_Q := match i with
  | .iconst n => nb_push (0, n) q
  | .bipush n => nb_push (0, n) q
  | .sipush n => nb_push (0, n) q
  | .lconst n => nb_push (1, ((n : Nat) : Int)) q
  | .ldc n => nb_ldc (G.2.1 own n) q
  | .ldc_w n => nb_ldc (G.2.1 own n) q
  | .ldc2_w n => nb_cst 1 (G.2.1 own n) q
  | .iload n => nb_load 0 0 n q
  | .iload_n n => nb_load 0 0 n q
  | .lload n => nb_load 1 1 n q
  | .lload_n n => nb_load 1 1 n q
  | .aload n => nb_load 2 89 n q
  | .aload_n n => nb_load 2 89 n q
  | .istore n => nb_store 0 0 n q
  | .istore_n n => nb_store 0 0 n q
  | .lstore n => nb_lstore n q
  | .lstore_n n => nb_lstore n q
  | .astore n => nb_store 2 89 n q
  | .astore_n n => nb_store 2 89 n q
  | .iinc n k => nb_iinc n k q
  | .iadd => nb_bin 0 0 0 nb_add q
  | .isub => nb_bin 0 0 0 nb_sub q
  | .imul => nb_bin 0 0 0 nb_mul q
  | .ineg => nb_un 0 0 nb_neg q
  | .idiv => nb_binz nb_div q
  | .irem => nb_binz nb_rem q
  | .iand => nb_bin 0 0 0 nb_and q
  | .ior => nb_bin 0 0 0 nb_or q
  | .ixor => nb_bin 0 0 0 nb_xor q
  | .ishl => nb_bin 0 0 0 nb_shl q
  | .ishr => nb_bin 0 0 0 nb_shr q
  | .iushr => nb_bin 0 0 0 nb_ushr q
  | .i2b => nb_un 0 0 nb_i2b q
  | .i2l => nb_un 0 1 nb_i2l q
  | .l2i => nb_un 1 0 nb_l2i q
  | .ladd => nb_bin 1 1 1 nb_ladd q
  | .lsub => nb_bin 1 1 1 nb_lsub q
  | .lmul => nb_bin 1 1 1 nb_lmul q
  | .lor => nb_bin 1 1 1 nb_lor q
  | .lshl => nb_bin 1 0 1 nb_lshl q
  | .lcmp => nb_bin 1 1 0 nb_lcmp q
  | .dup => nb_dup q
  | .dup2 => nb_dup2 q
  | .pop => nb_pop q
  | .iaload => nb_ald 0 0 q
  | .laload => nb_ald 2 1 q
  | .baload => nb_bald q
  | .aaload => nb_aald q
  | .iastore => nb_ast 0 0 (fun x => x) q
  | .lastore => nb_ast 2 1 (fun x => x) q
  | .bastore => nb_bast q
  | .aastore => nb_aast q
  | .arraylength => nb_alen q
  | .getfield n => nb_getf (G.1 own n) q
  | .putfield n => nb_putf (G.1 own n) q
  | .new n => nb_newc (G.2.2.1 own n) q
  | .newarray .int => nb_newa 0 q
  | .newarray .byte => nb_newa 1 q
  | .newarray .long => nb_newa 2 q
  | .newarray .boolean => nb_newa 3 q
  | .anewarray n => nb_newr (G.2.2.1 own n) q
  | .multianewarray _ 2 => nb_newm q
  | _ => nb_bad q
def nb_str (G : nb_G) (own : Nat) : List (Instr × Nat) → nb_Q → nb_Q
  | [], q => q
  | i :: is, q => nb_str G own is (nb_sx G own i.1 q)
/-- what a method answers: its value, if any; the memory behind it -/
abbrev nb_A : Type := Option (List nb_V × nb_M)
/-- the arguments as locals -/
def nb_lay : List nb_V → List nb_V
  | [] => []
  | v :: vs => if v.1 = 1 then v :: (98, 0) :: nb_lay vs else v :: nb_lay vs
def nb_ent (vs : List nb_V) (n : Nat) : List nb_V := nb_lay vs ++ List.replicate (n - (nb_lay vs).length) (98, 0)
def nb_wt : List nb_V → Nat
  | [] => 0
  | v :: vs => (if v.1 = 1 then 2 else 1) + nb_wt vs
def nb_swt (rec : Nat → nb_A) (x : Int) (d : Nat) : Int → List Nat → nb_A
  | _, [] => rec d
  | lo, t :: ts => if x = lo then rec t else nb_swt rec x d (lo + 1) ts
def nb_lsw (rec : Nat → nb_A) (x : Int) (d : Nat) : List (Int × Int) → List Nat → nb_A
  | k :: ks, t :: ts => if x = k.1 then rec t else nb_lsw rec x d ks ts
  | _, _ => rec d
/-- ints copied from one array into another one -/
def nb_cpy (M : nb_M) (a i b j : Int) (n : Int) : nb_M := (fun a' i' => if a' = b ∧ j ≤ i' ∧ i' < j + n then M.1 a (i' - j + i) else M.1 a' i', M.2)
/-- the law's led: it asks method 0 of the object in the sixth field -/
def nb_led (rec : Nat → List nb_V → nb_M → nb_A) (x i o : Int) (M : nb_M) : nb_A :=
  if x = 0 ∨ nb_rd M x 5 = 0 ∨ o < 2 ∨ nb_ln M o ≤ 0 then none else
  if i < 0 then some ([(0, 1)], nb_jk M) else
  (rec 0 [(15, nb_rd M x 5), (0, i)] M).bind fun r => match r.1 with
    | [(0, p)] => if p < 0 then some ([(0, 1)], nb_jk r.2) else some ([(0, 0)], nb_wr r.2 o 0 p)
    | _ => none
/-- calls that aren't walked: 900 Object.<init>, 901 String.length, 902 String.charAt, 903 System.arraycopy of ints; 904 the law's led -/
def nb_prim (G : nb_G) (rec : Nat → List nb_V → nb_M → nb_A) (c : Nat) (vs : List nb_V) (M : nb_M) : nb_A := match c, vs with
  | 900, [_] => some ([], M)
  | 901, [(2, k)] => some ([(0, ((G.2.2.2.2.2 k).length : Int))], M)
  | 902, [(2, k), (0, i)] => if 0 ≤ i ∧ i < ((G.2.2.2.2.2 k).length : Int) then some ([(0, (G.2.2.2.2.2 k).getD i.toNat 0)], M) else none
  | 903, [(3, a), (0, i), (3, b), (0, j), (0, n)] => if 2 ≤ a ∧ 2 ≤ b ∧ a ≠ b ∧ 0 ≤ i ∧ 0 ≤ j ∧ 0 ≤ n ∧ i + n ≤ nb_ln M a ∧ j + n ≤ nb_ln M b then some ([], nb_cpy M a i b j n) else none
  | 904, [(19, x), (0, i), (5, o)] => nb_led rec x i o M
  | _, _ => none
def nb_cal (G : nb_G) (rec : Nat → Nat → List nb_V → List nb_V → nb_M → nb_A) (c : Nat) (vs : List nb_V) (M : nb_M) : nb_A :=
  match G.2.2.2.2.1 c with
  | some X => rec c 0 (nb_ent vs X.2.1) [] M
  | none => nb_prim G (fun c' vs' M' => match G.2.2.2.2.1 c' with
      | some X => rec c' 0 (nb_ent vs' X.2.1) [] M'
      | none => none) c vs M
/-- how many values a call takes -/
def nb_npar (G : nb_G) (c : Nat) : Nat := match G.2.2.2.2.1 c with
  | some X => X.2.2.2.1
  | none => match c with
    | 900 => 1
    | 901 => 1
    | 902 => 2
    | 903 => 5
    | _ => 3
def nb_inv (G : nb_G) (rec : Nat → Nat → List nb_V → List nb_V → nb_M → nb_A) (m t c : Nat) (virt : Bool) (L st : List nb_V) (M : nb_M) : nb_A :=
  if nb_npar G c ≤ st.length ∧ nb_wt (st.drop (nb_npar G c)) ≤ 8 then
    (match (st.take (nb_npar G c)).reverse with
    | v :: vs => if virt = true ∧ v.2 = 0 then none else
      (nb_cal G rec c (v :: vs) M).bind fun r => rec m t L (r.1 ++ st.drop (nb_npar G c)) r.2
    | [] => (nb_cal G rec c [] M).bind fun r => rec m t L (r.1 ++ st.drop (nb_npar G c)) r.2)
  else none
def nb_ter (G : nb_G) (rec : Nat → Nat → List nb_V → List nb_V → nb_M → nb_A) (m ret : Nat) (i : Instr) (ts : List Nat) (c : Nat) (L st : List nb_V) (M : nb_M) : nb_A := match i, ts, st with
  | .nop, [t], st => rec m t L st M
  | .goto _, [t], st => rec m t L st M
  | .ifCond .eq _, [t, f], (0, x) :: st => if x = 0 then rec m t L st M else rec m f L st M
  | .ifCond .ne _, [t, f], (0, x) :: st => if x = 0 then rec m f L st M else rec m t L st M
  | .ifCond .lt _, [t, f], (0, x) :: st => if x < 0 then rec m t L st M else rec m f L st M
  | .ifCond .ge _, [t, f], (0, x) :: st => if x < 0 then rec m f L st M else rec m t L st M
  | .ifCond .gt _, [t, f], (0, x) :: st => if 0 < x then rec m t L st M else rec m f L st M
  | .ifCond .le _, [t, f], (0, x) :: st => if 0 < x then rec m f L st M else rec m t L st M
  | .if_icmp .eq _, [t, f], (0, y) :: (0, x) :: st => if x = y then rec m t L st M else rec m f L st M
  | .if_icmp .ne _, [t, f], (0, y) :: (0, x) :: st => if x = y then rec m f L st M else rec m t L st M
  | .if_icmp .lt _, [t, f], (0, y) :: (0, x) :: st => if x < y then rec m t L st M else rec m f L st M
  | .if_icmp .ge _, [t, f], (0, y) :: (0, x) :: st => if x < y then rec m f L st M else rec m t L st M
  | .if_icmp .gt _, [t, f], (0, y) :: (0, x) :: st => if y < x then rec m t L st M else rec m f L st M
  | .if_icmp .le _, [t, f], (0, y) :: (0, x) :: st => if y < x then rec m f L st M else rec m t L st M
  | .tableswitch _ lo _ _, d :: ts, (0, x) :: st => nb_swt (fun t => rec m t L st M) x d lo ts
  | .lookupswitch _ ks, d :: ts, (0, x) :: st => nb_lsw (fun t => rec m t L st M) x d ks.toList ts
  | .ireturn, [], (0, x) :: _ => if ret = 2 then some ([(0, nb_i2z x)], M) else if ret = 1 then some ([(0, x)], M) else none
  | .lreturn, [], (1, x) :: _ => if ret = 3 then some ([(1, x)], M) else none
  | .areturn, [], (t, x) :: _ => if ret = 4 ∧ 3 ≤ t ∧ t < 90 then some ([(t, x)], M) else none
  | .return_, [], _ => if ret = 0 then some ([], M) else none
  | .invokevirtual _, [t], st => nb_inv G rec m t c true L st M
  | .invokespecial _, [t], st => nb_inv G rec m t c true L st M
  | .invokestatic _, [t], st => nb_inv G rec m t c false L st M
  | _, _, _ => none
def nb_blk (G : nb_G) (rec : Nat → Nat → List nb_V → List nb_V → nb_M → nb_A) (m k : Nat) (L st : List nb_V) (M : nb_M) : nb_A := match G.2.2.2.2.1 m, G.2.2.2.1 m k with
  | some X, some B => if (nb_str G X.1 B.2.1 (true, L, st, M)).1 = true then nb_ter G rec m X.2.2.1 B.2.2.1 B.2.2.2.2.1 B.2.2.2.2.2 (nb_str G X.1 B.2.1 (true, L, st, M)).2.1 (nb_str G X.1 B.2.1 (true, L, st, M)).2.2.1 (nb_str G X.1 B.2.1 (true, L, st, M)).2.2.2 else none
  | _, _ => none
def nb_run (G : nb_G) : Nat → Nat → Nat → List nb_V → List nb_V → nb_M → nb_A
  | 0 => fun _ _ _ _ _ => none
  | n + 1 => nb_blk G (nb_run G n)
