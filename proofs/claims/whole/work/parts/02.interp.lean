/-! THE INTERPRETER: words are Int, values are (tag, word); tags: 0 int, 1 long, 2 a String constant (its number), 3 + k a reference to a cell of kind k (0 null), 98 nothing known.
    Kinds: 0 int[], 1 byte[], 2 long[], 3 boolean[], 4 Guest[], 5 Server[], 6 Scene[], 7 int[][], 8 + i an object of class Xi.
    Memory: contents by address and place; kinds and lengths by address (0 null, 1 the script); cells and slots of no interest. -/
abbrev nb_V : Type := Nat × Int
abbrev nb_M : Type := (Int → Int → Int) × List (Nat × Nat) × Nat × Nat
def nb_rd (M : nb_M) (a i : Int) : Int := M.1 a i
def nb_wr (M : nb_M) (a i v : Int) : nb_M := (fun a' i' => if a' = a ∧ i' = i then v else M.1 a' i', M.2)
def nb_ln (M : nb_M) (a : Int) : Int := match M.2.1[a.toNat]? with
  | some q => (q.2 : Int)
  | none => 0
def nb_nx (M : nb_M) : Int := (M.2.1.length : Int)
def nb_al (M : nb_M) (k n : Nat) : nb_M := (M.1, M.2.1 ++ [(k, n)], M.2.2)
def nb_alm (M : nb_M) (n k : Nat) : nb_M := (fun a i => if a = nb_nx M ∧ 0 ≤ i ∧ i < (n : Int) then nb_nx M + 1 + i else M.1 a i, M.2.1 ++ ((7, n) :: List.replicate n (0, k)), M.2.2)
def nb_jk (M : nb_M) : nb_M := (M.1, M.2.1, M.2.2.1 + 1, M.2.2.2 + 6)
def nb_add (x y : Int) : Int := (Int32.ofInt x + Int32.ofInt y).toInt
def nb_sub (x y : Int) : Int := (Int32.ofInt x - Int32.ofInt y).toInt
def nb_mul (x y : Int) : Int := (Int32.ofInt x * Int32.ofInt y).toInt
def nb_neg (x : Int) : Int := (- Int32.ofInt x).toInt
def nb_div (x y : Int) : Int := (Int32.ofInt x / Int32.ofInt y).toInt
def nb_rem (x y : Int) : Int := (Int32.ofInt x - Int32.ofInt x / Int32.ofInt y * Int32.ofInt y).toInt
def nb_and (x y : Int) : Int := (Int32.ofInt x &&& Int32.ofInt y).toInt
def nb_or (x y : Int) : Int := (Int32.ofInt x ||| Int32.ofInt y).toInt
def nb_xor (x y : Int) : Int := (Int32.ofInt x ^^^ Int32.ofInt y).toInt
def nb_shl (x y : Int) : Int := (Int32.ofInt x <<< (Int32.ofInt y &&& 31)).toInt
def nb_shr (x y : Int) : Int := (Int32.ofInt x >>> (Int32.ofInt y &&& 31)).toInt
def nb_ushr (x y : Int) : Int := ((Int32.ofInt x).toUInt32 >>> ((Int32.ofInt y).toUInt32 &&& Int32.toUInt32 31)).toInt32.toInt
def nb_i2b (x : Int) : Int := (Int32.ofInt x).toInt8.toInt32.toInt
def nb_i2z (x : Int) : Int := (Int32.ofInt x &&& 1).toInt
def nb_i2l (x : Int) : Int := (Int32.ofInt x).toInt64.toInt
def nb_l2i (x : Int) : Int := (Int64.ofInt x).toInt32.toInt
def nb_ladd (x y : Int) : Int := (Int64.ofInt x + Int64.ofInt y).toInt
def nb_lsub (x y : Int) : Int := (Int64.ofInt x - Int64.ofInt y).toInt
def nb_lmul (x y : Int) : Int := (Int64.ofInt x * Int64.ofInt y).toInt
def nb_lor (x y : Int) : Int := (Int64.ofInt x ||| Int64.ofInt y).toInt
def nb_lshl (x y : Int) : Int := (Int64.ofInt x <<< ((Int32.ofInt y).toInt64 &&& 63)).toInt
def nb_lcmp (x y : Int) : Int := if x < y then -1 else if x = y then 0 else 1
/-- how a straight stretch goes on: all is well so far, locals, operand stack, memory -/
abbrev nb_A : Type := Option (List nb_V × nb_M)
abbrev nb_K : Type := Bool → List nb_V → List nb_V → nb_M → nb_A
def nb_load (lo hi : Nat) (n : Nat) (c : Bool) (L st : List nb_V) (M : nb_M) (k : nb_K) : nb_A := match L[n]? with
  | some v => if lo ≤ v.1 ∧ v.1 ≤ hi then k c L (v :: st) M else none
  | none => none
/-- a store into the place behind it ends a long -/
def nb_clr (v : nb_V) : nb_V := if v.1 = 1 then (98, 0) else v
def nb_put (L : List nb_V) (n : Nat) (v : nb_V) : List nb_V := match n with
  | 0 => L.set 0 v
  | n + 1 => (L.set n (nb_clr (L.getD n (98, 0)))).set (n + 1) v
def nb_store (lo hi : Nat) (n : Nat) (c : Bool) (L st : List nb_V) (M : nb_M) (k : nb_K) : nb_A := match st with
  | v :: st => if lo ≤ v.1 ∧ v.1 ≤ hi ∧ v.1 ≠ 1 ∧ n < L.length then k c (nb_put L n v) st M else none
  | [] => none
def nb_lstore (n : Nat) (c : Bool) (L st : List nb_V) (M : nb_M) (k : nb_K) : nb_A := match st with
  | v :: st => if v.1 = 1 ∧ n + 1 < L.length then k c ((nb_put L n v).set (n + 1) (98, 0)) st M else none
  | [] => none
def nb_iinc (n : Nat) (d : Int) (c : Bool) (L st : List nb_V) (M : nb_M) (k : nb_K) : nb_A := match L[n]? with
  | some v => if v.1 = 0 ∧ n < L.length then k c (nb_put L n (0, nb_add v.2 d)) st M else none
  | none => none
def nb_un (t r : Nat) (f : Int → Int) (c : Bool) (L st : List nb_V) (M : nb_M) (k : nb_K) : nb_A := match st with
  | v :: st => if v.1 = t then k c L ((r, f v.2) :: st) M else none
  | [] => none
def nb_bin (tx ty r : Nat) (f : Int → Int → Int) (c : Bool) (L st : List nb_V) (M : nb_M) (k : nb_K) : nb_A := match st with
  | y :: x :: st => if x.1 = tx ∧ y.1 = ty then k c L ((r, f x.2 y.2) :: st) M else none
  | _ => none
def nb_binz (f : Int → Int → Int) (c : Bool) (L st : List nb_V) (M : nb_M) (k : nb_K) : nb_A := match st with
  | y :: x :: st => if x.1 = 0 ∧ y.1 = 0 then k (c && !decide (y.2 = 0)) L ((0, f x.2 y.2) :: st) M else none
  | _ => none
def nb_push (v : nb_V) (c : Bool) (L st : List nb_V) (M : nb_M) (k : nb_K) : nb_A := k c L (v :: st) M
def nb_dup (c : Bool) (L st : List nb_V) (M : nb_M) (k : nb_K) : nb_A := match st with
  | v :: st => if v.1 ≠ 1 then k c L (v :: v :: st) M else none
  | [] => none
def nb_dup2 (c : Bool) (L st : List nb_V) (M : nb_M) (k : nb_K) : nb_A := match st with
  | v :: w :: st => if v.1 ≠ 1 ∧ w.1 ≠ 1 then k c L (v :: w :: v :: w :: st) M else none
  | _ => none
def nb_pop (c : Bool) (L st : List nb_V) (M : nb_M) (k : nb_K) : nb_A := match st with
  | v :: st => if v.1 ≠ 1 then k c L st M else none
  | [] => none
/-- a load out of an array of kind kd, the answer's tag r -/
def nb_ald (kd r : Nat) (c : Bool) (L st : List nb_V) (M : nb_M) (k : nb_K) : nb_A := match st with
  | i :: a :: st => if i.1 = 0 ∧ a.1 = 3 + kd then k (c && (!decide (a.2 = 0) && (decide (0 ≤ i.2) && decide (i.2 < nb_ln M a.2)))) L ((r, nb_rd M a.2 i.2) :: st) M else none
  | _ => none
def nb_ast (kd t : Nat) (f : Int → Int) (c : Bool) (L st : List nb_V) (M : nb_M) (k : nb_K) : nb_A := match st with
  | v :: i :: a :: st => if v.1 = t ∧ i.1 = 0 ∧ a.1 = 3 + kd then k (c && (!decide (a.2 = 0) && (!decide (a.2 = 1) && (decide (0 ≤ i.2) && decide (i.2 < nb_ln M a.2))))) L st (nb_wr M a.2 i.2 (f v.2)) else none
  | _ => none
/-- the kind of the components of an array of references -/
def nb_comp (kd : Nat) : Nat := match kd with
  | 4 => 8
  | 5 => 13
  | 6 => 12
  | 7 => 0
  | _ => 99
def nb_aald (c : Bool) (L st : List nb_V) (M : nb_M) (k : nb_K) : nb_A := match st with
  | _ :: a :: _ => if 7 ≤ a.1 ∧ a.1 ≤ 10 then nb_ald (a.1 - 3) (3 + nb_comp (a.1 - 3)) c L st M k else none
  | _ => none
def nb_aast (c : Bool) (L st : List nb_V) (M : nb_M) (k : nb_K) : nb_A := match st with
  | v :: _ :: a :: _ => if 7 ≤ a.1 ∧ a.1 ≤ 9 then nb_ast (a.1 - 3) (3 + nb_comp (a.1 - 3)) (fun x => x) (c && !decide (v.2 = 0)) L st M k else none
  | _ => none
def nb_bald (c : Bool) (L st : List nb_V) (M : nb_M) (k : nb_K) : nb_A := match st with
  | _ :: a :: _ => if a.1 = 4 then nb_ald 1 0 c L st M k else nb_ald 3 0 c L st M k
  | _ => none
def nb_bast (c : Bool) (L st : List nb_V) (M : nb_M) (k : nb_K) : nb_A := match st with
  | _ :: _ :: a :: _ => if a.1 = 4 then nb_ast 1 0 nb_i2b c L st M k else nb_ast 3 0 nb_i2z c L st M k
  | _ => none
def nb_alen (c : Bool) (L st : List nb_V) (M : nb_M) (k : nb_K) : nb_A := match st with
  | a :: st => if 3 ≤ a.1 ∧ a.1 ≤ 10 then k (c && !decide (a.2 = 0)) L ((0, nb_ln M a.2) :: st) M else none
  | [] => none
/-- a field: class, place, tag, whether boolean -/
abbrev nb_F : Type := Nat × Nat × Nat × Bool
def nb_getf (f : Option nb_F) (c : Bool) (L st : List nb_V) (M : nb_M) (k : nb_K) : nb_A := match f with
  | some f => match st with
    | a :: st => if a.1 = 11 + f.1 then k (c && !decide (a.2 = 0)) L ((f.2.2.1, nb_rd M a.2 (f.2.1 : Int)) :: st) M else none
    | [] => none
  | none => none
def nb_putf (f : Option nb_F) (c : Bool) (L st : List nb_V) (M : nb_M) (k : nb_K) : nb_A := match f with
  | some f => match st with
    | v :: a :: st => if a.1 = 11 + f.1 ∧ v.1 = f.2.2.1 then k (c && (!decide (a.2 = 0) && (!f.2.2.2 || (decide (v.2 = 0) || decide (v.2 = 1))))) L st (nb_wr M a.2 (f.2.1 : Int) v.2) else none
    | _ => none
  | none => none
/-- the cells and slots of no interest bar new cells: an address couldn't be known -/
def nb_new (kd n : Nat) (c : Bool) (L st : List nb_V) (M : nb_M) (k : nb_K) : nb_A := k (c && decide (M.2.2.1 = 0)) L ((3 + kd, nb_nx M) :: st) (nb_al M kd n)
def nb_newa (kd : Nat) (c : Bool) (L st : List nb_V) (M : nb_M) (k : nb_K) : nb_A := match st with
  | n :: st => if n.1 = 0 then k (c && (decide (M.2.2.1 = 0) && (decide (0 ≤ n.2) && decide (n.2 ≤ 100000)))) L ((3 + kd, nb_nx M) :: st) (nb_al M kd n.2.toNat) else none
  | [] => none
def nb_newm (c : Bool) (L st : List nb_V) (M : nb_M) (k : nb_K) : nb_A := match st with
  | d :: n :: st => if d.1 = 0 ∧ n.1 = 0 then k (c && (decide (M.2.2.1 = 0) && (decide (0 ≤ n.2) && (decide (n.2 ≤ 1000) && (decide (0 ≤ d.2) && decide (d.2 ≤ 1000)))))) L ((10, nb_nx M) :: st) (nb_alm M n.2.toNat d.2.toNat) else none
  | _ => none
/-- a block: where it begins, its straight stretch, its last instruction and that one's length, the blocks that follow, the method that it calls -/
abbrev nb_B : Type := Nat × List (Instr × Nat) × Instr × Nat × List Nat × Nat
/-- a method: its class, its locals, what it returns (0 nothing, 1 int, 2 boolean, 3 long, 4 a reference), its arguments, its level -/
abbrev nb_X : Type := Nat × Nat × Nat × Nat × Nat
/-- a program: fields, constants, classes by class and pool index; blocks, methods, texts -/
abbrev nb_G : Type := (Nat → Nat → Option nb_F) × (Nat → Nat → Option nb_V) × (Nat → Nat → Option (Nat × Nat)) × (Nat → Nat → Option nb_B) × (Nat → Option nb_X) × (Int → List Int)
def nb_cst (t : Nat) (v : Option nb_V) (c : Bool) (L st : List nb_V) (M : nb_M) (k : nb_K) : nb_A := match v with
  | some v => if v.1 = t then k c L (v :: st) M else none
  | none => none
def nb_ldc (v : Option nb_V) (c : Bool) (L st : List nb_V) (M : nb_M) (k : nb_K) : nb_A := match v with
  | some v => if v.1 = 0 ∨ v.1 = 2 then k c L (v :: st) M else none
  | none => none
def nb_newc (v : Option (Nat × Nat)) (c : Bool) (L st : List nb_V) (M : nb_M) (k : nb_K) : nb_A := match v with
  | some v => if 8 ≤ v.1 then nb_new v.1 v.2 c L st M k else none
  | none => none
/-- the kind of the arrays over a class -/
def nb_over (kd : Nat) : Nat := match kd with
  | 8 => 4
  | 13 => 5
  | 12 => 6
  | _ => 99
def nb_newr (v : Option (Nat × Nat)) (c : Bool) (L st : List nb_V) (M : nb_M) (k : nb_K) : nb_A := match v with
  | some v => if nb_over v.1 ≤ 6 then nb_newa (nb_over v.1) c L st M k else none
  | none => none
def nb_sx (G : nb_G) (own : Nat) (i : Instr) (c : Bool) (L st : List nb_V) (M : nb_M) (k : nb_K) : nb_A := match i with
  | .iconst n => nb_push (0, n) c L st M k
  | .bipush n => nb_push (0, n) c L st M k
  | .sipush n => nb_push (0, n) c L st M k
  | .lconst n => nb_push (1, ((n : Nat) : Int)) c L st M k
  | .ldc n => nb_ldc (G.2.1 own n) c L st M k
  | .ldc_w n => nb_ldc (G.2.1 own n) c L st M k
  | .ldc2_w n => nb_cst 1 (G.2.1 own n) c L st M k
  | .iload n => nb_load 0 0 n c L st M k
  | .iload_n n => nb_load 0 0 n c L st M k
  | .lload n => nb_load 1 1 n c L st M k
  | .lload_n n => nb_load 1 1 n c L st M k
  | .aload n => nb_load 2 89 n c L st M k
  | .aload_n n => nb_load 2 89 n c L st M k
  | .istore n => nb_store 0 0 n c L st M k
  | .istore_n n => nb_store 0 0 n c L st M k
  | .lstore n => nb_lstore n c L st M k
  | .lstore_n n => nb_lstore n c L st M k
  | .astore n => nb_store 2 89 n c L st M k
  | .astore_n n => nb_store 2 89 n c L st M k
  | .iinc n d => nb_iinc n d c L st M k
  | .iadd => nb_bin 0 0 0 nb_add c L st M k
  | .isub => nb_bin 0 0 0 nb_sub c L st M k
  | .imul => nb_bin 0 0 0 nb_mul c L st M k
  | .ineg => nb_un 0 0 nb_neg c L st M k
  | .idiv => nb_binz nb_div c L st M k
  | .irem => nb_binz nb_rem c L st M k
  | .iand => nb_bin 0 0 0 nb_and c L st M k
  | .ior => nb_bin 0 0 0 nb_or c L st M k
  | .ixor => nb_bin 0 0 0 nb_xor c L st M k
  | .ishl => nb_bin 0 0 0 nb_shl c L st M k
  | .ishr => nb_bin 0 0 0 nb_shr c L st M k
  | .iushr => nb_bin 0 0 0 nb_ushr c L st M k
  | .i2b => nb_un 0 0 nb_i2b c L st M k
  | .i2l => nb_un 0 1 nb_i2l c L st M k
  | .l2i => nb_un 1 0 nb_l2i c L st M k
  | .ladd => nb_bin 1 1 1 nb_ladd c L st M k
  | .lsub => nb_bin 1 1 1 nb_lsub c L st M k
  | .lmul => nb_bin 1 1 1 nb_lmul c L st M k
  | .lor => nb_bin 1 1 1 nb_lor c L st M k
  | .lshl => nb_bin 1 0 1 nb_lshl c L st M k
  | .lcmp => nb_bin 1 1 0 nb_lcmp c L st M k
  | .dup => nb_dup c L st M k
  | .dup2 => nb_dup2 c L st M k
  | .pop => nb_pop c L st M k
  | .iaload => nb_ald 0 0 c L st M k
  | .laload => nb_ald 2 1 c L st M k
  | .baload => nb_bald c L st M k
  | .aaload => nb_aald c L st M k
  | .iastore => nb_ast 0 0 (fun x => x) c L st M k
  | .lastore => nb_ast 2 1 (fun x => x) c L st M k
  | .bastore => nb_bast c L st M k
  | .aastore => nb_aast c L st M k
  | .arraylength => nb_alen c L st M k
  | .getfield n => nb_getf (G.1 own n) c L st M k
  | .putfield n => nb_putf (G.1 own n) c L st M k
  | .new n => nb_newc (G.2.2.1 own n) c L st M k
  | .newarray .int => nb_newa 0 c L st M k
  | .newarray .byte => nb_newa 1 c L st M k
  | .newarray .long => nb_newa 2 c L st M k
  | .newarray .boolean => nb_newa 3 c L st M k
  | .anewarray n => nb_newr (G.2.2.1 own n) c L st M k
  | .multianewarray _ 2 => nb_newm c L st M k
  | _ => none
def nb_str (G : nb_G) (own : Nat) : List (Instr × Nat) → Bool → List nb_V → List nb_V → nb_M → nb_K → nb_A
  | [], c, L, st, M, k => k c L st M
  | i :: is, c, L, st, M, k => nb_sx G own i.1 c L st M (fun c L st M => nb_str G own is c L st M k)
/-- the arguments as locals -/
def nb_lay : List nb_V → List nb_V
  | [] => []
  | v :: vs => if v.1 = 1 then v :: (98, 0) :: nb_lay vs else v :: nb_lay vs
def nb_ent (vs : List nb_V) (n : Nat) : List nb_V := nb_lay vs ++ List.replicate (n - (nb_lay vs).length) (98, 0)
def nb_wt : List nb_V → Nat
  | [] => 0
  | v :: vs => (if v.1 = 1 then 2 else 1) + nb_wt vs
def nb_swt (rec : Nat → nb_A) (x : Int) (d : Nat) : Int → List Nat → nb_A
  | _, [] => rec d
  | lo, t :: ts => if x = lo then rec t else nb_swt rec x d (lo + 1) ts
def nb_lsw (rec : Nat → nb_A) (x : Int) (d : Nat) : List (Int × Int) → List Nat → nb_A
  | k :: ks, t :: ts => if x = k.1 then rec t else nb_lsw rec x d ks ts
  | _, _ => rec d
/-- ints copied from one array into another one -/
def nb_cpy (M : nb_M) (a i b j : Int) (n : Int) : nb_M := (fun a' i' => if a' = b ∧ j ≤ i' ∧ i' < j + n then M.1 a (i' - j + i) else M.1 a' i', M.2)
/-- the law's led: it asks method 0 of the object in the sixth field -/
def nb_led (rec : Nat → List nb_V → nb_M → nb_A) (x i o : Int) (M : nb_M) : nb_A :=
  if x = 0 ∨ nb_rd M x 5 = 0 ∨ o < 2 ∨ nb_ln M o ≤ 0 then none else
  if i < 0 then some ([(0, 1)], nb_jk M) else
  (rec 0 [(15, nb_rd M x 5), (0, i)] M).bind fun r => match r.1 with
    | [(0, p)] => if p < -2147483648 ∨ 2147483647 < p then none else if p < 0 then some ([(0, 1)], nb_jk r.2) else some ([(0, 0)], nb_wr r.2 o 0 p)
    | _ => none
/-- calls that aren't walked: 900 Object.<init>, 901 String.length, 902 String.charAt, 903 System.arraycopy of ints; 904 the law's led; 905, 906, 907 Math.max, min, abs -/
def nb_prim (G : nb_G) (rec : Nat → List nb_V → nb_M → nb_A) (c : Nat) (vs : List nb_V) (M : nb_M) : nb_A := match c, vs with
  | 900, [(_ + 3, _)] => some ([], M)
  | 901, [(2, k)] => if 0 < (G.2.2.2.2.2 k).length then some ([(0, ((G.2.2.2.2.2 k).length : Int))], M) else none
  | 902, [(2, k), (0, i)] => if 0 ≤ i ∧ i < ((G.2.2.2.2.2 k).length : Int) then some ([(0, (G.2.2.2.2.2 k).getD i.toNat 0)], M) else none
  | 903, [(3, a), (0, i), (3, b), (0, j), (0, n)] => if 2 ≤ a ∧ 2 ≤ b ∧ a ≠ b ∧ 0 ≤ i ∧ 0 ≤ j ∧ 0 ≤ n ∧ i + n ≤ nb_ln M a ∧ j + n ≤ nb_ln M b then some ([], nb_cpy M a i b j n) else none
  | 904, [(19, x), (0, i), (5, o)] => nb_led rec x i o M
  | 905, [(0, x), (0, y)] => some ([(0, if x < y then y else x)], M)
  | 906, [(0, x), (0, y)] => some ([(0, if y < x then y else x)], M)
  | 907, [(0, x)] => some ([(0, if 0 ≤ x then x else nb_neg x)], M)
  | _, _ => none
/-- a method is entered, if its arguments fit its locals -/
def nb_entr (G : nb_G) (rec : Nat → Nat → List nb_V → List nb_V → nb_M → nb_A) (c : Nat) (X : nb_X) (vs : List nb_V) (M : nb_M) : nb_A := if (nb_lay vs).length ≤ X.2.1 then rec c 0 (nb_ent vs X.2.1) [] M else none
def nb_cal (G : nb_G) (rec : Nat → Nat → List nb_V → List nb_V → nb_M → nb_A) (c : Nat) (vs : List nb_V) (M : nb_M) : nb_A :=
  match G.2.2.2.2.1 c with
  | some X => nb_entr G rec c X vs M
  | none => nb_prim G (fun c' vs' M' => match G.2.2.2.2.1 c' with
      | some X => nb_entr G rec c' X vs' M'
      | none => none) c vs M
/-- the receiver is of the method's class -/
def nb_rcok (G : nb_G) (c t : Nat) : Bool := match G.2.2.2.2.1 c with
  | some X => t == 11 + X.1
  | none => true
/-- how many values a call takes -/
def nb_npar (G : nb_G) (c : Nat) : Nat := match G.2.2.2.2.1 c with
  | some X => X.2.2.2.1
  | none => match c with
    | 900 => 1
    | 901 => 1
    | 902 => 2
    | 903 => 5
    | 905 => 2
    | 906 => 2
    | 907 => 1
    | _ => 3
def nb_inv (G : nb_G) (rec : Nat → Nat → List nb_V → List nb_V → nb_M → nb_A) (m t c : Nat) (virt : Bool) (L st : List nb_V) (M : nb_M) : nb_A :=
  if nb_npar G c ≤ st.length ∧ nb_wt (st.drop (nb_npar G c)) ≤ 8 then
    (match (st.take (nb_npar G c)).reverse with
    | v :: vs => if virt = true ∧ nb_rcok G c v.1 = false then none else if virt = true ∧ v.2 = 0 then none else
      (nb_cal G rec c (v :: vs) M).bind fun r => rec m t L (r.1 ++ st.drop (nb_npar G c)) r.2
    | [] => (nb_cal G rec c [] M).bind fun r => rec m t L (r.1 ++ st.drop (nb_npar G c)) r.2)
  else none
def nb_ter (G : nb_G) (rec : Nat → Nat → List nb_V → List nb_V → nb_M → nb_A) (m ret : Nat) (i : Instr) (ts : List Nat) (c : Nat) (L st : List nb_V) (M : nb_M) : nb_A := match i, ts, st with
  | .nop, [t], st => rec m t L st M
  | .goto _, [t], st => rec m t L st M
  | .ifCond .eq _, [t, f], (0, x) :: st => if x = 0 then rec m t L st M else rec m f L st M
  | .ifCond .ne _, [t, f], (0, x) :: st => if x = 0 then rec m f L st M else rec m t L st M
  | .ifCond .lt _, [t, f], (0, x) :: st => if x < 0 then rec m t L st M else rec m f L st M
  | .ifCond .ge _, [t, f], (0, x) :: st => if x < 0 then rec m f L st M else rec m t L st M
  | .ifCond .gt _, [t, f], (0, x) :: st => if 0 < x then rec m t L st M else rec m f L st M
  | .ifCond .le _, [t, f], (0, x) :: st => if 0 < x then rec m f L st M else rec m t L st M
  | .if_icmp .eq _, [t, f], (0, y) :: (0, x) :: st => if x = y then rec m t L st M else rec m f L st M
  | .if_icmp .ne _, [t, f], (0, y) :: (0, x) :: st => if x = y then rec m f L st M else rec m t L st M
  | .if_icmp .lt _, [t, f], (0, y) :: (0, x) :: st => if x < y then rec m t L st M else rec m f L st M
  | .if_icmp .ge _, [t, f], (0, y) :: (0, x) :: st => if x < y then rec m f L st M else rec m t L st M
  | .if_icmp .gt _, [t, f], (0, y) :: (0, x) :: st => if y < x then rec m t L st M else rec m f L st M
  | .if_icmp .le _, [t, f], (0, y) :: (0, x) :: st => if y < x then rec m f L st M else rec m t L st M
  | .tableswitch _ lo _ _, d :: ts, (0, x) :: st => nb_swt (fun t => rec m t L st M) x d lo ts
  | .lookupswitch _ ks, d :: ts, (0, x) :: st => nb_lsw (fun t => rec m t L st M) x d ks.toList ts
  | .ireturn, [], [(0, x)] => if ret = 2 then some ([(0, nb_i2z x)], M) else if ret = 1 then some ([(0, x)], M) else none
  | .lreturn, [], [(1, x)] => if ret = 3 then some ([(1, x)], M) else none
  | .areturn, [], [(t, x)] => if ret = 4 ∧ 3 ≤ t ∧ t < 90 then some ([(t, x)], M) else none
  | .return_, [], [] => if ret = 0 then some ([], M) else none
  | .invokevirtual _, [t], st => nb_inv G rec m t c true L st M
  | .invokespecial _, [t], st => nb_inv G rec m t c true L st M
  | .invokestatic _, [t], st => nb_inv G rec m t c false L st M
  | _, _, _ => none
def nb_fin (G : nb_G) (rec : Nat → Nat → List nb_V → List nb_V → nb_M → nb_A) (m ret : Nat) (i : Instr) (ts : List Nat) (cl : Nat) : nb_K := fun c L st M => if c = true then nb_ter G rec m ret i ts cl L st M else none
def nb_blk (G : nb_G) (rec : Nat → Nat → List nb_V → List nb_V → nb_M → nb_A) (m k : Nat) (L st : List nb_V) (M : nb_M) : nb_A := match G.2.2.2.2.1 m with
  | some X => match G.2.2.2.1 m k with
    | some B => nb_str G X.1 B.2.1 true L st M (nb_fin G rec m X.2.2.1 B.2.2.1 B.2.2.2.2.1 B.2.2.2.2.2)
    | none => none
  | none => none
def nb_run (G : nb_G) : Nat → Nat → Nat → List nb_V → List nb_V → nb_M → nb_A
  | 0 => fun _ _ _ _ _ => none
  | n + 1 => nb_blk G (nb_run G n)
