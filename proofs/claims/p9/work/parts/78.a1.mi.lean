/-! THE MACHINE OVER INTEGERS: an int is known by its value; what must hold on the way is gathered in a list; calls of the methods in a table are followed -/
abbrev mi_V : Type := Int ⊕ Int64 ⊕ Nat
abbrev mi_L : Type := List (Option mi_V)
/-- what was written: an int field, a long field, an int of an array, a long of an array -/
abbrev mi_U : Type := (Nat × Int) ⊕ (Nat × Int64) ⊕ (Nat × Nat × Int) ⊕ (Nat × Nat × Int64)
def mi_c (v : mi_V) : Value := match v with
  | .inl z => .int (Int32.ofInt z)
  | .inr (.inl x) => .long x
  | .inr (.inr n) => .ref n
def mi_cl (ls : mi_L) : sm_L := ls.map (Option.map mi_c)
def mi_cU (u : mi_U) : mx_U := match u with
  | .inl (c, z) => .inl (c, .int (Int32.ofInt z))
  | .inr (.inl (c, x)) => .inl (c, .long x)
  | .inr (.inr (.inl (k, i, z))) => .inr (.inl (k, i, Int32.ofInt z))
  | .inr (.inr (.inr (k, i, x))) => .inr (.inr (k, i, x))
def mi_in (z : Int) : Prop := -2147483648 ≤ z ∧ z ≤ 2147483647
def mi_ok (v : mi_V) : Prop := match v with
  | .inl z => mi_in z
  | _ => True
def mi_okL (ls : mi_L) : Prop := ∀ v, some v ∈ ls → mi_ok v
def mi_okS (st : List mi_V) : Prop := ∀ v ∈ st, mi_ok v
def mi_okO (O : List mi_U) : Prop := ∀ u ∈ O, match u with
  | .inl (_, z) => mi_in z
  | .inr (.inr (.inl (_, _, z))) => mi_in z
  | _ => True
/-- what lies in a field, in an array -/
def mi_f (h : sm_H) (c : Nat) : Int := (mx_i h c).toInt
def mi_a (h : sm_H) (k i : Nat) : Int := (mx_a h k i).toInt
def mi_ri : List mi_U → Nat → sm_H → Int
  | [], c, h => mi_f h c
  | .inl (c0, z) :: r, c, h => if c = c0 then z else mi_ri r c h
  | .inr (.inl (c0, _)) :: r, c, h => if c = c0 then 0 else mi_ri r c h
  | .inr (.inr _) :: r, c, h => mi_ri r c h
def mi_rl : List mi_U → Nat → sm_H → Int64
  | [], c, h => mx_l h c
  | .inl (c0, _) :: r, c, h => if c = c0 then 0 else mi_rl r c h
  | .inr (.inl (c0, x)) :: r, c, h => if c = c0 then x else mi_rl r c h
  | .inr (.inr _) :: r, c, h => mi_rl r c h
def mi_ra : List mi_U → Nat → Nat → sm_H → Int
  | [], k, i, h => mi_a h k i
  | .inr (.inr (.inl (k0, i0, z))) :: r, k, i, h => if k = k0 then (if i = i0 then z else mi_ra r k i h) else mi_ra r k i h
  | .inl _ :: r, k, i, h => mi_ra r k i h
  | .inr (.inl _) :: r, k, i, h => mi_ra r k i h
  | .inr (.inr (.inr _)) :: r, k, i, h => mi_ra r k i h
def mi_rb : List mi_U → Nat → Nat → sm_H → Int64
  | [], k, i, h => mx_b h k i
  | .inr (.inr (.inr (k0, i0, x))) :: r, k, i, h => if k = k0 then (if i = i0 then x else mi_rb r k i h) else mi_rb r k i h
  | .inl _ :: r, k, i, h => mi_rb r k i h
  | .inr (.inl _) :: r, k, i, h => mi_rb r k i h
  | .inr (.inr (.inl _)) :: r, k, i, h => mi_rb r k i h
def mi_lget (ls : mi_L) (i : Nat) : Option mi_V := match ls[i]? with
  | some (some v) => some v
  | _ => none
def mi_kill (ls : mi_L) (i : Nat) : mi_L := match i with
  | 0 => ls
  | j + 1 => match ls[j]? with
    | some (some (.inr (.inl _))) => ls.set j none
    | _ => ls
def mi_put1 (ls : mi_L) (i : Nat) (v : mi_V) : Option mi_L := if i < ls.length then some ((mi_kill ls i).set i (some v)) else none
def mi_put2 (ls : mi_L) (i : Nat) (v : mi_V) : Option mi_L := if i + 1 < ls.length then some (((mi_kill ls i).set i (some v)).set (i + 1) none) else none
def mi_cmp (c : ClassFile.Cond) (x y : Int) : Prop := match c with
  | .eq => x = y
  | .ne => x ≠ y
  | .lt => x < y
  | .ge => y ≤ x
  | .gt => y < x
  | .le => x ≤ y
def mi_cat (v : mi_V) : Nat := match v with
  | .inr (.inl _) => 2
  | _ => 1
/-- bounds that say something -/
def mi_bd (lo hi z : Int) : List Prop := if lo ≤ -2147483648 ∧ 2147483647 ≤ hi then [] else [lo ≤ z ∧ z ≤ hi]
def mi_bdL (lo hi : Int) (x : Int64) : List Prop := if lo ≤ -9223372036854775808 ∧ 9223372036854775807 ≤ hi then [] else [lo ≤ x.toInt ∧ x.toInt ≤ hi]
abbrev mi_R : Type := Nat × mi_L × List mi_V × List mi_U × List Prop
def mi_ld (n pc : Nat) (ls : mi_L) (st : List mi_V) (O : List mi_U) (v : Option mi_V) : Option mi_R := match v with
  | some w => some (pc + n, ls, w :: st, O, [])
  | none => none
def mi_isI (v : Option mi_V) : Option mi_V := match v with
  | some (.inl z) => some (.inl z)
  | _ => none
def mi_isL (v : Option mi_V) : Option mi_V := match v with
  | some (.inr (.inl z)) => some (.inr (.inl z))
  | _ => none
def mi_isA (v : Option mi_V) : Option mi_V := match v with
  | some (.inr (.inr z)) => some (.inr (.inr z))
  | _ => none
def mi_sto (n : Nat) (pc : Nat) (st : List mi_V) (O : List mi_U) (ls' : Option mi_L) : Option mi_R := match ls' with
  | some l => some (pc + n, l, st, O, [])
  | none => none
/-- a number out of two, as the machine makes it -/
def mi_raw (f : Int32 → Int32 → Int32) (pc : Nat) (ls : mi_L) (st : List mi_V) (O : List mi_U) : Option mi_R := match st with
  | .inl y :: .inl x :: r => some (pc + 1, ls, .inl (f (Int32.ofInt x) (Int32.ofInt y)).toInt :: r, O, [])
  | _ => none
def mi_binL (f : Int64 → Int64 → Int64) (pc : Nat) (ls : mi_L) (st : List mi_V) (O : List mi_U) : Option mi_R := match st with
  | .inr (.inl y) :: .inr (.inl x) :: r => some (pc + 1, ls, .inr (.inl (f x y)) :: r, O, [])
  | _ => none
def mi_shL (f : Int64 → Int32 → Int64) (pc : Nat) (ls : mi_L) (st : List mi_V) (O : List mi_U) : Option mi_R := match st with
  | .inl y :: .inr (.inl x) :: r => some (pc + 1, ls, .inr (.inl (f x (Int32.ofInt y))) :: r, O, [])
  | _ => none
def mi_ald (t0 : Nat) (sk : ab_K) (pc : Nat) (ls : mi_L) (st : List mi_V) (h : sm_H) (O : List mi_U) : Option mi_R := match st with
  | .inl x :: .inr (.inr a) :: r => (match mo_ak sk a with
    | some (t, n, _, _) => if t = t0 then some (pc + 1, ls, .inl (mi_ra O a x.toNat h) :: r, O, [0 ≤ x ∧ x < (n : Int)]) else none
    | none => none)
  | _ => none
def mi_if (c : ClassFile.Cond) (x y : Int) (pc : Nat) (off : Int) (ls : mi_L) (r : List mi_V) (O : List mi_U) (b : Nat) : Option mi_R := if b = 1 then some (sm_jmp pc off, ls, r, O, [mi_cmp c x y]) else some (pc + 3, ls, r, O, [mi_cmp (ab_neg c) x y])
def mi_step (sk : ab_K) (q : sm_I) (pc : Nat) (ls : mi_L) (st : List mi_V) (h : sm_H) (O : List mi_U) (b : Nat) : Option mi_R := match q with
  | (i, _, rs) => match i with
    | .iconst n => some (pc + 1, ls, .inl (Int32.ofInt n).toInt :: st, O, [])
    | .bipush n => some (pc + 2, ls, .inl (Int8.ofInt n).toInt32.toInt :: st, O, [])
    | .sipush n => some (pc + 3, ls, .inl (Int16.ofInt n).toInt32.toInt :: st, O, [])
    | .lconst n => some (pc + 1, ls, .inr (.inl (Int64.ofNat (n : Nat))) :: st, O, [])
    | .ldc _ => match rs with
      | [0, n] => some (pc + 2, ls, .inl (Int32.ofNat n).toInt :: st, O, [])
      | _ => none
    | .ldc_w _ => match rs with
      | [0, n] => some (pc + 3, ls, .inl (Int32.ofNat n).toInt :: st, O, [])
      | _ => none
    | .ldc2_w _ => match rs with
      | [n] => some (pc + 3, ls, .inr (.inl (Int64.ofNat n)) :: st, O, [])
      | _ => none
    | .iload_n k => mi_ld 1 pc ls st O (mi_isI (mi_lget ls k))
    | .iload k => mi_ld 2 pc ls st O (mi_isI (mi_lget ls k))
    | .lload_n k => mi_ld 1 pc ls st O (mi_isL (mi_lget ls k))
    | .lload k => mi_ld 2 pc ls st O (mi_isL (mi_lget ls k))
    | .aload_n k => mi_ld 1 pc ls st O (mi_isA (mi_lget ls k))
    | .aload k => mi_ld 2 pc ls st O (mi_isA (mi_lget ls k))
    | .istore_n k => match st with
      | .inl z :: r => mi_sto 1 pc r O (mi_put1 ls k (.inl z))
      | _ => none
    | .istore k => match st with
      | .inl z :: r => mi_sto 2 pc r O (mi_put1 ls k (.inl z))
      | _ => none
    | .lstore_n k => match st with
      | .inr (.inl z) :: r => mi_sto 1 pc r O (mi_put2 ls k (.inr (.inl z)))
      | _ => none
    | .lstore k => match st with
      | .inr (.inl z) :: r => mi_sto 2 pc r O (mi_put2 ls k (.inr (.inl z)))
      | _ => none
    | .iinc k n => match mi_lget ls k with
      | some (.inl z) => match mi_put1 ls k (.inl (z + (Int32.ofInt n).toInt)) with
        | some l => some (pc + 3, l, st, O, [mi_in (z + (Int32.ofInt n).toInt)])
        | none => none
      | _ => none
    | .iadd => match st with
      | .inl y :: .inl x :: r => if b = 9 then some (pc + 1, ls, .inl (Int32.ofInt x + Int32.ofInt y).toInt :: r, O, []) else some (pc + 1, ls, .inl (x + y) :: r, O, [mi_in (x + y)])
      | _ => none
    | .isub => match st with
      | .inl y :: .inl x :: r => if b = 9 then some (pc + 1, ls, .inl (Int32.ofInt x - Int32.ofInt y).toInt :: r, O, []) else some (pc + 1, ls, .inl (x - y) :: r, O, [mi_in (x - y)])
      | _ => none
    | .imul => match st with
      | .inl y :: .inl x :: r => some (pc + 1, ls, .inl (x * y) :: r, O, [mi_in (x * y)])
      | _ => none
    | .iand => mi_raw (· &&& ·) pc ls st O
    | .ior => mi_raw (· ||| ·) pc ls st O
    | .ishl => mi_raw (fun x y => x <<< (y &&& 31)) pc ls st O
    | .ishr => mi_raw (fun x y => x >>> (y &&& 31)) pc ls st O
    | .ladd => mi_binL (· + ·) pc ls st O
    | .lsub => mi_binL (· - ·) pc ls st O
    | .lmul => mi_binL (· * ·) pc ls st O
    | .land => mi_binL (· &&& ·) pc ls st O
    | .lor => mi_binL (· ||| ·) pc ls st O
    | .lxor => mi_binL (· ^^^ ·) pc ls st O
    | .lushr => mi_shL (fun x y => (x.toUInt64 >>> (y.toInt64.toUInt64 &&& Int64.toUInt64 63)).toInt64) pc ls st O
    | .lshl => mi_shL (fun x y => x <<< (y.toInt64 &&& 63)) pc ls st O
    | .lshr => mi_shL (fun x y => x >>> (y.toInt64 &&& 63)) pc ls st O
    | .lcmp => match st with
      | .inr (.inl y) :: .inr (.inl x) :: r => some (pc + 1, ls, .inl (lg_cmp x y).toInt :: r, O, [])
      | _ => none
    | .i2l => match st with
      | .inl x :: r => some (pc + 1, ls, .inr (.inl (Int32.ofInt x).toInt64) :: r, O, [])
      | _ => none
    | .l2i => match st with
      | .inr (.inl x) :: r => some (pc + 1, ls, .inl x.toInt32.toInt :: r, O, [])
      | _ => none
    | .dup => match st with
      | v :: r => if mi_cat v = 1 then some (pc + 1, ls, v :: v :: r, O, []) else none
      | _ => none
    | .pop => match st with
      | v :: r => if mi_cat v = 1 then some (pc + 1, ls, r, O, []) else none
      | _ => none
    | .dup_x1 => match st with
      | v :: w :: r => if mi_cat v = 1 ∧ mi_cat w = 1 then some (pc + 1, ls, v :: w :: v :: r, O, []) else none
      | _ => none
    | .dup_x2 => match st with
      | v :: w :: u :: r => if mi_cat v = 1 ∧ mi_cat w = 1 ∧ mi_cat u = 1 then some (pc + 1, ls, v :: w :: u :: v :: r, O, []) else none
      | _ => none
    | .dup2 => match st with
      | .inl v :: .inr (.inr w) :: r => some (pc + 1, ls, .inl v :: .inr (.inr w) :: .inl v :: .inr (.inr w) :: r, O, [])
      | _ => none
    | .goto off => some (sm_jmp pc off, ls, st, O, [])
    | .if_icmp c off => match st with
      | .inl y :: .inl x :: r => mi_if c x y pc off ls r O b
      | _ => none
    | .ifCond c off => match st with
      | .inl x :: r => mi_if c x 0 pc off ls r O b
      | _ => none
    | .tableswitch d lo hi offs => match st with
      | .inl x :: r => if b = 1000 then some (sm_jmp pc d, ls, r, O, [x < lo ∨ hi < x]) else (match offs[b]? with
        | some off => some (sm_jmp pc off, ls, r, O, [x = lo + (b : Int) ∧ x ≤ hi])
        | none => none)
      | _ => none
    | .idiv => match st with
      | .inl y :: .inl x :: r => some (pc + 1, ls, .inl (Int32.ofInt x / Int32.ofInt y).toInt :: r, O, [y ≠ 0])
      | _ => none
    | .irem => match st with
      | .inl y :: .inl x :: r => some (pc + 1, ls, .inl (Int32.ofInt x - Int32.ofInt x / Int32.ofInt y * Int32.ofInt y).toInt :: r, O, [y ≠ 0])
      | _ => none
    | .lrem => match st with
      | .inr (.inl y) :: .inr (.inl x) :: r => some (pc + 1, ls, .inr (.inl (x - x / y * y)) :: r, O, [y ≠ 0])
      | _ => none
    | .getfield _ => match st, rs with
      | .inr (.inr a) :: r, k :: z :: cs => if z = 0 then (match mo_fk sk a k cs with
        | some (t, lo, _) => some (pc + 3, ls, (if t = 0 then .inl (mi_ri O (a * 128 + k) h) else if t = 1 then .inr (.inl (mi_rl O (a * 128 + k) h)) else .inr (.inr lo.toNat)) :: r, O, [])
        | none => none) else none
      | _, _ => none
    | .putfield _ => match st, rs with
      | .inl x :: .inr (.inr a) :: r, k :: t :: _ :: cs => (match mo_fk sk a k cs with
        | some (t', lo, hi) => if t' = 0 ∧ (t = 0 ∨ t = 3) then some (pc + 3, ls, r, .inl (a * 128 + k, x) :: O, (if t = 3 then [0 ≤ x ∧ x ≤ 1] else []) ++ mi_bd lo hi x) else none
        | none => none)
      | .inr (.inl x) :: .inr (.inr a) :: r, k :: t :: _ :: cs => (match mo_fk sk a k cs with
        | some (t', lo, hi) => if t' = 1 ∧ t = 1 then some (pc + 3, ls, r, .inr (.inl (a * 128 + k, x)) :: O, mi_bdL lo hi x) else none
        | none => none)
      | _, _ => none
    | .iaload => mi_ald 0 sk pc ls st h O
    | .baload => mi_ald 3 sk pc ls st h O
    | .iastore => match st with
      | .inl y :: .inl x :: .inr (.inr a) :: r => (match mo_ak sk a with
        | some (t, n, lo, hi) => if t = 0 then some (pc + 1, ls, r, .inr (.inr (.inl (a, x.toNat, y))) :: O, [0 ≤ x ∧ x < (n : Int)] ++ mi_bd lo hi y) else none
        | none => none)
      | _ => none
    | .bastore => match st with
      | .inl y :: .inl x :: .inr (.inr a) :: r => (match mo_ak sk a with
        | some (t, n, lo, hi) => if t = 3 ∧ lo = 0 ∧ hi = 1 then some (pc + 1, ls, r, .inr (.inr (.inl (a, x.toNat, y))) :: O, [0 ≤ x ∧ x < (n : Int), 0 ≤ y ∧ y ≤ 1]) else none
        | none => none)
      | _ => none
    | .laload => match st with
      | .inl x :: .inr (.inr a) :: r => (match mo_ak sk a with
        | some (t, n, _, _) => if t = 1 then some (pc + 1, ls, .inr (.inl (mi_rb O a x.toNat h)) :: r, O, [0 ≤ x ∧ x < (n : Int)]) else none
        | none => none)
      | _ => none
    | .lastore => match st with
      | .inr (.inl y) :: .inl x :: .inr (.inr a) :: r => (match mo_ak sk a with
        | some (t, n, lo, hi) => if t = 1 then some (pc + 1, ls, r, .inr (.inr (.inr (a, x.toNat, y))) :: O, [0 ≤ x ∧ x < (n : Int)] ++ mi_bdL lo hi y) else none
        | none => none)
      | _ => none
    | _ => none
/-! calls and ends -/
def mi_args (n : Nat) (st : List mi_V) : Option (List mi_V × List mi_V) := if n ≤ st.length then some ((st.take n).reverse, st.drop n) else none
def mi_call (q : sm_I) (st : List mi_V) : Option (Nat × List mi_V × List mi_V) := match q.1, q.2.2 with
  | .invokestatic _, [_, m, n] => match mi_args n st with
    | some (as, r) => some (m, as, r)
    | none => none
  | .invokevirtual _, [_, n, ci, m] => if ci = 11 then (match mi_args (n + 1) st with
    | some (.inr (.inr a) :: as, r) => if a = 109 then some (m, .inr (.inr a) :: as, r) else none
    | _ => none) else none
  | _, _ => none
def mi_ret (q : sm_I) (k : Nat) (st : List mi_V) : Option (Option mi_V × List Prop) := match q.1, st with
  | .ireturn, [.inl z] => if k = 1 then some (some (.inl z), []) else if k = 4 then some (some (.inl z), [z = 0 ∨ z = 1]) else none
  | .lreturn, [.inr (.inl x)] => if k = 2 then some (some (.inr (.inl x)), []) else none
  | .return_, [] => if k = 0 then some (none, []) else none
  | _, _ => none
def mi_slots : List mi_V → mi_L
  | [] => []
  | v :: vs => if mi_cat v = 2 then some v :: none :: mi_slots vs else some v :: mi_slots vs
def mi_entry (n : Nat) (as : List mi_V) : mi_L := mi_slots as ++ List.replicate (n - (mi_slots as).length) none
def mi_back (v : Option mi_V) (r : List mi_V) : List mi_V := match v with
  | some x => x :: r
  | none => r
abbrev mi_F : Type := Nat × Nat × mi_L × List mi_V
/-- depth, method, place, locals, stack, what was written, callers that wait -/
abbrev mi_S : Type := Nat × Nat × Nat × mi_L × List mi_V × List mi_U × List mi_F
abbrev mi_T : Type := List (Nat × sm_M)
def mi_find : mi_T → Nat → Option sm_M
  | [], _ => none
  | e :: r, m => if e.1 = m then some e.2 else mi_find r m
/-- which instructions take one of the numbers that say the way: branches; sums and differences where it is 8, or 9 (as the machine makes them) -/
def mi_br (q : sm_I) (b : Nat) : Bool := match q.1 with
  | .if_icmp _ _ | .ifCond _ _ | .tableswitch _ _ _ _ => true
  | .iadd | .isub => b == 8 || b == 9
  | _ => false
def mi_pre (ob : List Prop) (R : Option (mi_S × List Prop)) : Option (mi_S × List Prop) := match R with
  | some (S, ob2) => some (S, ob ++ ob2)
  | none => none
def mi_path (T : mi_T) (sk : ab_K) (h : sm_H) : Nat → List Nat → mi_S → Option (mi_S × List Prop)
  | 0, _, S => some (S, [])
  | n + 1, bs, (d, m, pc, ls, st, O, F) => match mi_find T m with
    | none => none
    | some (_, k, tab) => match tab[pc]? with
      | some (some q) => match mi_step sk q pc ls st h O (bs.headD 0) with
        | some (pc', ls', st', O', ob) => mi_pre ob (mi_path T sk h n (if mi_br q (bs.headD 0) then bs.tail else bs) (d, m, pc', ls', st', O', F))
        | none => match mi_call q st with
          | some (m', as, r) => match d, mi_find T m' with
            | d' + 1, some (nl, _, _) => if (mi_slots as).length ≤ nl ∧ (r.map mi_cat).sum ≤ 8 then mi_path T sk h n bs (d', m', 0, mi_entry nl as, [], O, (m, pc, ls, r) :: F) else none
            | _, _ => none
          | none => match mi_ret q k st, F with
            | some (rv, ob), f :: F' => mi_pre ob (mi_path T sk h n bs (d + 1, f.1, f.2.1 + 3, f.2.2.1, mi_back rv f.2.2.2, O, F'))
            | _, _ => none
      | _ => none
