/-! THE SMALL MACHINE. A machine of our own over pictures of the cells: a cell is known by its place in a list, a reference is such a place.
A run of it is a run of the JVM (part 11); all that is said of the programs is said of it. -/
/-- a cell: an array (the number of its class in 'tys', its contents), or an object (the number of its class in 'classes', its fields) -/
abbrev sm_E : Type := (Nat × vp_A) ⊕ (Nat × List Value)
abbrev sm_H : Type := List sm_E
abbrev sm_L : Type := List (Option Value)
/-- an instruction, its length, what its operand names (resolved) -/
abbrev sm_I : Type := Instr × Nat × List Nat
/-- a local -/
def sm_lget (ls : sm_L) (i : Nat) : Option Value := match ls[i]? with
  | some (some v) => some v
  | _ => none
/-- a store at i breaks a long that ends there -/
def sm_kill (ls : sm_L) (i : Nat) : sm_L := match i with
  | 0 => ls
  | j + 1 => match ls[j]? with
    | some (some v) => if v.category = 2 then ls.set j none else ls
    | _ => ls
def sm_put1 (ls : sm_L) (i : Nat) (v : Value) : Option sm_L := if i < ls.length then some ((sm_kill ls i).set i (some v)) else none
def sm_put2 (ls : sm_L) (i : Nat) (v : Value) : Option sm_L := if i + 1 < ls.length then some (((sm_kill ls i).set i (some v)).set (i + 1) none) else none
def sm_jmp (pc : Nat) (off : Int) : Nat := ((pc : Int) + off).toNat
def sm_cmp (c : ClassFile.Cond) (x y : Int32) : Bool := match c with
  | .eq => decide (x = y)
  | .ne => !decide (x = y)
  | .lt => decide (x < y)
  | .ge => decide (y ≤ x)
  | .gt => decide (y < x)
  | .le => decide (x ≤ y)
/-- where one instruction leads: on; the method's answer; a call (method, arguments, what lies below them) -/
abbrev sm_R : Type := (Nat × sm_L × List Value × sm_H) ⊕ (Option Value ⊕ (Nat × List Value × List Value))
def sm_nx (pc : Nat) (ls : sm_L) (st : List Value) (h : sm_H) : Option sm_R := some (.inl (pc, ls, st, h))
def sm_ret (v : Option Value) : Option sm_R := some (.inr (.inl v))
def sm_call (m : Nat) (as rest : List Value) : Option sm_R := some (.inr (.inr (m, as, rest)))
/-- so many cells at the front of a picture were there before the law began, and are never written -/
def sm_C : Nat := 51
/-- a value fits a field of a kind: 0 int, 1 long, 2 reference, 3 boolean, 4 char -/
def sm_fit (t : Nat) (v : Value) : Bool := match t, v with
  | 0, .int _ => true
  | 1, .long _ => true
  | 2, .ref _ => true
  | 2, .null => true
  | 3, .int x => decide (x = 0 ∨ x = 1)
  | 4, .int x => decide (0 ≤ x ∧ x ≤ 65535)
  | _, _ => false
def sm_dflt (t : Nat) : Value := match t with
  | 1 => .long 0
  | 2 => .null
  | _ => .int 0
/-- an index of an array of n places -/
def sm_ix (x : Int32) (n : Nat) : Bool := decide (¬ x < 0 ∧ x.toNatClampNeg < n)
def sm_args (n : Nat) (st : List Value) : Option (List Value × List Value) := if n ≤ st.length then some ((st.take n).reverse, st.drop n) else none
/-- the method that a class number has in a list [class, method, class, method ..] -/
def sm_pick (ci : Nat) : List Nat → Option Nat
  | c :: m :: r => if c = ci then some m else sm_pick ci r
  | _ => none
def sm_bin (f : Int32 → Int32 → Int32) (pc : Nat) (ls : sm_L) (st : List Value) (h : sm_H) : Option sm_R := match st with
  | .int y :: .int x :: r => sm_nx (pc + 1) ls (.int (f x y) :: r) h
  | _ => none
def sm_binL (f : Int64 → Int64 → Int64) (pc : Nat) (ls : sm_L) (st : List Value) (h : sm_H) : Option sm_R := match st with
  | .long y :: .long x :: r => sm_nx (pc + 1) ls (.long (f x y) :: r) h
  | _ => none
def sm_load (n i pc : Nat) (ls : sm_L) (st : List Value) (h : sm_H) : Option sm_R := match sm_lget ls i with
  | some v => sm_nx (pc + n) ls (v :: st) h
  | none => none
def sm_isI (v : Value) : Bool := match v with | .int _ => true | _ => false
def sm_isL (v : Value) : Bool := match v with | .long _ => true | _ => false
def sm_isA (v : Value) : Bool := match v with | .ref _ => true | _ => false
def sm_loadK (k : Value → Bool) (n i pc : Nat) (ls : sm_L) (st : List Value) (h : sm_H) : Option sm_R := match sm_lget ls i with
  | some v => if k v then sm_nx (pc + n) ls (v :: st) h else none
  | none => none
def sm_store1 (k : Value → Bool) (n i pc : Nat) (ls : sm_L) (st : List Value) (h : sm_H) : Option sm_R := match st with
  | v :: r => if k v then (sm_put1 ls i v).bind (fun ls' => sm_nx (pc + n) ls' r h) else none
  | _ => none
def sm_store2 (n i pc : Nat) (ls : sm_L) (st : List Value) (h : sm_H) : Option sm_R := match st with
  | .long v :: r => (sm_put2 ls i (.long v)).bind (fun ls' => sm_nx (pc + n) ls' r h)
  | _ => none
/-- the array classes' numbers -/
def sm_ty (t : Nat) : Option FieldType := match t with
  | 0 => some .int
  | 1 => some .long
  | 2 => some .char
  | 3 => some .boolean
  | 4 => some .byte
  | _ => none
/-- an element of an array of class number t, of ints -/
def sm_ald (t pc : Nat) (ls : sm_L) (st : List Value) (h : sm_H) : Option sm_R := match st with
  | .int i :: .ref a :: r => match h[a]? with
    | some (.inl (t', n, .inl f)) => if t' = t ∧ sm_ix i n ∧ (sm_C ≤ a ∨ t = 0 ∨ t = 4) then sm_nx (pc + 1) ls (.int (f i.toNatClampNeg) :: r) h else none
    | _ => none
  | _ => none
def sm_ast (t : Nat) (g : Int32 → Int32) (pc : Nat) (ls : sm_L) (st : List Value) (h : sm_H) : Option sm_R := match st with
  | .int x :: .int i :: .ref a :: r => match h[a]? with
    | some (.inl (t', n, .inl f)) => if t' = t ∧ sm_ix i n ∧ sm_C ≤ a then sm_nx (pc + 1) ls r (h.set a (.inl (t', n, .inl (upd f i.toNatClampNeg (g x))))) else none
    | _ => none
  | _ => none
def sm_aldL (pc : Nat) (ls : sm_L) (st : List Value) (h : sm_H) : Option sm_R := match st with
  | .int i :: .ref a :: r => match h[a]? with
    | some (.inl (t', n, .inr (.inl f))) => if t' = 1 ∧ sm_ix i n ∧ sm_C ≤ a then sm_nx (pc + 1) ls (.long (f i.toNatClampNeg) :: r) h else none
    | _ => none
  | _ => none
def sm_astL (pc : Nat) (ls : sm_L) (st : List Value) (h : sm_H) : Option sm_R := match st with
  | .long x :: .int i :: .ref a :: r => match h[a]? with
    | some (.inl (t', n, .inr (.inl f))) => if t' = 1 ∧ sm_ix i n ∧ sm_C ≤ a then sm_nx (pc + 1) ls r (h.set a (.inl (t', n, .inr (.inl (vp_updL f i.toNatClampNeg x))))) else none
    | _ => none
  | _ => none
/-- a char of an int -/
def sm_chr (x : Int32) : Int32 := (x.toUInt32 % 65536).toInt32
/-- getfield: rs = [field, 0, classes that the object may have ..], or [field, 1, class] of an object that was there before -/
def sm_getf (rs : List Nat) (pc : Nat) (ls : sm_L) (st : List Value) (h : sm_H) : Option sm_R := match st, rs with
  | .ref a :: r, k :: z :: cs => match h[a]? with
    | some (.inr (ci, fs)) => if ci ∈ cs ∧ ((z = 0 ∧ sm_C ≤ a) ∨ (z ≠ 0 ∧ a < sm_C)) then (match fs[k]? with
      | some v => sm_nx (pc + 3) ls (v :: r) h
      | none => none) else none
    | _ => none
  | _, _ => none
/-- putfield: rs = [field, its kind, final, classes ..] -/
def sm_putf (rs : List Nat) (pc : Nat) (ls : sm_L) (st : List Value) (h : sm_H) : Option sm_R := match st, rs with
  | v :: .ref a :: r, k :: t :: _ :: cs => match h[a]? with
    | some (.inr (ci, fs)) => if ci ∈ cs ∧ k < fs.length ∧ sm_fit t v ∧ sm_C ≤ a then sm_nx (pc + 3) ls r (h.set a (.inr (ci, fs.set k v))) else none
    | _ => none
  | _, _ => none
/-- new: rs = [class, kinds of its fields ..]; [1000, class] begins 'throw new ..' -/
def sm_newo (rs : List Nat) (pc : Nat) (ls : sm_L) (st : List Value) (h : sm_H) : Option sm_R := match rs with
  | ci :: ts => if ci = 1000 then none else sm_nx (pc + 3) ls (.ref h.length :: st) (h ++ [.inr (ci, ts.map sm_dflt)])
  | _ => none
/-- newarray: rs = [class number of the array] -/
def sm_newa (rs : List Nat) (pc : Nat) (ls : sm_L) (st : List Value) (h : sm_H) : Option sm_R := match st, rs with
  | .int n :: r, [t] => if ¬ n < 0 ∧ n.toNatClampNeg ≤ 65536 then
      sm_nx (pc + 2) ls (.ref h.length :: r) (h ++ [.inl (t, n.toNatClampNeg, if t = 1 then .inr (.inl (fun _ => 0)) else .inl (fun _ => 0))]) else none
  | _, _ => none
/-- a call of a method that is known: rs = [kind, method, number of arguments (with the object)]; of Math.max and Math.min (which the JVM's model knows itself) rs = [7, 0], [7, 1]; of String.checkIndex within its range rs = [8, 0, 0, 0] -/
def sm_callS (rs : List Nat) (st : List Value) : Option sm_R := match rs with
  | [_, m, n] => match sm_args n st with
    | some (as, r) => sm_call m as r
    | none => none
  | _ => none
/-- .. of a constructor -/
def sm_callI (rs : List Nat) (st : List Value) : Option sm_R := match rs with
  | [_, m, n] => match sm_args n st with
    | some (.ref a :: as, r) => sm_call m (.ref a :: as) r
    | _ => none
  | _ => none
/-- a call by the object's class: rs = [kind, number of arguments (without the object), class, method, class, method ..] -/
def sm_callV (rs : List Nat) (st : List Value) (h : sm_H) : Option sm_R := match rs with
  | _ :: n :: ps => match sm_args (n + 1) st with
    | some (.ref a :: as, r) => match h[a]? with
      | some (.inr (ci, _)) => match sm_pick ci ps with
        | some m => sm_call m (.ref a :: as) r
        | none => none
      | _ => none
    | _ => none
  | _ => none
def sm_if (b : Bool) (pc : Nat) (off : Int) (ls : sm_L) (r : List Value) (h : sm_H) : Option sm_R := sm_nx (if b then sm_jmp pc off else pc + 3) ls r h
/-- one instruction -/
def sm_step (q : sm_I) (pc : Nat) (ls : sm_L) (st : List Value) (h : sm_H) : Option sm_R := match q with
  | (i, len, rs) => match i with
    | .iconst n => sm_nx (pc + 1) ls (.int (Int32.ofInt n) :: st) h
    | .bipush n => sm_nx (pc + 2) ls (.int (Int8.ofInt n).toInt32 :: st) h
    | .sipush n => sm_nx (pc + 3) ls (.int (Int16.ofInt n).toInt32 :: st) h
    | .lconst n => sm_nx (pc + 1) ls (.long (Int64.ofNat (n : Nat)) :: st) h
    | .aconst_null => sm_nx (pc + 1) ls (.null :: st) h
    | .ldc _ => match rs with
      | [0, n] => sm_nx (pc + 2) ls (.int (Int32.ofNat n) :: st) h
      | [1, n] => sm_nx (pc + 2) ls (.ref n :: st) h
      | _ => none
    | .ldc_w _ => match rs with
      | [0, n] => sm_nx (pc + 3) ls (.int (Int32.ofNat n) :: st) h
      | _ => none
    | .ldc2_w _ => match rs with
      | [n] => sm_nx (pc + 3) ls (.long (Int64.ofNat n) :: st) h
      | _ => none
    | .iload_n k => sm_loadK sm_isI 1 k pc ls st h
    | .iload k => sm_loadK sm_isI 2 k pc ls st h
    | .lload_n k => sm_loadK sm_isL 1 k pc ls st h
    | .lload k => sm_loadK sm_isL 2 k pc ls st h
    | .aload_n k => sm_loadK sm_isA 1 k pc ls st h
    | .aload k => sm_loadK sm_isA 2 k pc ls st h
    | .istore_n k => sm_store1 sm_isI 1 k pc ls st h
    | .istore k => sm_store1 sm_isI 2 k pc ls st h
    | .astore_n k => sm_store1 sm_isA 1 k pc ls st h
    | .astore k => sm_store1 sm_isA 2 k pc ls st h
    | .lstore_n k => sm_store2 1 k pc ls st h
    | .lstore k => sm_store2 2 k pc ls st h
    | .iinc k n => match sm_lget ls k with
      | some (.int x) => (sm_put1 ls k (.int (x + Int32.ofInt n))).bind (fun ls' => sm_nx (pc + 3) ls' st h)
      | _ => none
    | .iadd => sm_bin (· + ·) pc ls st h
    | .isub => sm_bin (· - ·) pc ls st h
    | .imul => sm_bin (· * ·) pc ls st h
    | .iand => sm_bin (· &&& ·) pc ls st h
    | .ior => sm_bin (· ||| ·) pc ls st h
    | .ixor => sm_bin (· ^^^ ·) pc ls st h
    | .ishl => sm_bin (fun x y => x <<< (y &&& 31)) pc ls st h
    | .ishr => sm_bin (fun x y => x >>> (y &&& 31)) pc ls st h
    | .iushr => sm_bin (fun x y => (x.toUInt32 >>> (y.toUInt32 &&& Int32.toUInt32 31)).toInt32) pc ls st h
    | .idiv => match st with
      | .int y :: .int x :: r => if y = 0 then none else sm_nx (pc + 1) ls (.int (x / y) :: r) h
      | _ => none
    | .irem => match st with
      | .int y :: .int x :: r => if y = 0 then none else sm_nx (pc + 1) ls (.int (x - x / y * y) :: r) h
      | _ => none
    | .ineg => match st with
      | .int x :: r => sm_nx (pc + 1) ls (.int (-x) :: r) h
      | _ => none
    | .ladd => sm_binL (· + ·) pc ls st h
    | .lsub => sm_binL (· - ·) pc ls st h
    | .lmul => sm_binL (· * ·) pc ls st h
    | .land => sm_binL (· &&& ·) pc ls st h
    | .lor => sm_binL (· ||| ·) pc ls st h
    | .lxor => sm_binL (· ^^^ ·) pc ls st h
    | .lrem => match st with
      | .long y :: .long x :: r => if y = 0 then none else sm_nx (pc + 1) ls (.long (x - x / y * y) :: r) h
      | _ => none
    | .ldiv => match st with
      | .long y :: .long x :: r => if y = 0 then none else sm_nx (pc + 1) ls (.long (x / y) :: r) h
      | _ => none
    | .lushr => match st with
      | .int y :: .long x :: r => sm_nx (pc + 1) ls (.long (x.toUInt64 >>> (y.toInt64.toUInt64 &&& Int64.toUInt64 63)).toInt64 :: r) h
      | _ => none
    | .lshl => match st with
      | .int y :: .long x :: r => sm_nx (pc + 1) ls (.long (x <<< (y.toInt64 &&& 63)) :: r) h
      | _ => none
    | .lshr => match st with
      | .int y :: .long x :: r => sm_nx (pc + 1) ls (.long (x >>> (y.toInt64 &&& 63)) :: r) h
      | _ => none
    | .lcmp => match st with
      | .long y :: .long x :: r => sm_nx (pc + 1) ls (.int (lg_cmp x y) :: r) h
      | _ => none
    | .i2l => match st with
      | .int x :: r => sm_nx (pc + 1) ls (.long x.toInt64 :: r) h
      | _ => none
    | .l2i => match st with
      | .long x :: r => sm_nx (pc + 1) ls (.int x.toInt32 :: r) h
      | _ => none
    | .i2c => match st with
      | .int x :: r => sm_nx (pc + 1) ls (.int (sm_chr x) :: r) h
      | _ => none
    | .i2b => match st with
      | .int x :: r => sm_nx (pc + 1) ls (.int x.toInt8.toInt32 :: r) h
      | _ => none
    | .dup => match st with
      | v :: r => if v.category = 1 then sm_nx (pc + 1) ls (v :: v :: r) h else none
      | _ => none
    | .pop => match st with
      | v :: r => if v.category = 1 then sm_nx (pc + 1) ls r h else none
      | _ => none
    | .dup_x1 => match st with
      | v :: w :: r => if v.category = 1 ∧ w.category = 1 then sm_nx (pc + 1) ls (v :: w :: v :: r) h else none
      | _ => none
    | .dup_x2 => match st with
      | v :: w :: u :: r => if v.category = 1 ∧ w.category = 1 ∧ u.category = 1 then sm_nx (pc + 1) ls (v :: w :: u :: v :: r) h else none
      | _ => none
    | .dup2 => match st with
      | .long x :: r => sm_nx (pc + 1) ls (.long x :: .long x :: r) h
      | v :: w :: r => if v.category = 1 ∧ w.category = 1 then sm_nx (pc + 1) ls (v :: w :: v :: w :: r) h else none
      | _ => none
    | .pop2 => match st with
      | .long _ :: r => sm_nx (pc + 1) ls r h
      | v :: w :: r => if v.category = 1 ∧ w.category = 1 then sm_nx (pc + 1) ls r h else none
      | _ => none
    | .if_icmp c off => match st with
      | .int y :: .int x :: r => sm_if (sm_cmp c x y) pc off ls r h
      | _ => none
    | .ifCond c off => match st with
      | .int x :: r => sm_if (sm_cmp c x 0) pc off ls r h
      | _ => none
    | .goto off => sm_nx (sm_jmp pc off) ls st h
    | .tableswitch d lo hi offs => match st with
      | .int x :: r => if x.toInt < lo ∨ hi < x.toInt then sm_nx (sm_jmp pc d) ls r h else (match offs[(x.toInt - lo).toNat]? with
        | some off => sm_nx (sm_jmp pc off) ls r h
        | none => none)
      | _ => none
    | .arraylength => match st with
      | .ref a :: r => match h[a]? with
        | some (.inl (t, n, _)) => if (sm_ty t).isSome then sm_nx (pc + 1) ls (.int (Int32.ofNat n) :: r) h else none
        | _ => none
      | _ => none
    | .iaload => sm_ald 0 pc ls st h
    | .caload => sm_ald 2 pc ls st h
    | .baload => match sm_ald 3 pc ls st h with
      | some r => some r
      | none => sm_ald 4 pc ls st h
    | .iastore => sm_ast 0 (fun x => x) pc ls st h
    | .bastore => sm_ast 3 (fun x => x &&& 1) pc ls st h
    | .castore => sm_ast 2 sm_chr pc ls st h
    | .laload => sm_aldL pc ls st h
    | .lastore => sm_astL pc ls st h
    | .getstatic _ => match rs with
      | [n] => sm_nx (pc + 3) ls (.int (Int32.ofNat n) :: st) h
      | _ => none
    | .getfield _ => sm_getf rs pc ls st h
    | .putfield _ => sm_putf rs pc ls st h
    | .new _ => sm_newo rs pc ls st h
    | .newarray _ => sm_newa rs pc ls st h
    | .invokestatic _ => match rs with
      | [_, k] => match st with
        | .int y :: .int x :: r => if (r.map fun v => v.category).sum ≤ 8 then sm_nx (pc + 3) ls (.int (if k = 0 then (if x < y then y else x) else (if y < x then y else x)) :: r) h else none
        | _ => none
      | [_, _, _, _] => match st with
        | .int n :: .int i :: r => if ¬ i < 0 ∧ i < n ∧ (r.map fun v => v.category).sum ≤ 8 then sm_nx (pc + 3) ls r h else none
        | _ => none
      | _ => sm_callS rs st
    | .invokespecial _ => match rs with
      | [_] => match st with
        | .ref _ :: r => if (r.map fun v => v.category).sum ≤ 8 then sm_nx (pc + 3) ls r h else none
        | _ => none
      | _ => sm_callI rs st
    | .invokevirtual _ => sm_callV rs st h
    | .ireturn => match st with
      | [.int v] => sm_ret (some (.int v))
      | _ => none
    | .lreturn => match st with
      | [.long v] => sm_ret (some (.long v))
      | _ => none
    | .areturn => match st with
      | [.ref v] => sm_ret (some (.ref v))
      | _ => none
    | .return_ => match st with
      | [] => sm_ret none
      | _ => none
    | _ => none
/-- a method: how many locals, the kind of its answer (0 none, 1 int, 2 long, 3 reference, 4 boolean, 5 char, 6 byte), its instructions by their places -/
abbrev sm_M : Type := Nat × Nat × List (Option sm_I)
/-- the locals at the start -/
def sm_slots : List Value → sm_L
  | [] => []
  | v :: vs => if v.category = 2 then some v :: none :: sm_slots vs else some v :: sm_slots vs
def sm_entry (n : Nat) (as : List Value) : sm_L := sm_slots as ++ List.replicate (n - (sm_slots as).length) none
/-- an answer of a kind -/
def sm_okret (k : Nat) (v : Option Value) : Bool := match k, v with
  | 0, none => true
  | 1, some (.int _) => true
  | 2, some (.long _) => true
  | 3, some (.ref _) => true
  | 4, some (.int x) => decide (x = 0 ∨ x = 1)
  | 5, some (.int x) => decide (0 ≤ x ∧ x ≤ 65535)
  | 6, some (.int x) => decide (x = 0 ∨ x = 1)
  | _, _ => false
/-- what is pushed of an answer -/
def sm_back (v : Option Value) (r : List Value) : List Value := match v with
  | some x => x :: r
  | none => r
/-- a run: n the steps, d the depth of calls that is left -/
def sm_run (P : Nat → Option sm_M) : Nat → Nat → Nat → Nat → sm_L → List Value → sm_H → Option (Option Value × sm_H)
  | 0, _, _, _, _, _, _ => none
  | n + 1, d, m, pc, ls, st, h => match P m with
    | none => none
    | some (_, k, tab) => match tab[pc]? with
      | some (some q) => match sm_step q pc ls st h with
        | some (.inl (pc', ls', st', h')) => sm_run P n d m pc' ls' st' h'
        | some (.inr (.inl v)) => if sm_okret k v then some (v, h) else none
        | some (.inr (.inr (m', as, r))) => match d, P m' with
          | d' + 1, some (nl, _, _) => if (sm_slots as).length ≤ nl ∧ (r.map fun v => v.category).sum ≤ 8 then (match sm_run P n d' m' 0 (sm_entry nl as) [] h with
            | some (v, h') => sm_run P n d m (pc + 3) ls (sm_back v r) h'
            | none => none) else none
          | _, _ => none
        | none => none
      | _ => none
