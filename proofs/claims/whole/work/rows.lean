section
/-! THE SMALL MACHINE. A machine of our own over pictures of the cells: a cell is known by its place in a list, a reference is such a place.
A run of it is a run of the JVM (part 11); all that is said of the programs is said of it. -/
/-- a cell: an array (the number of its class in 'tys', its contents), or an object (the number of its class in 'classes', its fields) -/
abbrev sm_E : Type := (Nat × vp_A) ⊕ (Nat × List Value)
abbrev sm_H : Type := List sm_E
abbrev sm_L : Type := List (Option Value)
/-- an instruction, its length, what its operand names (resolved) -/
abbrev sm_I : Type := Instr × Nat × List Nat
/-- a local -/
def sm_lget (ls : sm_L) (i : Nat) : Option Value := match ls[i]? with
  | some (some v) => some v
  | _ => none
/-- a store at i breaks a long that ends there -/
def sm_kill (ls : sm_L) (i : Nat) : sm_L := match i with
  | 0 => ls
  | j + 1 => match ls[j]? with
    | some (some v) => if v.category = 2 then ls.set j none else ls
    | _ => ls
def sm_put1 (ls : sm_L) (i : Nat) (v : Value) : Option sm_L := if i < ls.length then some ((sm_kill ls i).set i (some v)) else none
def sm_put2 (ls : sm_L) (i : Nat) (v : Value) : Option sm_L := if i + 1 < ls.length then some (((sm_kill ls i).set i (some v)).set (i + 1) none) else none
def sm_jmp (pc : Nat) (off : Int) : Nat := ((pc : Int) + off).toNat
def sm_cmp (c : ClassFile.Cond) (x y : Int32) : Bool := match c with
  | .eq => decide (x = y)
  | .ne => !decide (x = y)
  | .lt => decide (x < y)
  | .ge => decide (y ≤ x)
  | .gt => decide (y < x)
  | .le => decide (x ≤ y)
/-- where one instruction leads: on; the method's answer; a call (method, arguments, what lies below them) -/
abbrev sm_R : Type := (Nat × sm_L × List Value × sm_H) ⊕ (Option Value ⊕ (Nat × List Value × List Value))
def sm_nx (pc : Nat) (ls : sm_L) (st : List Value) (h : sm_H) : Option sm_R := some (.inl (pc, ls, st, h))
def sm_ret (v : Option Value) : Option sm_R := some (.inr (.inl v))
def sm_call (m : Nat) (as rest : List Value) : Option sm_R := some (.inr (.inr (m, as, rest)))
/-- references from here on are the text constants -/
abbrev sm_B : Nat := 1099511627776
/-- a value fits a field of a kind: 0 int, 1 long, 2 reference, 3 boolean, 4 char -/
def sm_fit (t : Nat) (v : Value) : Bool := match t, v with
  | 0, .int _ => true
  | 1, .long _ => true
  | 2, .ref _ => true
  | 2, .null => true
  | 3, .int x => decide (x = 0 ∨ x = 1)
  | 4, .int x => decide (0 ≤ x ∧ x ≤ 65535)
  | _, _ => false
def sm_dflt (t : Nat) : Value := match t with
  | 1 => .long 0
  | 2 => .null
  | _ => .int 0
/-- an index of an array of n places -/
def sm_ix (x : Int32) (n : Nat) : Bool := decide (¬ x < 0 ∧ x.toNatClampNeg < n)
def sm_args (n : Nat) (st : List Value) : Option (List Value × List Value) := if n ≤ st.length then some ((st.take n).reverse, st.drop n) else none
/-- the method that a class number has in a list [class, method, class, method ..] -/
def sm_pick (ci : Nat) : List Nat → Option Nat
  | c :: m :: r => if c = ci then some m else sm_pick ci r
  | _ => none
def sm_bin (f : Int32 → Int32 → Int32) (pc : Nat) (ls : sm_L) (st : List Value) (h : sm_H) : Option sm_R := match st with
  | .int y :: .int x :: r => sm_nx (pc + 1) ls (.int (f x y) :: r) h
  | _ => none
def sm_binL (f : Int64 → Int64 → Int64) (pc : Nat) (ls : sm_L) (st : List Value) (h : sm_H) : Option sm_R := match st with
  | .long y :: .long x :: r => sm_nx (pc + 1) ls (.long (f x y) :: r) h
  | _ => none
def sm_load (n i pc : Nat) (ls : sm_L) (st : List Value) (h : sm_H) : Option sm_R := match sm_lget ls i with
  | some v => sm_nx (pc + n) ls (v :: st) h
  | none => none
def sm_isI (v : Value) : Bool := match v with | .int _ => true | _ => false
def sm_isL (v : Value) : Bool := match v with | .long _ => true | _ => false
def sm_isA (v : Value) : Bool := match v with | .ref _ => true | _ => false
def sm_loadK (k : Value → Bool) (n i pc : Nat) (ls : sm_L) (st : List Value) (h : sm_H) : Option sm_R := match sm_lget ls i with
  | some v => if k v then sm_nx (pc + n) ls (v :: st) h else none
  | none => none
def sm_store1 (k : Value → Bool) (n i pc : Nat) (ls : sm_L) (st : List Value) (h : sm_H) : Option sm_R := match st with
  | v :: r => if k v then (sm_put1 ls i v).bind (fun ls' => sm_nx (pc + n) ls' r h) else none
  | _ => none
def sm_store2 (n i pc : Nat) (ls : sm_L) (st : List Value) (h : sm_H) : Option sm_R := match st with
  | .long v :: r => (sm_put2 ls i (.long v)).bind (fun ls' => sm_nx (pc + n) ls' r h)
  | _ => none
/-- an element of an array of class number t, of ints -/
def sm_ald (t pc : Nat) (ls : sm_L) (st : List Value) (h : sm_H) : Option sm_R := match st with
  | .int i :: .ref a :: r => match h[a]? with
    | some (.inl (t', n, .inl f)) => if t' = t ∧ sm_ix i n then sm_nx (pc + 1) ls (.int (f i.toNatClampNeg) :: r) h else none
    | _ => none
  | _ => none
def sm_ast (t : Nat) (g : Int32 → Int32) (pc : Nat) (ls : sm_L) (st : List Value) (h : sm_H) : Option sm_R := match st with
  | .int x :: .int i :: .ref a :: r => match h[a]? with
    | some (.inl (t', n, .inl f)) => if t' = t ∧ sm_ix i n then sm_nx (pc + 1) ls r (h.set a (.inl (t', n, .inl (upd f i.toNatClampNeg (g x))))) else none
    | _ => none
  | _ => none
def sm_aldL (pc : Nat) (ls : sm_L) (st : List Value) (h : sm_H) : Option sm_R := match st with
  | .int i :: .ref a :: r => match h[a]? with
    | some (.inl (t', n, .inr (.inl f))) => if t' = 1 ∧ sm_ix i n then sm_nx (pc + 1) ls (.long (f i.toNatClampNeg) :: r) h else none
    | _ => none
  | _ => none
def sm_astL (pc : Nat) (ls : sm_L) (st : List Value) (h : sm_H) : Option sm_R := match st with
  | .long x :: .int i :: .ref a :: r => match h[a]? with
    | some (.inl (t', n, .inr (.inl f))) => if t' = 1 ∧ sm_ix i n then sm_nx (pc + 1) ls r (h.set a (.inl (t', n, .inr (.inl (vp_updL f i.toNatClampNeg x))))) else none
    | _ => none
  | _ => none
/-- a char of an int -/
def sm_chr (x : Int32) : Int32 := (x.toUInt32 % 65536).toInt32
/-- getfield: rs = [field, classes that the object may have ..] -/
def sm_getf (rs : List Nat) (pc : Nat) (ls : sm_L) (st : List Value) (h : sm_H) : Option sm_R := match st, rs with
  | .ref a :: r, k :: cs => match h[a]? with
    | some (.inr (ci, fs)) => if ci ∈ cs then (match fs[k]? with
      | some v => sm_nx (pc + 3) ls (v :: r) h
      | none => none) else none
    | _ => none
  | _, _ => none
/-- putfield: rs = [field, its kind, final, classes ..] -/
def sm_putf (rs : List Nat) (pc : Nat) (ls : sm_L) (st : List Value) (h : sm_H) : Option sm_R := match st, rs with
  | v :: .ref a :: r, k :: t :: _ :: cs => match h[a]? with
    | some (.inr (ci, fs)) => if ci ∈ cs ∧ k < fs.length ∧ sm_fit t v then sm_nx (pc + 3) ls r (h.set a (.inr (ci, fs.set k v))) else none
    | _ => none
  | _, _ => none
/-- new: rs = [class, kinds of its fields ..] -/
def sm_newo (rs : List Nat) (pc : Nat) (ls : sm_L) (st : List Value) (h : sm_H) : Option sm_R := match rs with
  | ci :: ts => sm_nx (pc + 3) ls (.ref h.length :: st) (h ++ [.inr (ci, ts.map sm_dflt)])
  | _ => none
/-- newarray: rs = [class number of the array] -/
def sm_newa (rs : List Nat) (pc : Nat) (ls : sm_L) (st : List Value) (h : sm_H) : Option sm_R := match st, rs with
  | .int n :: r, [t] => if ¬ n < 0 ∧ n.toNatClampNeg ≤ 65536 then
      sm_nx (pc + 2) ls (.ref h.length :: r) (h ++ [.inl (t, n.toNatClampNeg, if t = 1 then .inr (.inl (fun _ => 0)) else .inl (fun _ => 0))]) else none
  | _, _ => none
/-- a call of a method that is known: rs = [kind, method, number of arguments (with the object)] -/
def sm_callS (rs : List Nat) (st : List Value) : Option sm_R := match rs with
  | [_, m, n] => match sm_args n st with
    | some (as, r) => sm_call m as r
    | none => none
  | _ => none
/-- a call by the object's class: rs = [kind, number of arguments (without the object), class, method, class, method ..] -/
def sm_callV (rs : List Nat) (st : List Value) (h : sm_H) : Option sm_R := match rs with
  | _ :: n :: ps => match sm_args (n + 1) st with
    | some (.ref a :: as, r) => match h[a]? with
      | some (.inr (ci, _)) => match sm_pick ci ps with
        | some m => sm_call m (.ref a :: as) r
        | none => none
      | _ => none
    | _ => none
  | _ => none
def sm_if (b : Bool) (pc : Nat) (off : Int) (ls : sm_L) (r : List Value) (h : sm_H) : Option sm_R := sm_nx (if b then sm_jmp pc off else pc + 3) ls r h
/-- one instruction -/
def sm_step (q : sm_I) (pc : Nat) (ls : sm_L) (st : List Value) (h : sm_H) : Option sm_R := match q with
  | (i, len, rs) => match i with
    | .iconst n => sm_nx (pc + 1) ls (.int (Int32.ofInt n) :: st) h
    | .bipush n => sm_nx (pc + 2) ls (.int (Int8.ofInt n).toInt32 :: st) h
    | .sipush n => sm_nx (pc + 3) ls (.int (Int16.ofInt n).toInt32 :: st) h
    | .lconst n => sm_nx (pc + 1) ls (.long (Int64.ofNat (n : Nat)) :: st) h
    | .aconst_null => sm_nx (pc + 1) ls (.null :: st) h
    | .ldc _ => match rs with
      | [0, n] => sm_nx (pc + 2) ls (.int (Int32.ofNat n) :: st) h
      | [1, n] => sm_nx (pc + 2) ls (.ref (sm_B + n) :: st) h
      | _ => none
    | .ldc2_w _ => match rs with
      | [n] => sm_nx (pc + 3) ls (.long (Int64.ofNat n) :: st) h
      | _ => none
    | .iload_n k => sm_loadK sm_isI 1 k pc ls st h
    | .iload k => sm_loadK sm_isI 2 k pc ls st h
    | .lload_n k => sm_loadK sm_isL 1 k pc ls st h
    | .lload k => sm_loadK sm_isL 2 k pc ls st h
    | .aload_n k => sm_loadK sm_isA 1 k pc ls st h
    | .aload k => sm_loadK sm_isA 2 k pc ls st h
    | .istore_n k => sm_store1 sm_isI 1 k pc ls st h
    | .istore k => sm_store1 sm_isI 2 k pc ls st h
    | .astore_n k => sm_store1 sm_isA 1 k pc ls st h
    | .astore k => sm_store1 sm_isA 2 k pc ls st h
    | .lstore_n k => sm_store2 1 k pc ls st h
    | .lstore k => sm_store2 2 k pc ls st h
    | .iinc k n => match sm_lget ls k with
      | some (.int x) => (sm_put1 ls k (.int (x + Int32.ofInt n))).bind (fun ls' => sm_nx (pc + 3) ls' st h)
      | _ => none
    | .iadd => sm_bin (· + ·) pc ls st h
    | .isub => sm_bin (· - ·) pc ls st h
    | .imul => sm_bin (· * ·) pc ls st h
    | .iand => sm_bin (· &&& ·) pc ls st h
    | .ior => sm_bin (· ||| ·) pc ls st h
    | .ixor => sm_bin (· ^^^ ·) pc ls st h
    | .ishl => sm_bin (fun x y => x <<< (y &&& 31)) pc ls st h
    | .ishr => sm_bin (fun x y => x >>> (y &&& 31)) pc ls st h
    | .iushr => sm_bin (fun x y => (x.toUInt32 >>> (y.toUInt32 &&& Int32.toUInt32 31)).toInt32) pc ls st h
    | .idiv => match st with
      | .int y :: .int x :: r => if y = 0 then none else sm_nx (pc + 1) ls (.int (x / y) :: r) h
      | _ => none
    | .irem => match st with
      | .int y :: .int x :: r => if y = 0 then none else sm_nx (pc + 1) ls (.int (x - x / y * y) :: r) h
      | _ => none
    | .ineg => match st with
      | .int x :: r => sm_nx (pc + 1) ls (.int (-x) :: r) h
      | _ => none
    | .ladd => sm_binL (· + ·) pc ls st h
    | .lsub => sm_binL (· - ·) pc ls st h
    | .lmul => sm_binL (· * ·) pc ls st h
    | .land => sm_binL (· &&& ·) pc ls st h
    | .lor => sm_binL (· ||| ·) pc ls st h
    | .lxor => sm_binL (· ^^^ ·) pc ls st h
    | .lrem => match st with
      | .long y :: .long x :: r => if y = 0 then none else sm_nx (pc + 1) ls (.long (x - x / y * y) :: r) h
      | _ => none
    | .ldiv => match st with
      | .long y :: .long x :: r => if y = 0 then none else sm_nx (pc + 1) ls (.long (x / y) :: r) h
      | _ => none
    | .lushr => match st with
      | .int y :: .long x :: r => sm_nx (pc + 1) ls (.long (x.toUInt64 >>> (y.toInt64.toUInt64 &&& Int64.toUInt64 63)).toInt64 :: r) h
      | _ => none
    | .lshl => match st with
      | .int y :: .long x :: r => sm_nx (pc + 1) ls (.long (x <<< (y.toInt64 &&& 63)) :: r) h
      | _ => none
    | .lshr => match st with
      | .int y :: .long x :: r => sm_nx (pc + 1) ls (.long (x >>> (y.toInt64 &&& 63)) :: r) h
      | _ => none
    | .lcmp => match st with
      | .long y :: .long x :: r => sm_nx (pc + 1) ls (.int (lg_cmp x y) :: r) h
      | _ => none
    | .i2l => match st with
      | .int x :: r => sm_nx (pc + 1) ls (.long x.toInt64 :: r) h
      | _ => none
    | .l2i => match st with
      | .long x :: r => sm_nx (pc + 1) ls (.int x.toInt32 :: r) h
      | _ => none
    | .i2c => match st with
      | .int x :: r => sm_nx (pc + 1) ls (.int (sm_chr x) :: r) h
      | _ => none
    | .i2b => match st with
      | .int x :: r => sm_nx (pc + 1) ls (.int x.toInt8.toInt32 :: r) h
      | _ => none
    | .dup => match st with
      | v :: r => if v.category = 1 then sm_nx (pc + 1) ls (v :: v :: r) h else none
      | _ => none
    | .pop => match st with
      | v :: r => if v.category = 1 then sm_nx (pc + 1) ls r h else none
      | _ => none
    | .dup_x1 => match st with
      | v :: w :: r => if v.category = 1 ∧ w.category = 1 then sm_nx (pc + 1) ls (v :: w :: v :: r) h else none
      | _ => none
    | .dup2 => match st with
      | .long x :: r => sm_nx (pc + 1) ls (.long x :: .long x :: r) h
      | v :: w :: r => if v.category = 1 ∧ w.category = 1 then sm_nx (pc + 1) ls (v :: w :: v :: w :: r) h else none
      | _ => none
    | .pop2 => match st with
      | .long _ :: r => sm_nx (pc + 1) ls r h
      | v :: w :: r => if v.category = 1 ∧ w.category = 1 then sm_nx (pc + 1) ls r h else none
      | _ => none
    | .if_icmp c off => match st with
      | .int y :: .int x :: r => sm_if (sm_cmp c x y) pc off ls r h
      | _ => none
    | .ifCond c off => match st with
      | .int x :: r => sm_if (sm_cmp c x 0) pc off ls r h
      | _ => none
    | .goto off => sm_nx (sm_jmp pc off) ls st h
    | .tableswitch d lo hi offs => match st with
      | .int x :: r => if x.toInt < lo ∨ hi < x.toInt then sm_nx (sm_jmp pc d) ls r h else (match offs[(x.toInt - lo).toNat]? with
        | some off => sm_nx (sm_jmp pc off) ls r h
        | none => none)
      | _ => none
    | .lookupswitch d ps => match st with
      | .int x :: r => if (ps.toList.zip (ps.toList.drop 1)).all (fun (a, next) => a.1 < next.1) = true then sm_nx (sm_jmp pc (Op.lookupswitch.offset ps.toList d x.toInt)) ls r h else none
      | _ => none
    | .arraylength => match st with
      | .ref a :: r => match h[a]? with
        | some (.inl (_, n, _)) => sm_nx (pc + 1) ls (.int (Int32.ofNat n) :: r) h
        | _ => none
      | _ => none
    | .iaload => sm_ald 0 pc ls st h
    | .caload => sm_ald 2 pc ls st h
    | .iastore => sm_ast 0 (fun x => x) pc ls st h
    | .castore => sm_ast 2 sm_chr pc ls st h
    | .laload => sm_aldL pc ls st h
    | .lastore => sm_astL pc ls st h
    | .getfield _ => sm_getf rs pc ls st h
    | .putfield _ => sm_putf rs pc ls st h
    | .new _ => sm_newo rs pc ls st h
    | .newarray _ => sm_newa rs pc ls st h
    | .invokestatic _ => sm_callS rs st
    | .invokespecial _ => sm_callS rs st
    | .invokevirtual _ => sm_callV rs st h
    | .ireturn => match st with
      | [.int v] => sm_ret (some (.int v))
      | _ => none
    | .lreturn => match st with
      | [.long v] => sm_ret (some (.long v))
      | _ => none
    | .areturn => match st with
      | [.ref v] => sm_ret (some (.ref v))
      | _ => none
    | .return_ => match st with
      | [] => sm_ret none
      | _ => none
    | _ => none
/-- a method: how many locals, the kind of its answer (0 none, 1 int, 2 long, 3 reference, 4 boolean, 5 char), its instructions by their places -/
abbrev sm_M : Type := Nat × Nat × List (Option sm_I)
/-- the locals at the start -/
def sm_slots : List Value → sm_L
  | [] => []
  | v :: vs => if v.category = 2 then some v :: none :: sm_slots vs else some v :: sm_slots vs
def sm_entry (n : Nat) (as : List Value) : sm_L := sm_slots as ++ List.replicate (n - (sm_slots as).length) none
/-- an answer of a kind -/
def sm_okret (k : Nat) (v : Option Value) : Bool := match k, v with
  | 0, none => true
  | 1, some (.int _) => true
  | 2, some (.long _) => true
  | 3, some (.ref _) => true
  | 4, some (.int x) => decide (x = 0 ∨ x = 1)
  | 5, some (.int x) => decide (0 ≤ x ∧ x ≤ 65535)
  | _, _ => false
/-- what is pushed of an answer -/
def sm_back (v : Option Value) (r : List Value) : List Value := match v with
  | some x => x :: r
  | none => r
/-- a run: n the steps, d the depth of calls that is left -/
def sm_run (P : Nat → Option sm_M) : Nat → Nat → Nat → Nat → sm_L → List Value → sm_H → Option (Option Value × sm_H)
  | 0, _, _, _, _, _, _ => none
  | n + 1, d, m, pc, ls, st, h => match P m with
    | none => none
    | some (_, k, tab) => match tab[pc]? with
      | some (some q) => match sm_step q pc ls st h with
        | some (.inl (pc', ls', st', h')) => sm_run P n d m pc' ls' st' h'
        | some (.inr (.inl v)) => if sm_okret k v then some (v, h) else none
        | some (.inr (.inr (m', as, r))) => match d, P m' with
          | d' + 1, some (nl, _, _) => if (sm_slots as).length ≤ nl ∧ (r.map fun v => v.category).sum ≤ 8 then (match sm_run P n d' m' 0 (sm_entry nl as) [] h with
            | some (v, h') => sm_run P n d m (pc + 3) ls (sm_back v r) h'
            | none => none) else none
          | _, _ => none
        | none => none
      | _ => none
end
section
/-! PICTURES AND HEAPS: what the small machine's state says of the JVM's. N0: the heap's size when the law began; cs: where the text constants lie. -/
def sm_mv (ad : Nat → Nat) (v : Value) : Value := match v with
  | .ref k => .ref (ad k)
  | .int x => .int x
  | .long x => .long x
  | .float x => .float x
  | .double x => .double x
  | .null => .null
  | .retAddr x => .retAddr x
def sm_ad (N0 : Nat) (cs : Nat → Nat) (k : Nat) : Nat := if k < sm_B then N0 + k else cs (k - sm_B)
def sm_me (ad : Nat → Nat) (tys : List (ClassId × FieldType)) (e : sm_E) : va_E := match e with
  | .inl (t, a) => .inl ((tys.getD t (0, .int)).1, a)
  | .inr (ci, fs) => .inr (ci, fs.map (sm_mv ad))
/-- the heap holds the picture -/
def sm_P (D : va_G) (cl : List vw_C) (tys : List (ClassId × FieldType)) (N0 : Nat) (cs : Nat → Nat) (h : sm_H) (H : Heap) : Prop :=
  H.size = N0 + h.length ∧ h.length ≤ sm_B ∧ ∀ (k : Nat) (e : sm_E), h[k]? = some e → va_at D cl (N0 + k, sm_me (sm_ad N0 cs) tys e) H
/-- the locals hold the picture -/
def sm_LR (ad : Nat → Nat) (ls : sm_L) (LS : Array Slot) : Prop := LS.size = ls.length ∧ lv_wf LS ∧ ∀ (i : Nat) (v : Value), ls[i]? = some (some v) → LS[i]? = some (.val (sm_mv ad v))
theorem sm_cat (ad : Nat → Nat) (v : Value) : (sm_mv ad v).category = v.category := by cases v <;> rfl
theorem sm_ad_lt {N0 : Nat} {cs : Nat → Nat} {k : Nat} (h : k < sm_B) : sm_ad N0 cs k = N0 + k := if_pos h
def sm_al (ad : Nat → Nat) (ls : sm_L) : List (Nat × Value) := ls.zipIdx.filterMap (fun q => q.1.map (fun v => (q.2, sm_mv ad v)))
theorem sm_al_mem {ad : Nat → Nat} {ls : sm_L} {q : Nat × Value} : q ∈ sm_al ad ls ↔ ∃ v, ls[q.1]? = some (some v) ∧ q.2 = sm_mv ad v := by
  unfold sm_al
  rw [List.mem_filterMap]
  constructor
  · rintro ⟨⟨o, i⟩, h1, h2⟩
    have h3 := List.mem_zipIdx_iff_getElem?.mp h1
    cases o with
    | none => simp at h2
    | some v =>
      simp at h2
      obtain ⟨rfl⟩ := h2
      exact ⟨v, h3, rfl⟩
  · rintro ⟨v, h1, h2⟩
    refine ⟨(some v, q.1), List.mem_zipIdx_iff_getElem?.mpr h1, ?_⟩
    simp [← h2]
theorem sm_LR.has {ad : Nat → Nat} {ls : sm_L} {LS : Array Slot} (h : sm_LR ad ls LS) : lv_has LS ls.length (sm_al ad ls) :=
  ⟨h.1, h.2.1, fun q hq => by
    obtain ⟨v, h1, h2⟩ := sm_al_mem.mp hq
    rw [h2]
    exact h.2.2 _ _ h1⟩
theorem sm_lget_at {ad : Nat → Nat} {ls : sm_L} {LS : Array Slot} (h : sm_LR ad ls LS) {i : Nat} {v : Value} (hg : sm_lget ls i = some v) : LS[i]? = some (.val (sm_mv ad v)) := by
  unfold sm_lget at hg
  split at hg
  · next w hw => cases hg; exact h.2.2 _ _ hw
  · cases hg
theorem sm_kill_len (ls : sm_L) (i : Nat) : (sm_kill ls i).length = ls.length := by
  unfold sm_kill
  cases i with
  | zero => rfl
  | succ j =>
    dsimp only
    split
    · split <;> simp
    · rfl
theorem sm_kill_at {ls : sm_L} {i j : Nat} {w : Value} (h : (sm_kill ls i)[j]? = some (some w)) : ls[j]? = some (some w) ∧ ¬ (j + 1 = i ∧ w.category = 2) := by
  unfold sm_kill at h
  cases i with
  | zero => exact ⟨h, fun z => by omega⟩
  | succ k =>
    dsimp only at h
    split at h
    · next v hv =>
      split at h
      · next hc =>
        by_cases hjk : k = j
        · subst hjk
          have hl := (List.getElem?_eq_some_iff.mp hv).1
          rw [List.getElem?_set_self hl] at h
          cases h
        · rw [List.getElem?_set_ne hjk] at h
          exact ⟨h, fun z => by omega⟩
      · next hc =>
        refine ⟨h, fun z => ?_⟩
        have e : j = k := by omega
        subst e
        rw [hv] at h
        cases h
        exact hc z.2
    · next hno =>
      refine ⟨h, fun z => ?_⟩
      have e : j = k := by omega
      subst e
      exact hno _ h
theorem sm_put1_len {ls ls' : sm_L} {i : Nat} {v : Value} (h : sm_put1 ls i v = some ls') : i < ls.length ∧ ls' = (sm_kill ls i).set i (some v) := by
  unfold sm_put1 at h
  split at h
  · next hl => cases h; exact ⟨hl, rfl⟩
  · cases h
theorem sm_put2_len {ls ls' : sm_L} {i : Nat} {v : Value} (h : sm_put2 ls i v = some ls') : i + 1 < ls.length ∧ ls' = ((sm_kill ls i).set i (some v)).set (i + 1) none := by
  unfold sm_put2 at h
  split at h
  · next hl => cases h; exact ⟨hl, rfl⟩
  · cases h
theorem sm_LR.put1 {ad : Nat → Nat} {ls ls' : sm_L} {LS LS' : Array Slot} {i : Nat} {v : Value} (hp : sm_put1 ls i v = some ls')
    (h : lv_has LS' ls.length ((i, sm_mv ad v) :: (sm_al ad ls).filter (fun q => !(q.1 == i) && !(q.1 + 1 == i && q.2.category == 2)))) : sm_LR ad ls' LS' := by
  obtain ⟨hl, rfl⟩ := sm_put1_len hp
  refine ⟨by rw [h.1, List.length_set, sm_kill_len], h.2.1, fun j w hj => ?_⟩
  by_cases hji : i = j
  · subst hji
    rw [List.getElem?_set_self (by rw [sm_kill_len]; exact hl)] at hj
    cases hj
    exact h.2.2 _ List.mem_cons_self
  · rw [List.getElem?_set_ne hji] at hj
    obtain ⟨h1, h2⟩ := sm_kill_at hj
    refine h.2.2 (j, sm_mv ad w) (List.mem_cons_of_mem _ (List.mem_filter.mpr ⟨sm_al_mem.mpr ⟨w, h1, rfl⟩, ?_⟩))
    simp only [sm_cat]
    by_cases hc : w.category = 2
    · have : ¬ j + 1 = i := fun z => h2 ⟨z, hc⟩
      simp [hc, this, Ne.symm hji]
    · simp [hc, Ne.symm hji]
theorem sm_LR.put2 {ad : Nat → Nat} {ls ls' : sm_L} {LS LS' : Array Slot} {i : Nat} {v : Value} (hp : sm_put2 ls i v = some ls')
    (h : lv_has LS' ls.length ((i, sm_mv ad v) :: (sm_al ad ls).filter (fun q => !(q.1 == i) && (!(q.1 == i + 1) && !(q.1 + 1 == i && q.2.category == 2))))) : sm_LR ad ls' LS' := by
  obtain ⟨hl, rfl⟩ := sm_put2_len hp
  refine ⟨by rw [h.1, List.length_set, List.length_set, sm_kill_len], h.2.1, fun j w hj => ?_⟩
  by_cases hj1 : i + 1 = j
  · subst hj1
    rw [List.getElem?_set_self (by rw [List.length_set, sm_kill_len]; exact hl)] at hj
    cases hj
  · rw [List.getElem?_set_ne hj1] at hj
    by_cases hji : i = j
    · subst hji
      rw [List.getElem?_set_self (by rw [sm_kill_len]; omega)] at hj
      cases hj
      exact h.2.2 _ List.mem_cons_self
    · rw [List.getElem?_set_ne hji] at hj
      obtain ⟨h1, h2⟩ := sm_kill_at hj
      refine h.2.2 (j, sm_mv ad w) (List.mem_cons_of_mem _ (List.mem_filter.mpr ⟨sm_al_mem.mpr ⟨w, h1, rfl⟩, ?_⟩))
      simp only [sm_cat]
      by_cases hc : w.category = 2
      · have : ¬ j + 1 = i := fun z => h2 ⟨z, hc⟩
        simp [hc, this, Ne.symm hji, Ne.symm hj1]
      · simp [hc, Ne.symm hji, Ne.symm hj1]
theorem sm_entry_LR {ad : Nat → Nat} {as : List Value} {n : Nat} (h : (sm_slots as).length ≤ n) : sm_LR ad (sm_entry n as) ((lg_sl (as.map (sm_mv ad)) ++ List.replicate (n - (lg_sl (as.map (sm_mv ad))).length) Slot.unset).toArray) := by
  have key : ∀ vs : List Value, (lg_sl (vs.map (sm_mv ad))).length = (sm_slots vs).length ∧ ∀ (i : Nat) (v : Value), (sm_slots vs)[i]? = some (some v) → (lg_sl (vs.map (sm_mv ad)))[i]? = some (.val (sm_mv ad v)) := by
    intro vs
    induction vs with
    | nil => exact ⟨rfl, fun i v h => by simp [sm_slots] at h⟩
    | cons w vs ih =>
      obtain ⟨h1, h2⟩ := ih
      by_cases hc : w.category = 2
      · have e1 : lg_sl ((w :: vs).map (sm_mv ad)) = .val (sm_mv ad w) :: .second :: lg_sl (vs.map (sm_mv ad)) := by simp [lg_sl, sm_cat, hc]
        have e2 : sm_slots (w :: vs) = some w :: none :: sm_slots vs := by simp [sm_slots, hc]
        rw [e1, e2]
        refine ⟨by simp [h1], fun i v hi => ?_⟩
        match i, hi with
        | 0, hi => simp at hi; subst hi; rfl
        | 1, hi => simp at hi
        | i + 2, hi => exact h2 i v hi
      · have e1 : lg_sl ((w :: vs).map (sm_mv ad)) = .val (sm_mv ad w) :: lg_sl (vs.map (sm_mv ad)) := by simp [lg_sl, sm_cat, hc]
        have e2 : sm_slots (w :: vs) = some w :: sm_slots vs := by simp [sm_slots, hc]
        rw [e1, e2]
        refine ⟨by simp [h1], fun i v hi => ?_⟩
        match i, hi with
        | 0, hi => simp at hi; subst hi; rfl
        | i + 1, hi => exact h2 i v hi
  obtain ⟨h1, h2⟩ := key as
  have hen := lv_entry (as.map (sm_mv ad)) (n := n) (by rw [h1]; exact h)
  refine ⟨by rw [hen.1]; simp [sm_entry]; omega, hen.2.1, fun i v hi => ?_⟩
  unfold sm_entry at hi
  by_cases hl : i < (sm_slots as).length
  · rw [List.getElem?_append_left hl] at hi
    rw [List.getElem?_toArray, List.getElem?_append_left (by rw [h1]; exact hl)]
    exact h2 i v hi
  · rw [List.getElem?_append_right (by omega)] at hi
    have := List.eq_of_mem_replicate (List.mem_of_getElem? hi)
    cases this
end
