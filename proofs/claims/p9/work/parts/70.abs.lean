/-! THE SAME MACHINE WITH UNKNOWN NUMBERS: .retAddr k stands for an int of which nothing is known but what is written in a list of facts, .double u for such a long; arrays are lists of what was written. All of it is first-order, so that a run is decided by computation. -/
def sa_g (ρ : Nat → Int32) (μ : UInt64 → Int64) (v : Value) : Value := match v with
  | .retAddr k => .int (ρ k)
  | .double u => .long (μ u)
  | .int x => .int x
  | .long x => .long x
  | .float x => .float x
  | .ref x => .ref x
  | .null => .null
abbrev sa_E : Type := (Nat × Nat × List (Nat × Value)) ⊕ (Nat × List Value)
abbrev sa_H : Type := List sa_E
def sa_look : List (Nat × Value) → Nat → Option Value
  | [], _ => none
  | (k, v) :: r, i => if i = k then some v else sa_look r i
def sa_i (v : Value) : Int32 := match v with
  | .int x => x
  | _ => 0
def sa_l (v : Value) : Int64 := match v with
  | .long x => x
  | _ => 0
abbrev sa_gl (ρ : Nat → Int32) (μ : UInt64 → Int64) (ls : sm_L) : sm_L := ls.map (Option.map (sa_g ρ μ))
abbrev sa_gs (ρ : Nat → Int32) (μ : UInt64 → Int64) (st : List Value) : List Value := st.map (sa_g ρ μ)
def sa_fi (ρ : Nat → Int32) (μ : UInt64 → Int64) (l : List (Nat × Value)) : Nat → Int32 := fun i => match sa_look l i with
  | some v => sa_i (sa_g ρ μ v)
  | none => 0
def sa_fl (ρ : Nat → Int32) (μ : UInt64 → Int64) (l : List (Nat × Value)) : Nat → Int64 := fun i => match sa_look l i with
  | some v => sa_l (sa_g ρ μ v)
  | none => 0
def sa_ge (ρ : Nat → Int32) (μ : UInt64 → Int64) (e : sa_E) : sm_E := match e with
  | .inl (t, n, l) => .inl (t, n, if t = 1 then .inr (.inl (sa_fl ρ μ l)) else .inl (sa_fi ρ μ l))
  | .inr (ci, fs) => .inr (ci, fs.map (sa_g ρ μ))
abbrev sa_gh (ρ : Nat → Int32) (μ : UInt64 → Int64) (h : sa_H) : sm_H := h.map (sa_ge ρ μ)
abbrev sa_R : Type := (Nat × sm_L × List Value × sa_H) ⊕ (Option Value ⊕ (Nat × List Value × List Value))
def sa_gr (ρ : Nat → Int32) (μ : UInt64 → Int64) (r : sa_R) : sm_R := match r with
  | .inl (pc, ls, st, h) => .inl (pc, sa_gl ρ μ ls, sa_gs ρ μ st, sa_gh ρ μ h)
  | .inr (.inl v) => .inr (.inl (v.map (sa_g ρ μ)))
  | .inr (.inr (m, as, r)) => .inr (.inr (m, sa_gs ρ μ as, sa_gs ρ μ r))
/-- facts: (what, of which, and which, is) -/
abbrev sa_F : Type := List (Nat × Value × Value × Value)
def sa_fact : sa_F → Nat → Value → Value → Option Value
  | [], _, _, _ => none
  | (k, a, b, z) :: r, c, x, y => if k = c ∧ a = x ∧ b = y then some z else sa_fact r c x y
def sa_cc (c : ClassFile.Cond) : Nat := match c with
  | .eq => 10
  | .ne => 11
  | .lt => 12
  | .ge => 13
  | .gt => 14
  | .le => 15
/-- a fact is true -/
def sa_true (ρ : Nat → Int32) (μ : UInt64 → Int64) (f : Nat × Value × Value × Value) : Prop :=
  (f.1 = 1 ∧ ∃ x y, sa_g ρ μ f.2.1 = .int x ∧ sa_g ρ μ f.2.2.1 = .int y ∧ sa_g ρ μ f.2.2.2 = .int (x &&& y)) ∨
  (f.1 = 2 ∧ ∃ x, sa_g ρ μ f.2.1 = .int x ∧ sa_g ρ μ f.2.2.2 = .int (sm_chr x)) ∨
  (f.1 = 3 ∧ ∃ x, sa_g ρ μ f.2.1 = .int x ∧ sa_g ρ μ f.2.2.2 = .long x.toInt64) ∨
  (f.1 = 4 ∧ ∃ x y, sa_g ρ μ f.2.1 = .long x ∧ sa_g ρ μ f.2.2.1 = .int y ∧ sa_g ρ μ f.2.2.2 = .long (x <<< (y.toInt64 &&& 63))) ∨
  (f.1 = 5 ∧ ∃ x y, sa_g ρ μ f.2.1 = .long x ∧ sa_g ρ μ f.2.2.1 = .long y ∧ sa_g ρ μ f.2.2.2 = .long (x &&& y)) ∨
  (f.1 = 6 ∧ ∃ x y, sa_g ρ μ f.2.1 = .long x ∧ sa_g ρ μ f.2.2.1 = .long y ∧ sa_g ρ μ f.2.2.2 = .long (x ||| y)) ∨
  (∃ c x y, f.1 = sa_cc c ∧ sa_g ρ μ f.2.1 = .int x ∧ sa_g ρ μ f.2.2.1 = .int y ∧ f.2.2.2 = .int (if sm_cmp c x y then 1 else 0)) ∨
  (f.1 = 30 ∧ ∃ x y, sa_g ρ μ f.2.1 = .int x ∧ f.2.2.1 = .int y ∧ (x.toInt < 0 ∨ y.toInt < x.toInt))
def sa_isI (v : Value) : Bool := match v with | .int _ => true | .retAddr _ => true | _ => false
def sa_isL (v : Value) : Bool := match v with | .long _ => true | .double _ => true | _ => false
def sa_nx (pc : Nat) (ls : sm_L) (st : List Value) (h : sa_H) : Option sa_R := some (.inl (pc, ls, st, h))
def sa_load (k : Value → Bool) (n i pc : Nat) (ls : sm_L) (st : List Value) (h : sa_H) : Option sa_R := match sm_lget ls i with
  | some v => if k v then sa_nx (pc + n) ls (v :: st) h else none
  | none => none
def sa_store1 (n i pc : Nat) (ls : sm_L) (st : List Value) (h : sa_H) : Option sa_R := match st with
  | v :: r => if sa_isI v then (match sm_put1 ls i v with
    | some ls' => sa_nx (pc + n) ls' r h
    | none => none) else none
  | _ => none
def sa_store2 (n i pc : Nat) (ls : sm_L) (st : List Value) (h : sa_H) : Option sa_R := match st with
  | v :: r => if sa_isL v then (match sm_put2 ls i v with
    | some ls' => sa_nx (pc + n) ls' r h
    | none => none) else none
  | _ => none
def sa_ald (t pc : Nat) (ls : sm_L) (st : List Value) (h : sa_H) : Option sa_R := match st with
  | .int i :: .ref a :: r => match h[a]? with
    | some (.inl (t', n, l)) => if t' = t ∧ t ≠ 1 ∧ sm_ix i n ∧ (sm_C ≤ a ∨ t = 0 ∨ t = 4) then (match (sa_look l i.toNatClampNeg).getD (.int 0) with
      | .int x => sa_nx (pc + 1) ls (.int x :: r) h
      | .retAddr k => sa_nx (pc + 1) ls (.retAddr k :: r) h
      | _ => none) else none
    | _ => none
  | _ => none
def sa_aldL (pc : Nat) (ls : sm_L) (st : List Value) (h : sa_H) : Option sa_R := match st with
  | .int i :: .ref a :: r => match h[a]? with
    | some (.inl (t', n, l)) => if t' = 1 ∧ sm_ix i n ∧ sm_C ≤ a then (match (sa_look l i.toNatClampNeg).getD (.long 0) with
      | .long x => sa_nx (pc + 1) ls (.long x :: r) h
      | _ => none) else none
    | _ => none
  | _ => none
/-- what is put into an array of a kind: 0 ints, 2 chars, 3 booleans -/
def sa_in (F : sa_F) (t : Nat) (v : Value) : Option Value := match t, v with
  | 0, .int x => some (.int x)
  | 0, .retAddr k => some (.retAddr k)
  | 2, .int x => some (.int (sm_chr x))
  | 2, .retAddr k => match sa_fact F 2 (.retAddr k) .null with
    | some (.retAddr j) => some (.retAddr j)
    | _ => none
  | 3, .int x => some (.int (x &&& 1))
  | _, _ => none
def sa_ast (F : sa_F) (t pc : Nat) (ls : sm_L) (st : List Value) (h : sa_H) : Option sa_R := match st with
  | v :: .int i :: .ref a :: r => match sa_in F t v with
    | some w => match h[a]? with
      | some (.inl (t', n, l)) => if t' = t ∧ t ≠ 1 ∧ sm_ix i n ∧ sm_C ≤ a then sa_nx (pc + 1) ls r (h.set a (.inl (t', n, (i.toNatClampNeg, w) :: l))) else none
      | _ => none
    | none => none
  | _ => none
def sa_astL (pc : Nat) (ls : sm_L) (st : List Value) (h : sa_H) : Option sa_R := match st with
  | .long x :: .int i :: .ref a :: r => match h[a]? with
    | some (.inl (t', n, l)) => if t' = 1 ∧ sm_ix i n ∧ sm_C ≤ a then sa_nx (pc + 1) ls r (h.set a (.inl (t', n, (i.toNatClampNeg, .long x) :: l))) else none
    | _ => none
  | _ => none
def sa_getf (rs : List Nat) (pc : Nat) (ls : sm_L) (st : List Value) (h : sa_H) : Option sa_R := match st, rs with
  | .ref a :: r, k :: z :: cs => match h[a]? with
    | some (.inr (ci, fs)) => if ci ∈ cs ∧ ((z = 0 ∧ sm_C ≤ a) ∨ (z ≠ 0 ∧ a < sm_C)) then (match fs[k]? with
      | some v => sa_nx (pc + 3) ls (v :: r) h
      | none => none) else none
    | _ => none
  | _, _ => none
def sa_putf (rs : List Nat) (pc : Nat) (ls : sm_L) (st : List Value) (h : sa_H) : Option sa_R := match st, rs with
  | v :: .ref a :: r, k :: t :: _ :: cs => match h[a]? with
    | some (.inr (ci, fs)) => if ci ∈ cs ∧ k < fs.length ∧ sm_fit t v ∧ sm_C ≤ a then sa_nx (pc + 3) ls r (h.set a (.inr (ci, fs.set k v))) else none
    | _ => none
  | _, _ => none
def sa_newo (rs : List Nat) (pc : Nat) (ls : sm_L) (st : List Value) (h : sa_H) : Option sa_R := match rs with
  | ci :: ts => if ci = 1000 then none else sa_nx (pc + 3) ls (.ref h.length :: st) (h ++ [.inr (ci, ts.map sm_dflt)])
  | _ => none
def sa_newa (rs : List Nat) (pc : Nat) (ls : sm_L) (st : List Value) (h : sa_H) : Option sa_R := match st, rs with
  | .int n :: r, [t] => if ¬ n < 0 ∧ n.toNatClampNeg ≤ 65536 then sa_nx (pc + 2) ls (.ref h.length :: r) (h ++ [.inl (t, n.toNatClampNeg, [])]) else none
  | _, _ => none
def sa_callV (rs : List Nat) (st : List Value) (h : sa_H) : Option sa_R := match rs with
  | _ :: n :: ps => match sm_args (n + 1) st with
    | some (.ref a :: as, r) => match h[a]? with
      | some (.inr (ci, _)) => match sm_pick ci ps with
        | some m => some (.inr (.inr (m, .ref a :: as, r)))
        | none => none
      | _ => none
    | _ => none
  | _ => none
def sa_alen (pc : Nat) (ls : sm_L) (st : List Value) (h : sa_H) : Option sa_R := match st with
  | .ref a :: r => match h[a]? with
    | some (.inl (t, n, _)) => if (sm_ty t).isSome then sa_nx (pc + 1) ls (.int (Int32.ofNat n) :: r) h else none
    | _ => none
  | _ => none
/-- an instruction that does not look at the cells -/
def sa_pure (r : Option sm_R) (h : sa_H) : Option sa_R := match r with
  | some (.inl (pc, ls, st, _)) => some (.inl (pc, ls, st, h))
  | some (.inr x) => some (.inr x)
  | none => none
/-- a number made of unknown ones, by a fact -/
def sa_bin (F : sa_F) (c pc : Nat) (ls : sm_L) (st : List Value) (h : sa_H) : Option sa_R := match st with
  | y :: x :: r => match sa_fact F c x y with
    | some z => sa_nx (pc + 1) ls (z :: r) h
    | none => none
  | _ => none
def sa_un (F : sa_F) (c pc : Nat) (ls : sm_L) (st : List Value) (h : sa_H) : Option sa_R := match st with
  | x :: r => match sa_fact F c x .null with
    | some z => sa_nx (pc + 1) ls (z :: r) h
    | none => none
  | _ => none
def sa_br (F : sa_F) (c : ClassFile.Cond) (x y : Value) (pc : Nat) (off : Int) (ls : sm_L) (r : List Value) (h : sa_H) : Option sa_R := match sa_fact F (sa_cc c) x y with
  | some (.int b) => if b = 1 then sa_nx (sm_jmp pc off) ls r h else if b = 0 then sa_nx (pc + 3) ls r h else none
  | _ => none
def sa_tok (v : Value) : Bool := match v with | .retAddr _ => true | .double _ => true | _ => false
def sa_top1 (st : List Value) : Bool := match st with | v :: _ => sa_tok v | _ => false
def sa_top2 (st : List Value) : Bool := match st with | v :: w :: _ => sa_tok v || sa_tok w | _ => false
def sa_step (F : sa_F) (q : sm_I) (pc : Nat) (ls : sm_L) (st : List Value) (h : sa_H) : Option sa_R := match q with
  | (i, len, rs) => match i with
    | .iload_n k => sa_load sa_isI 1 k pc ls st h
    | .iload k => sa_load sa_isI 2 k pc ls st h
    | .lload_n k => sa_load sa_isL 1 k pc ls st h
    | .lload k => sa_load sa_isL 2 k pc ls st h
    | .istore_n k => sa_store1 1 k pc ls st h
    | .istore k => sa_store1 2 k pc ls st h
    | .lstore_n k => sa_store2 1 k pc ls st h
    | .lstore k => sa_store2 2 k pc ls st h
    | .iaload => sa_ald 0 pc ls st h
    | .caload => sa_ald 2 pc ls st h
    | .baload => match sa_ald 3 pc ls st h with
      | some r => some r
      | none => sa_ald 4 pc ls st h
    | .laload => sa_aldL pc ls st h
    | .iastore => sa_ast F 0 pc ls st h
    | .castore => sa_ast F 2 pc ls st h
    | .bastore => sa_ast F 3 pc ls st h
    | .lastore => sa_astL pc ls st h
    | .arraylength => sa_alen pc ls st h
    | .getfield _ => sa_getf rs pc ls st h
    | .putfield _ => sa_putf rs pc ls st h
    | .new _ => sa_newo rs pc ls st h
    | .newarray _ => sa_newa rs pc ls st h
    | .invokevirtual _ => sa_callV rs st h
    | .iand => if sa_top2 st then sa_bin F 1 pc ls st h else sa_pure (sm_step q pc ls st []) h
    | .i2c => if sa_top1 st then sa_un F 2 pc ls st h else sa_pure (sm_step q pc ls st []) h
    | .i2l => if sa_top1 st then sa_un F 3 pc ls st h else sa_pure (sm_step q pc ls st []) h
    | .lshl => if sa_top2 st then sa_bin F 4 pc ls st h else sa_pure (sm_step q pc ls st []) h
    | .land => if sa_top2 st then sa_bin F 5 pc ls st h else sa_pure (sm_step q pc ls st []) h
    | .lor => if sa_top2 st then sa_bin F 6 pc ls st h else sa_pure (sm_step q pc ls st []) h
    | .if_icmp c off => if sa_top2 st then (match st with
      | y :: x :: r => sa_br F c x y pc off ls r h
      | _ => none) else sa_pure (sm_step q pc ls st []) h
    | .ifCond c off => if sa_top1 st then (match st with
      | x :: r => sa_br F c x (.int 0) pc off ls r h
      | _ => none) else sa_pure (sm_step q pc ls st []) h
    | .tableswitch d lo hi _ => if sa_top1 st then (match st with
      | x :: r => if lo = 0 ∧ 0 ≤ hi ∧ hi < 1000 then (match sa_fact F 30 x (.int (Int32.ofInt hi)) with
        | some _ => sa_nx (sm_jmp pc d) ls r h
        | none => none) else none
      | _ => none) else sa_pure (sm_step q pc ls st []) h
    | _ => sa_pure (sm_step q pc ls st []) h
