/-! THE MACHINE WITH BOUNDS: of a number is known its least and its greatest value and where else it stands ('tags'); of the cells their shape alone ('sk'). All of it is first-order: a check is a computation. -/
/-- a tag: 0 a local, 1 a field, 2 a local at the head, 3 a field at the head; which (a field: cell * 128 + its place); how much more the number is than what stands there -/
abbrev ab_T : Type := Nat × Nat × Int
/-- kind (0 nothing is known, 1 int, 2 long, 3 a reference), least (or which cell), greatest, tags -/
abbrev ab_V : Type := Nat × Int × Int × List ab_T
/-- what is known of fields -/
abbrev ab_HC : Type := List (Nat × ab_V)
/-- locals, stack, fields -/
abbrev ab_A : Type := List ab_V × List ab_V × ab_HC
/-- the shape of a cell: an array (class, length, least, greatest, what it holds if that is known), or an object (class, fields: kind 0 int, 1 long, 2 reference; least, greatest) -/
abbrev ab_S : Type := (Nat × Nat × Int × Int × List Int) ⊕ (Nat × List (Nat × Int × Int))
abbrev ab_K : Type := List (Option ab_S)
def ab_fld (h : sm_H) (c : Nat) : Option Value := match h[c / 128]? with
  | some (.inr (_, fs)) => fs[c % 128]?
  | _ => none
def ab_tg (ls : sm_L) (h : sm_H) (L0 : sm_L) (h0 : sm_H) (t : ab_T) (z : Int) : Prop :=
  (t.1 = 0 → ∃ y : Int32, sm_lget ls t.2.1 = some (.int y) ∧ z = y.toInt + t.2.2) ∧
  (t.1 = 1 → ∃ y : Int32, ab_fld h t.2.1 = some (.int y) ∧ z = y.toInt + t.2.2) ∧
  (t.1 = 2 → ∃ y : Int32, sm_lget L0 t.2.1 = some (.int y) ∧ z = y.toInt + t.2.2) ∧
  (t.1 = 3 → ∃ y : Int32, ab_fld h0 t.2.1 = some (.int y) ∧ z = y.toInt + t.2.2)
def ab_okV (ls : sm_L) (h : sm_H) (L0 : sm_L) (h0 : sm_H) (a : ab_V) (v : Option Value) : Prop := match a.1 with
  | 0 => True
  | 1 => ∃ x : Int32, v = some (.int x) ∧ a.2.1 ≤ x.toInt ∧ x.toInt ≤ a.2.2.1 ∧ ∀ t ∈ a.2.2.2, ab_tg ls h L0 h0 t x.toInt
  | 2 => ∃ x : Int64, v = some (.long x) ∧ a.2.1 ≤ x.toInt ∧ x.toInt ≤ a.2.2.1
  | 3 => v = some (.ref a.2.1.toNat)
  | _ => False
def ab_okL (ls : sm_L) (h : sm_H) (L0 : sm_L) (h0 : sm_H) (al : List ab_V) : Prop := al.length = ls.length ∧ ∀ (j : Nat) (a : ab_V), al[j]? = some a → ab_okV ls h L0 h0 a (sm_lget ls j)
def ab_okSt (ls : sm_L) (h : sm_H) (L0 : sm_L) (h0 : sm_H) : List ab_V → List Value → Prop
  | [], [] => True
  | a :: r, v :: s => ab_okV ls h L0 h0 a (some v) ∧ ab_okSt ls h L0 h0 r s
  | _, _ => False
def ab_okH (ls : sm_L) (h : sm_H) (L0 : sm_L) (h0 : sm_H) (hc : ab_HC) : Prop := ∀ e ∈ hc, ab_okV ls h L0 h0 e.2 (ab_fld h e.1)
def ab_ok (L0 : sm_L) (h0 : sm_H) (A : ab_A) (ls : sm_L) (st : List Value) (h : sm_H) : Prop := ab_okL ls h L0 h0 A.1 ∧ ab_okSt ls h L0 h0 A.2.1 st ∧ ab_okH ls h L0 h0 A.2.2
/-- a field's value fits the shape -/
def ab_fv (e : Nat × Int × Int) (v : Value) : Prop := match e.1 with
  | 0 => ∃ x : Int32, v = .int x ∧ e.2.1 ≤ x.toInt ∧ x.toInt ≤ e.2.2
  | 1 => ∃ x : Int64, v = .long x ∧ e.2.1 ≤ x.toInt ∧ x.toInt ≤ e.2.2
  | _ => v = .ref e.2.1.toNat
/-- an array's contents fit the shape -/
def ab_av (t n : Nat) (lo hi : Int) (ex : List Int) (c : (Nat → Int32) ⊕ (Nat → Int64) ⊕ (Nat → UInt32) ⊕ (Nat → UInt64) ⊕ (Nat → Option Nat)) : Prop := match c with
  | .inl f => t ≠ 1 ∧ ∀ i, i < n → lo ≤ (f i).toInt ∧ (f i).toInt ≤ hi ∧ ∀ z, ex[i]? = some z → (f i).toInt = z
  | .inr (.inl f) => t = 1 ∧ ∀ i, i < n → lo ≤ (f i).toInt ∧ (f i).toInt ≤ hi
  | _ => False
def ab_cell (s : ab_S) (e : Option sm_E) : Prop := match s with
  | .inl (t, n, lo, hi, ex) => ∃ c, e = some (.inl (t, n, c)) ∧ ab_av t n lo hi ex c
  | .inr (ci, fl) => ∃ fs, e = some (.inr (ci, fs)) ∧ fs.length = fl.length ∧ ∀ (i : Nat) (x : Nat × Int × Int) (v : Value), fl[i]? = some x → fs[i]? = some v → ab_fv x v
def ab_Sh (sk : ab_K) (h : sm_H) : Prop := ∀ (k : Nat) (s : ab_S), sk[k]? = some (some s) → ab_cell s h[k]?
/-- what may be written: ranges of cell * 128 + field -/
def ab_in (wr : List (Nat × Nat)) (c : Nat) : Bool := wr.any (fun r => decide (r.1 ≤ c ∧ c < r.2))
def ab_FrE (wr : List (Nat × Nat)) (h' : sm_H) (k : Nat) (e : sm_E) : Prop := match e with
  | .inl x => ab_in wr (k * 128) = false → h'[k]? = some (.inl x)
  | .inr (ci, fs) => ∃ fs', h'[k]? = some (.inr (ci, fs')) ∧ ∀ f, ab_in wr (k * 128 + f) = false → fs'[f]? = fs[f]?
def ab_Fr (wr : List (Nat × Nat)) (h h' : sm_H) : Prop := h'.length = h.length ∧ sm_sl h' = sm_sl h ∧ ∀ (k : Nat) (e : sm_E), h[k]? = some e → ab_FrE wr h' k e
/-! numbers -/
def ab_unk : ab_V := (0, 0, 0, [])
def ab_top : ab_V := (1, -2147483648, 2147483647, [])
def ab_topL : ab_V := (2, -9223372036854775808, 9223372036854775807, [])
def ab_ci (z : Int) : ab_V := (1, z, z, [])
def ab_cl (z : Int) : ab_V := (2, z, z, [])
def ab_rf (n : Nat) : ab_V := (3, (n : Int), 0, [])
def ab_inI (lo hi : Int) : Bool := decide (-2147483648 ≤ lo ∧ hi ≤ 2147483647)
def ab_shift (c : Int) (ts : List ab_T) : List ab_T := ts.map (fun t => (t.1, t.2.1, t.2.2 + c))
def ab_cst (a : ab_V) : Bool := decide (a.2.1 = a.2.2.1)
def ab_add (x y : ab_V) : ab_V := if ab_inI (x.2.1 + y.2.1) (x.2.2.1 + y.2.2.1) then (1, x.2.1 + y.2.1, x.2.2.1 + y.2.2.1, if ab_cst y then ab_shift y.2.1 x.2.2.2 else if ab_cst x then ab_shift x.2.1 y.2.2.2 else []) else ab_top
def ab_sub (x y : ab_V) : ab_V := if ab_inI (x.2.1 - y.2.2.1) (x.2.2.1 - y.2.1) then (1, x.2.1 - y.2.2.1, x.2.2.1 - y.2.1, if ab_cst y then ab_shift (-y.2.1) x.2.2.2 else []) else ab_top
def ab_fold (f : Int32 → Int32 → Int32) (x y : ab_V) : ab_V := if ab_cst x && ab_cst y then ab_ci (f (Int32.ofInt x.2.1) (Int32.ofInt y.2.1)).toInt else ab_top
def ab_and (x y : ab_V) : ab_V := if ab_cst x && ab_cst y then ab_ci (Int32.ofInt x.2.1 &&& Int32.ofInt y.2.1).toInt else if ab_cst y && decide (0 ≤ y.2.1) then (1, 0, y.2.1, []) else if ab_cst x && decide (0 ≤ x.2.1) then (1, 0, x.2.1, []) else ab_top
def ab_foldL (f : Int64 → Int64 → Int64) (x y : ab_V) : ab_V := if ab_cst x && ab_cst y then ab_cl (f (Int64.ofInt x.2.1) (Int64.ofInt y.2.1)).toInt else ab_topL
def ab_foldS (f : Int64 → Int32 → Int64) (x y : ab_V) : ab_V := if ab_cst x && ab_cst y then ab_cl (f (Int64.ofInt x.2.1) (Int32.ofInt y.2.1)).toInt else ab_topL
def ab_lcmp (x y : ab_V) : ab_V := if ab_cst x && ab_cst y then ab_ci (lg_cmp (Int64.ofInt x.2.1) (Int64.ofInt y.2.1)).toInt else (1, -1, 1, [])
def ab_mm (k : Nat) (x y : ab_V) : ab_V := if k = 0 then (1, max x.2.1 y.2.1, max x.2.2.1 y.2.2.1, []) else (1, min x.2.1 y.2.1, min x.2.2.1 y.2.2.1, [])
def ab_chr (a : ab_V) : ab_V := if decide (0 ≤ a.2.1 ∧ a.2.2.1 ≤ 65535) then a else (1, 0, 65535, [])
/-! states -/
def ab_keep (p : ab_T → Bool) (a : ab_V) : ab_V := (a.1, a.2.1, a.2.2.1, a.2.2.2.filter p)
def ab_keepH (p : ab_T → Bool) (hc : ab_HC) : ab_HC := hc.map (fun e => (e.1, ab_keep p e.2))
/-- no tag of this local; no tag of this field; no tag of any field -/
def ab_nl (k : Nat) (t : ab_T) : Bool := !(t.1 == 0 && t.2.1 == k)
def ab_nf (c : Nat) (t : ab_T) : Bool := !(t.1 == 1 && t.2.1 == c)
def ab_n1 (t : ab_T) : Bool := !(t.1 == 1)
def ab_n0 (t : ab_T) : Bool := !(t.1 == 0)
def ab_nw (wr : List (Nat × Nat)) (t : ab_T) : Bool := !(t.1 == 1 && ab_in wr t.2.1)
abbrev ab_O : Type := Option (List (Nat × ab_A))
def ab_go (pc : Nat) (A : ab_A) : ab_O := some [(pc, A)]
def ab_push (pc : Nat) (v : ab_V) (A : ab_A) : ab_O := some [(pc, (A.1, v :: A.2.1, A.2.2))]
/-- a store breaks a long that ends there -/
def ab_break (al : List ab_V) (k : Nat) : List ab_V := match k with
  | 0 => al
  | j + 1 => match al[j]? with
    | some v => if v.1 = 2 then al.set j ab_unk else al
    | none => al
def ab_setl (k : Nat) (v : ab_V) (al : List ab_V) : List ab_V := (ab_break (al.map (ab_keep (ab_nl k))) k).set k (ab_keep (ab_nl k) v)
def ab_setA (k : Nat) (v : ab_V) (A : ab_A) : ab_A := (ab_setl k v A.1, A.2.1.map (ab_keep (ab_nl k)), ab_keepH (ab_nl k) A.2.2)
def ab_nl2 (k : Nat) (t : ab_T) : Bool := !(t.1 == 0 && (t.2.1 == k || t.2.1 == k + 1))
def ab_setA2 (k : Nat) (v : ab_V) (A : ab_A) : ab_A := (((ab_break (A.1.map (ab_keep (ab_nl2 k))) k).set k v).set (k + 1) ab_unk, A.2.1.map (ab_keep (ab_nl2 k)), ab_keepH (ab_nl2 k) A.2.2)
def ab_load (kd k len pc : Nat) (A : ab_A) : ab_O := match A.1[k]? with
  | some v => if v.1 = kd then ab_push (pc + len) (if kd = 1 then (1, v.2.1, v.2.2.1, (0, k, 0) :: v.2.2.2) else v) A else none
  | none => none
def ab_store (kd k len pc : Nat) (A : ab_A) : ab_O := match A.2.1 with
  | v :: r => if v.1 = kd ∧ k < A.1.length then ab_go (pc + len) (ab_setA k v (A.1, r, A.2.2)) else none
  | _ => none
def ab_storeL (k len pc : Nat) (A : ab_A) : ab_O := match A.2.1 with
  | v :: r => if v.1 = 2 ∧ k + 1 < A.1.length then ab_go (pc + len) (ab_setA2 k (2, v.2.1, v.2.2.1, []) (A.1, r, A.2.2)) else none
  | _ => none
def ab_iinc (k : Nat) (n : Int) (pc : Nat) (A : ab_A) : ab_O := match A.1[k]? with
  | some v => if v.1 = 1 then ab_go (pc + 3) (ab_setA k (ab_add v (ab_ci (Int32.ofInt n).toInt)) A) else none
  | none => none
def ab_bin (g : ab_V → ab_V → ab_V) (pc : Nat) (A : ab_A) : ab_O := match A.2.1 with
  | y :: x :: r => if y.1 = 1 ∧ x.1 = 1 then ab_go (pc + 1) (A.1, g x y :: r, A.2.2) else none
  | _ => none
def ab_binL (g : ab_V → ab_V → ab_V) (pc : Nat) (A : ab_A) : ab_O := match A.2.1 with
  | y :: x :: r => if y.1 = 2 ∧ x.1 = 2 then ab_go (pc + 1) (A.1, g x y :: r, A.2.2) else none
  | _ => none
def ab_binS (g : ab_V → ab_V → ab_V) (pc : Nat) (A : ab_A) : ab_O := match A.2.1 with
  | y :: x :: r => if y.1 = 1 ∧ x.1 = 2 then ab_go (pc + 1) (A.1, g x y :: r, A.2.2) else none
  | _ => none
/-- a number that is not 0 -/
def ab_n0d (y : ab_V) : Bool := decide (0 < y.2.1 ∨ y.2.2.1 < 0)
def ab_div (g : ab_V → ab_V → ab_V) (kd pc : Nat) (A : ab_A) : ab_O := match A.2.1 with
  | y :: x :: r => if y.1 = kd ∧ x.1 = kd ∧ ab_n0d y then ab_go (pc + 1) (A.1, g x y :: r, A.2.2) else none
  | _ => none
def ab_un (kd : Nat) (g : ab_V → ab_V) (pc : Nat) (A : ab_A) : ab_O := match A.2.1 with
  | x :: r => if x.1 = kd then ab_go (pc + 1) (A.1, g x :: r, A.2.2) else none
  | _ => none
/-! branches -/
def ab_mod (j : Nat) (f : ab_V → ab_V) (l : List ab_V) : List ab_V := match l[j]? with
  | some a => l.set j (f a)
  | none => l
def ab_meet (lo hi : Int) (a : ab_V) : ab_V := if a.1 = 1 then (1, max a.2.1 lo, min a.2.2.1 hi, a.2.2.2) else a
def ab_ref1 (lo hi : Int) (A : ab_A) (t : ab_T) : ab_A :=
  if t.1 = 0 then (ab_mod t.2.1 (ab_meet (lo - t.2.2) (hi - t.2.2)) A.1, A.2.1, A.2.2)
  else if t.1 = 1 then (A.1, A.2.1, A.2.2.map (fun e => if e.1 = t.2.1 then (e.1, ab_meet (lo - t.2.2) (hi - t.2.2) e.2) else e)) else A
def ab_refs (ts : List ab_T) (lo hi : Int) (A : ab_A) : ab_A := ts.foldl (ab_ref1 lo hi) A
def ab_cutR (c : ClassFile.Cond) (xl xh yl yh : Int) : Int × Int × Int × Int := match c with
  | .eq => (max xl yl, min xh yh, max xl yl, min xh yh)
  | .ne => (if yl = yh ∧ xl = yl then xl + 1 else xl, if yl = yh ∧ xh = yl then xh - 1 else xh, if xl = xh ∧ yl = xl then yl + 1 else yl, if xl = xh ∧ yh = xl then yh - 1 else yh)
  | .lt => (xl, min xh (yh - 1), max yl (xl + 1), yh)
  | .ge => (max xl yl, xh, yl, min yh xh)
  | .gt => (max xl (yl + 1), xh, yl, min yh (xh - 1))
  | .le => (xl, min xh yh, max yl xl, yh)
def ab_neg (c : ClassFile.Cond) : ClassFile.Cond := match c with
  | .eq => .ne
  | .ne => .eq
  | .lt => .ge
  | .ge => .lt
  | .gt => .le
  | .le => .gt
def ab_br (c : ClassFile.Cond) (x y : ab_V) (pc : Nat) (A : ab_A) : List (Nat × ab_A) := match ab_cutR c x.2.1 x.2.2.1 y.2.1 y.2.2.1 with
  | (xl, xh, yl, yh) => if xl ≤ xh ∧ yl ≤ yh then [(pc, ab_refs y.2.2.2 yl yh (ab_refs x.2.2.2 xl xh A))] else []
def ab_if (c : ClassFile.Cond) (x y : ab_V) (pc : Nat) (off : Int) (A : ab_A) : ab_O := if x.1 = 1 ∧ y.1 = 1 then some (ab_br c x y (sm_jmp pc off) A ++ ab_br (ab_neg c) x y (pc + 3) A) else none
/-- the places of a switch, from the value i on -/
def ab_sw (x : ab_V) (pc : Nat) (A : ab_A) (i : Int) : List Int → List (Nat × ab_A)
  | [] => []
  | o :: r => (if x.2.1 ≤ i ∧ i ≤ x.2.2.1 then [(sm_jmp pc o, ab_refs x.2.2.2 i i A)] else []) ++ ab_sw x pc A (i + 1) r
def ab_switch (x : ab_V) (pc : Nat) (d lo hi : Int) (offs : List Int) (A : ab_A) : ab_O :=
  if x.1 = 1 ∧ (offs.length : Int) = hi - lo + 1 then some ((if lo ≤ x.2.1 ∧ x.2.2.1 ≤ hi then [] else [(sm_jmp pc d, A)]) ++ ab_sw x pc A lo offs) else none
/-! cells -/
def ab_ixok (i : ab_V) (n : Nat) : Bool := decide (i.1 = 1 ∧ 0 ≤ i.2.1 ∧ i.2.2.1 < (n : Int))
def ab_hget : ab_HC → Nat → Option ab_V
  | [], _ => none
  | e :: r, c => if e.1 = c then some e.2 else ab_hget r c
def ab_ald (t : Nat) (sk : ab_K) (pc : Nat) (A : ab_A) : ab_O := match A.2.1 with
  | i :: a :: r => if a.1 = 3 then (match sk[a.2.1.toNat]? with
    | some (some (.inl (t', n, lo, hi, ex))) => if t' = t ∧ t ≠ 1 ∧ ab_ixok i n = true ∧ (sm_C ≤ a.2.1.toNat ∨ t = 0 ∨ t = 4) then
        ab_go (pc + 1) (A.1, (if ab_cst i then (match ex[i.2.1.toNat]? with
          | some z => ab_ci z
          | none => (1, lo, hi, [])) else (1, lo, hi, [])) :: r, A.2.2) else none
    | _ => none) else none
  | _ => none
def ab_aldL (sk : ab_K) (pc : Nat) (A : ab_A) : ab_O := match A.2.1 with
  | i :: a :: r => if a.1 = 3 then (match sk[a.2.1.toNat]? with
    | some (some (.inl (t', n, lo, hi, _))) => if t' = 1 ∧ ab_ixok i n = true ∧ sm_C ≤ a.2.1.toNat then ab_go (pc + 1) (A.1, (2, lo, hi, []) :: r, A.2.2) else none
    | _ => none) else none
  | _ => none
/-- what is stored of a number in an array of class t -/
def ab_gv (t : Nat) (v : ab_V) : ab_V := if t = 0 then v else if t = 2 then ab_chr v else (1, 0, 1, [])
def ab_ast (t : Nat) (sk : ab_K) (wr : List (Nat × Nat)) (pc : Nat) (A : ab_A) : ab_O := match A.2.1 with
  | v :: i :: a :: r => if a.1 = 3 ∧ v.1 = 1 then (match sk[a.2.1.toNat]? with
    | some (some (.inl (t', n, lo, hi, ex))) => if t' = t ∧ t ≠ 1 ∧ ab_ixok i n = true ∧ sm_C ≤ a.2.1.toNat ∧ ex = [] ∧ lo ≤ (ab_gv t v).2.1 ∧ (ab_gv t v).2.2.1 ≤ hi ∧ ab_in wr (a.2.1.toNat * 128) = true then ab_go (pc + 1) (A.1, r, A.2.2) else none
    | _ => none) else none
  | _ => none
def ab_astL (sk : ab_K) (wr : List (Nat × Nat)) (pc : Nat) (A : ab_A) : ab_O := match A.2.1 with
  | v :: i :: a :: r => if a.1 = 3 ∧ v.1 = 2 then (match sk[a.2.1.toNat]? with
    | some (some (.inl (t', n, lo, hi, _))) => if t' = 1 ∧ ab_ixok i n = true ∧ sm_C ≤ a.2.1.toNat ∧ lo ≤ v.2.1 ∧ v.2.2.1 ≤ hi ∧ ab_in wr (a.2.1.toNat * 128) = true then ab_go (pc + 1) (A.1, r, A.2.2) else none
    | _ => none) else none
  | _ => none
def ab_alen (sk : ab_K) (pc : Nat) (A : ab_A) : ab_O := match A.2.1 with
  | a :: r => if a.1 = 3 then (match sk[a.2.1.toNat]? with
    | some (some (.inl (t, n, _, _, _))) => if (sm_ty t).isSome ∧ n ≤ 2147483647 then ab_go (pc + 1) (A.1, ab_ci n :: r, A.2.2) else none
    | _ => none) else none
  | _ => none
def ab_getf (sk : ab_K) (rs : List Nat) (pc : Nat) (A : ab_A) : ab_O := match A.2.1, rs with
  | a :: r, k :: z :: cs => if a.1 = 3 then (match sk[a.2.1.toNat]? with
    | some (some (.inr (ci, fl))) => if ci ∈ cs ∧ k < 128 ∧ ((z = 0 ∧ sm_C ≤ a.2.1.toNat) ∨ (z ≠ 0 ∧ a.2.1.toNat < sm_C)) then (match fl[k]? with
      | some (t, lo, hi) =>
        if t = 0 then (match ab_hget A.2.2 (a.2.1.toNat * 128 + k) with
          | some v => if v.1 = 1 then ab_go (pc + 3) (A.1, (1, v.2.1, v.2.2.1, (1, a.2.1.toNat * 128 + k, 0) :: v.2.2.2) :: r, A.2.2) else none
          | none => ab_go (pc + 3) (A.1, (1, lo, hi, [(1, a.2.1.toNat * 128 + k, 0)]) :: r, (a.2.1.toNat * 128 + k, (1, lo, hi, [])) :: A.2.2))
        else if t = 1 then (match ab_hget A.2.2 (a.2.1.toNat * 128 + k) with
          | some v => if v.1 = 2 then ab_go (pc + 3) (A.1, v :: r, A.2.2) else none
          | none => ab_go (pc + 3) (A.1, (2, lo, hi, []) :: r, A.2.2))
        else ab_go (pc + 3) (A.1, (3, lo, 0, []) :: r, A.2.2)
      | none => none) else none
    | _ => none) else none
  | _, _ => none
/-- a number fits a field of a kind of the machine -/
def ab_fits (t : Nat) (v : ab_V) : Bool := decide ((t = 0 ∧ v.1 = 1) ∨ (t = 1 ∧ v.1 = 2) ∨ (t = 3 ∧ v.1 = 1 ∧ 0 ≤ v.2.1 ∧ v.2.2.1 ≤ 1) ∨ (t = 4 ∧ v.1 = 1 ∧ 0 ≤ v.2.1 ∧ v.2.2.1 ≤ 65535))
def ab_putf (sk : ab_K) (wr : List (Nat × Nat)) (rs : List Nat) (pc : Nat) (A : ab_A) : ab_O := match A.2.1, rs with
  | v :: a :: r, k :: t :: _ :: cs => if a.1 = 3 then (match sk[a.2.1.toNat]? with
    | some (some (.inr (ci, fl))) => if ci ∈ cs ∧ k < 128 ∧ sm_C ≤ a.2.1.toNat ∧ ab_in wr (a.2.1.toNat * 128 + k) = true ∧ ab_fits t v = true then (match fl[k]? with
      | some (t', lo, hi) => if ((t' = 0 ∧ v.1 = 1) ∨ (t' = 1 ∧ v.1 = 2)) ∧ lo ≤ v.2.1 ∧ v.2.2.1 ≤ hi then
          ab_go (pc + 3) (A.1.map (ab_keep (ab_nf (a.2.1.toNat * 128 + k))), r.map (ab_keep (ab_nf (a.2.1.toNat * 128 + k))), (a.2.1.toNat * 128 + k, ab_keep (ab_nf (a.2.1.toNat * 128 + k)) (ab_keep ab_n0 v)) :: ab_keepH (ab_nf (a.2.1.toNat * 128 + k)) (A.2.2.filter (fun e => !(e.1 == a.2.1.toNat * 128 + k)))) else none
      | none => none) else none
    | _ => none) else none
  | _, _ => none
/-! one instruction -/
def ab_c1 (a : ab_V) : Bool := a.1 == 1 || a.1 == 3
def ab_cat (a : ab_V) : Nat := if a.1 = 2 then 2 else 1
def ab_cats (r : List ab_V) : Bool := decide ((r.map ab_cat).sum ≤ 8) && r.all (fun a => !(a.1 == 0))
def ab_step (sk : ab_K) (wr : List (Nat × Nat)) (q : sm_I) (pc : Nat) (A : ab_A) : ab_O := match q with
  | (i, _, rs) => match i with
    | .iconst n => ab_push (pc + 1) (ab_ci (Int32.ofInt n).toInt) A
    | .bipush n => ab_push (pc + 2) (ab_ci (Int8.ofInt n).toInt32.toInt) A
    | .sipush n => ab_push (pc + 3) (ab_ci (Int16.ofInt n).toInt32.toInt) A
    | .lconst n => ab_push (pc + 1) (ab_cl (Int64.ofNat (n : Nat)).toInt) A
    | .ldc _ => match rs with
      | [0, n] => ab_push (pc + 2) (ab_ci (Int32.ofNat n).toInt) A
      | [1, n] => ab_push (pc + 2) (ab_rf n) A
      | _ => none
    | .ldc_w _ => match rs with
      | [0, n] => ab_push (pc + 3) (ab_ci (Int32.ofNat n).toInt) A
      | _ => none
    | .ldc2_w _ => match rs with
      | [n] => ab_push (pc + 3) (ab_cl (Int64.ofNat n).toInt) A
      | _ => none
    | .iload_n k => ab_load 1 k 1 pc A
    | .iload k => ab_load 1 k 2 pc A
    | .lload_n k => ab_load 2 k 1 pc A
    | .lload k => ab_load 2 k 2 pc A
    | .aload_n k => ab_load 3 k 1 pc A
    | .aload k => ab_load 3 k 2 pc A
    | .istore_n k => ab_store 1 k 1 pc A
    | .istore k => ab_store 1 k 2 pc A
    | .astore_n k => ab_store 3 k 1 pc A
    | .astore k => ab_store 3 k 2 pc A
    | .lstore_n k => ab_storeL k 1 pc A
    | .lstore k => ab_storeL k 2 pc A
    | .iinc k n => ab_iinc k n pc A
    | .iadd => ab_bin ab_add pc A
    | .isub => ab_bin ab_sub pc A
    | .iand => ab_bin ab_and pc A
    | .imul => ab_bin (ab_fold (· * ·)) pc A
    | .ior => ab_bin (ab_fold (· ||| ·)) pc A
    | .ixor => ab_bin (ab_fold (· ^^^ ·)) pc A
    | .ishl => ab_bin (ab_fold (fun x y => x <<< (y &&& 31))) pc A
    | .ishr => ab_bin (ab_fold (fun x y => x >>> (y &&& 31))) pc A
    | .iushr => ab_bin (ab_fold (fun x y => (x.toUInt32 >>> (y.toUInt32 &&& Int32.toUInt32 31)).toInt32)) pc A
    | .idiv => ab_div (ab_fold (· / ·)) 1 pc A
    | .irem => ab_div (ab_fold (fun x y => x - x / y * y)) 1 pc A
    | .ineg => ab_un 1 (fun _ => ab_top) pc A
    | .ladd => ab_binL (ab_foldL (· + ·)) pc A
    | .lsub => ab_binL (ab_foldL (· - ·)) pc A
    | .lmul => ab_binL (ab_foldL (· * ·)) pc A
    | .land => ab_binL (ab_foldL (· &&& ·)) pc A
    | .lor => ab_binL (ab_foldL (· ||| ·)) pc A
    | .lxor => ab_binL (ab_foldL (· ^^^ ·)) pc A
    | .lrem => ab_div (ab_foldL (fun x y => x - x / y * y)) 2 pc A
    | .ldiv => ab_div (ab_foldL (· / ·)) 2 pc A
    | .lushr => ab_binS (ab_foldS (fun x y => (x.toUInt64 >>> (y.toInt64.toUInt64 &&& Int64.toUInt64 63)).toInt64)) pc A
    | .lshl => ab_binS (ab_foldS (fun x y => x <<< (y.toInt64 &&& 63))) pc A
    | .lshr => ab_binS (ab_foldS (fun x y => x >>> (y.toInt64 &&& 63))) pc A
    | .lcmp => ab_binL ab_lcmp pc A
    | .i2l => ab_un 1 (fun x => (2, x.2.1, x.2.2.1, [])) pc A
    | .l2i => ab_un 2 (fun x => if ab_inI x.2.1 x.2.2.1 then (1, x.2.1, x.2.2.1, []) else ab_top) pc A
    | .i2c => ab_un 1 ab_chr pc A
    | .i2b => ab_un 1 (fun _ => ab_top) pc A
    | .dup => match A.2.1 with
      | v :: r => if ab_c1 v then ab_go (pc + 1) (A.1, v :: v :: r, A.2.2) else none
      | _ => none
    | .pop => match A.2.1 with
      | v :: r => if ab_c1 v then ab_go (pc + 1) (A.1, r, A.2.2) else none
      | _ => none
    | .dup_x1 => match A.2.1 with
      | v :: w :: r => if ab_c1 v ∧ ab_c1 w then ab_go (pc + 1) (A.1, v :: w :: v :: r, A.2.2) else none
      | _ => none
    | .dup_x2 => match A.2.1 with
      | v :: w :: u :: r => if ab_c1 v ∧ ab_c1 w ∧ ab_c1 u then ab_go (pc + 1) (A.1, v :: w :: u :: v :: r, A.2.2) else none
      | _ => none
    | .dup2 => match A.2.1 with
      | v :: r => if v.1 = 2 then ab_go (pc + 1) (A.1, v :: v :: r, A.2.2) else (match r with
        | w :: r2 => if ab_c1 v ∧ ab_c1 w then ab_go (pc + 1) (A.1, v :: w :: v :: w :: r2, A.2.2) else none
        | _ => none)
      | _ => none
    | .pop2 => match A.2.1 with
      | v :: r => if v.1 = 2 then ab_go (pc + 1) (A.1, r, A.2.2) else (match r with
        | w :: r2 => if ab_c1 v ∧ ab_c1 w then ab_go (pc + 1) (A.1, r2, A.2.2) else none
        | _ => none)
      | _ => none
    | .if_icmp c off => match A.2.1 with
      | y :: x :: r => ab_if c x y pc off (A.1, r, A.2.2)
      | _ => none
    | .ifCond c off => match A.2.1 with
      | x :: r => ab_if c x (ab_ci 0) pc off (A.1, r, A.2.2)
      | _ => none
    | .goto off => ab_go (sm_jmp pc off) A
    | .tableswitch d lo hi offs => match A.2.1 with
      | x :: r => ab_switch x pc d lo hi offs.toList (A.1, r, A.2.2)
      | _ => none
    | .arraylength => ab_alen sk pc A
    | .iaload => ab_ald 0 sk pc A
    | .caload => ab_ald 2 sk pc A
    | .baload => match ab_ald 3 sk pc A with
      | some r => some r
      | none => ab_ald 4 sk pc A
    | .iastore => ab_ast 0 sk wr pc A
    | .bastore => ab_ast 3 sk wr pc A
    | .castore => ab_ast 2 sk wr pc A
    | .laload => ab_aldL sk pc A
    | .lastore => ab_astL sk wr pc A
    | .getstatic _ => match rs with
      | [n] => ab_push (pc + 3) (ab_ci (Int32.ofNat n).toInt) A
      | _ => none
    | .getfield _ => ab_getf sk rs pc A
    | .putfield _ => ab_putf sk wr rs pc A
    | .invokestatic _ => match rs with
      | [_, k] => match A.2.1 with
        | y :: x :: r => if y.1 = 1 ∧ x.1 = 1 ∧ ab_cats r = true then ab_go (pc + 3) (A.1, ab_mm k x y :: r, A.2.2) else none
        | _ => none
      | [_, _, _, _] => match A.2.1 with
        | n :: i :: r => if n.1 = 1 ∧ i.1 = 1 ∧ 0 ≤ i.2.1 ∧ i.2.2.1 < n.2.1 ∧ ab_cats r = true then ab_go (pc + 3) (A.1, r, A.2.2) else none
        | _ => none
      | _ => none
    | _ => none
