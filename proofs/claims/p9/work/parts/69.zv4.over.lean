/-! THE SAME OVER WHAT WAS WRITTEN, the newest first: a field, an int in an array, a long in an array -/
abbrev mx_U : Type := (Nat × Value) ⊕ (Nat × Nat × Int32) ⊕ (Nat × Nat × Int64)
def mx_ap1 (u : mx_U) (h : sm_H) : sm_H := match u with
  | .inl (c, v) => mx_pf h c v
  | .inr (.inl (k, i, x)) => mx_pa h k i x
  | .inr (.inr (k, i, x)) => mx_pb h k i x
def mx_ap : List mx_U → sm_H → sm_H
  | [], h => h
  | u :: r, h => mx_ap1 u (mx_ap r h)
def mx_o1 (sk : ab_K) (u : mx_U) : Bool := match u with
  | .inl (c, _) => mx_isF sk c
  | .inr (.inl (k, _, _)) => mx_isA sk k
  | .inr (.inr (k, _, _)) => mx_isB sk k
def mx_oO (sk : ab_K) (O : List mx_U) : Prop := ∀ u ∈ O, mx_o1 sk u = true
def mx_ri : List mx_U → Nat → sm_H → Int32
  | [], c, h => mx_i h c
  | .inl (c0, v) :: r, c, h => if c = c0 then (match v with
    | .int x => x
    | _ => 0) else mx_ri r c h
  | .inr _ :: r, c, h => mx_ri r c h
def mx_rl : List mx_U → Nat → sm_H → Int64
  | [], c, h => mx_l h c
  | .inl (c0, v) :: r, c, h => if c = c0 then (match v with
    | .long x => x
    | _ => 0) else mx_rl r c h
  | .inr _ :: r, c, h => mx_rl r c h
def mx_ra : List mx_U → Nat → Nat → sm_H → Int32
  | [], k, i, h => mx_a h k i
  | .inr (.inl (k0, i0, x)) :: r, k, i, h => if k = k0 then (if i = i0 then x else mx_ra r k i h) else mx_ra r k i h
  | .inl _ :: r, k, i, h => mx_ra r k i h
  | .inr (.inr _) :: r, k, i, h => mx_ra r k i h
def mx_rb : List mx_U → Nat → Nat → sm_H → Int64
  | [], k, i, h => mx_b h k i
  | .inr (.inr (k0, i0, x)) :: r, k, i, h => if k = k0 then (if i = i0 then x else mx_rb r k i h) else mx_rb r k i h
  | .inl _ :: r, k, i, h => mx_rb r k i h
  | .inr (.inl _) :: r, k, i, h => mx_rb r k i h
section MXV
variable {sk : ab_K} {h : sm_H}
theorem mx_Sp_ap (hS : mx_Sp sk h) : ∀ O : List mx_U, mx_Sp sk (mx_ap O h) := by
  intro O
  induction O with
  | nil => exact hS
  | cons u r ih =>
    rcases u with ⟨c, v⟩ | ⟨k, i, x⟩ | ⟨k, i, x⟩
    · exact mx_Sp_pf ih
    · exact mx_Sp_pa ih
    · exact mx_Sp_pb ih
theorem mx_oO_tl {u : mx_U} {r : List mx_U} (ho : mx_oO sk (u :: r)) : mx_oO sk r := fun v hv => ho v (List.mem_cons_of_mem _ hv)
theorem mx_i_ap {c : Nat} (hS : mx_Sp sk h) : ∀ O : List mx_U, mx_oO sk O → mx_i (mx_ap O h) c = mx_ri O c h := by
  intro O
  induction O with
  | nil => intro _; rfl
  | cons u r ih =>
    intro ho
    have ih := ih (mx_oO_tl ho)
    have h1 := ho u List.mem_cons_self
    rcases u with ⟨c0, v⟩ | ⟨k, i, x⟩ | ⟨k, i, x⟩
    · show mx_i (mx_pf (mx_ap r h) c0 v) c = _
      unfold mx_ri mx_i
      rw [mx_fld_pf (mx_Sp_ap hS r) h1]
      by_cases hc : c = c0
      · rw [if_pos hc, if_pos hc]
        cases v <;> rfl
      · rw [if_neg hc, if_neg hc]
        exact ih
    · exact mx_i_pa.trans ih
    · exact mx_i_pb.trans ih
theorem mx_l_ap {c : Nat} (hS : mx_Sp sk h) : ∀ O : List mx_U, mx_oO sk O → mx_l (mx_ap O h) c = mx_rl O c h := by
  intro O
  induction O with
  | nil => intro _; rfl
  | cons u r ih =>
    intro ho
    have ih := ih (mx_oO_tl ho)
    have h1 := ho u List.mem_cons_self
    rcases u with ⟨c0, v⟩ | ⟨k, i, x⟩ | ⟨k, i, x⟩
    · show mx_l (mx_pf (mx_ap r h) c0 v) c = _
      unfold mx_rl mx_l
      rw [mx_fld_pf (mx_Sp_ap hS r) h1]
      by_cases hc : c = c0
      · rw [if_pos hc, if_pos hc]
        cases v <;> rfl
      · rw [if_neg hc, if_neg hc]
        exact ih
    · exact mx_l_pa.trans ih
    · exact mx_l_pb.trans ih
theorem mx_a_ap {k i : Nat} (hS : mx_Sp sk h) : ∀ O : List mx_U, mx_oO sk O → mx_a (mx_ap O h) k i = mx_ra O k i h := by
  intro O
  induction O with
  | nil => intro _; rfl
  | cons u r ih =>
    intro ho
    have ih := ih (mx_oO_tl ho)
    have h1 := ho u List.mem_cons_self
    rcases u with ⟨c0, v⟩ | ⟨k0, i0, x⟩ | ⟨k0, i0, x⟩
    · exact mx_a_pf.trans ih
    · show mx_a (mx_pa (mx_ap r h) k0 i0 x) k i = _
      unfold mx_ra
      rw [mx_a_pa (mx_Sp_ap hS r) h1, ih]
      by_cases ek : k = k0
      · rw [if_pos ek]
        by_cases ei : i = i0
        · rw [if_pos ei, if_pos ⟨ek, ei⟩]
        · rw [if_neg ei, if_neg (fun z => ei z.2)]
      · rw [if_neg ek, if_neg (fun z => ek z.1)]
    · exact mx_a_pb.trans ih
theorem mx_b_ap {k i : Nat} (hS : mx_Sp sk h) : ∀ O : List mx_U, mx_oO sk O → mx_b (mx_ap O h) k i = mx_rb O k i h := by
  intro O
  induction O with
  | nil => intro _; rfl
  | cons u r ih =>
    intro ho
    have ih := ih (mx_oO_tl ho)
    have h1 := ho u List.mem_cons_self
    rcases u with ⟨c0, v⟩ | ⟨k0, i0, x⟩ | ⟨k0, i0, x⟩
    · exact mx_b_pf.trans ih
    · exact mx_b_pa.trans ih
    · show mx_b (mx_pb (mx_ap r h) k0 i0 x) k i = _
      unfold mx_rb
      rw [mx_b_pb (mx_Sp_ap hS r) h1, ih]
      by_cases ek : k = k0
      · rw [if_pos ek]
        by_cases ei : i = i0
        · rw [if_pos ei, if_pos ⟨ek, ei⟩]
        · rw [if_neg ei, if_neg (fun z => ei z.2)]
      · rw [if_neg ek, if_neg (fun z => ek z.1)]
end MXV
/-! one instruction over what was written -/
abbrev mo_R : Type := Nat × sm_L × List Value × List mx_U × List Prop
def mo_fk (sk : ab_K) (a k : Nat) (cs : List Nat) : Option (Nat × Int × Int) := match sk[a]? with
  | some (some (.inr (ci, fl))) => if ci ∈ cs ∧ k < 128 ∧ sm_C ≤ a then fl[k]? else none
  | _ => none
def mo_ak (sk : ab_K) (a : Nat) : Option (Nat × Nat × Int × Int) := match sk[a]? with
  | some (some (.inl (t, n, lo, hi, ex))) => if sm_C ≤ a ∧ ex = [] then some (t, n, lo, hi) else none
  | _ => none
def mo_step (sk : ab_K) (q : sm_I) (pc : Nat) (ls : sm_L) (st : List Value) (h : sm_H) (O : List mx_U) (b : Nat) : Option mo_R := match q with
  | (i, len, rs) => match i with
    | .getfield _ => match st, rs with
      | .ref a :: r, k :: z :: cs => if z = 0 then (match mo_fk sk a k cs with
        | some (t, lo, _) => some (pc + 3, ls, (if t = 0 then .int (mx_ri O (a * 128 + k) h) else if t = 1 then .long (mx_rl O (a * 128 + k) h) else .ref lo.toNat) :: r, O, [])
        | none => none) else none
      | _, _ => none
    | .putfield _ => match st, rs with
      | .int x :: .ref a :: r, k :: t :: _ :: cs => (match mo_fk sk a k cs with
        | some (t', lo, hi) => if t' = 0 ∧ (t = 0 ∨ t = 3) then some (pc + 3, ls, r, .inl (a * 128 + k, .int x) :: O, [lo ≤ x.toInt ∧ x.toInt ≤ hi, t = 3 → 0 ≤ x.toInt ∧ x.toInt ≤ 1]) else none
        | none => none)
      | .long x :: .ref a :: r, k :: t :: _ :: cs => (match mo_fk sk a k cs with
        | some (t', lo, hi) => if t' = 1 ∧ t = 1 then some (pc + 3, ls, r, .inl (a * 128 + k, .long x) :: O, [lo ≤ x.toInt ∧ x.toInt ≤ hi]) else none
        | none => none)
      | _, _ => none
    | .iaload => match st with
      | .int x :: .ref a :: r => (match mo_ak sk a with
        | some (t, n, _, _) => if t = 0 then some (pc + 1, ls, .int (mx_ra O a x.toNatClampNeg h) :: r, O, [0 ≤ x.toInt ∧ x.toInt < (n : Int)]) else none
        | none => none)
      | _ => none
    | .baload => match st with
      | .int x :: .ref a :: r => (match mo_ak sk a with
        | some (t, n, _, _) => if t = 3 then some (pc + 1, ls, .int (mx_ra O a x.toNatClampNeg h) :: r, O, [0 ≤ x.toInt ∧ x.toInt < (n : Int)]) else none
        | none => none)
      | _ => none
    | .iastore => match st with
      | .int y :: .int x :: .ref a :: r => (match mo_ak sk a with
        | some (t, n, lo, hi) => if t = 0 then some (pc + 1, ls, r, .inr (.inl (a, x.toNatClampNeg, y)) :: O, [0 ≤ x.toInt ∧ x.toInt < (n : Int), lo ≤ y.toInt ∧ y.toInt ≤ hi]) else none
        | none => none)
      | _ => none
    | .bastore => match st with
      | .int y :: .int x :: .ref a :: r => (match mo_ak sk a with
        | some (t, n, lo, hi) => if t = 3 then some (pc + 1, ls, r, .inr (.inl (a, x.toNatClampNeg, y &&& 1)) :: O, [0 ≤ x.toInt ∧ x.toInt < (n : Int), lo ≤ (y &&& 1).toInt ∧ (y &&& 1).toInt ≤ hi]) else none
        | none => none)
      | _ => none
    | .laload => match st with
      | .int x :: .ref a :: r => (match mo_ak sk a with
        | some (t, n, _, _) => if t = 1 then some (pc + 1, ls, .long (mx_rb O a x.toNatClampNeg h) :: r, O, [0 ≤ x.toInt ∧ x.toInt < (n : Int)]) else none
        | none => none)
      | _ => none
    | .lastore => match st with
      | .long y :: .int x :: .ref a :: r => (match mo_ak sk a with
        | some (t, n, lo, hi) => if t = 1 then some (pc + 1, ls, r, .inr (.inr (a, x.toNatClampNeg, y)) :: O, [0 ≤ x.toInt ∧ x.toInt < (n : Int), lo ≤ y.toInt ∧ y.toInt ≤ hi]) else none
        | none => none)
      | _ => none
    | .if_icmp c off => match st with
      | .int y :: .int x :: r => if b = 1 then some (sm_jmp pc off, ls, r, O, [sm_cmp c x y = true]) else some (pc + 3, ls, r, O, [sm_cmp c x y = false])
      | _ => none
    | .ifCond c off => match st with
      | .int x :: r => if b = 1 then some (sm_jmp pc off, ls, r, O, [sm_cmp c x 0 = true]) else some (pc + 3, ls, r, O, [sm_cmp c x 0 = false])
      | _ => none
    | .tableswitch d lo hi offs => match st with
      | .int x :: r => if b = 1000 then some (sm_jmp pc d, ls, r, O, [x.toInt < lo ∨ hi < x.toInt]) else (match offs[b]? with
        | some off => some (sm_jmp pc off, ls, r, O, [x.toInt = lo + (b : Int) ∧ x.toInt ≤ hi])
        | none => none)
      | _ => none
    | .idiv => match st with
      | .int y :: .int x :: r => some (pc + 1, ls, .int (x / y) :: r, O, [y ≠ 0])
      | _ => none
    | .irem => match st with
      | .int y :: .int x :: r => some (pc + 1, ls, .int (x - x / y * y) :: r, O, [y ≠ 0])
      | _ => none
    | .lrem => match st with
      | .long y :: .long x :: r => some (pc + 1, ls, .long (x - x / y * y) :: r, O, [y ≠ 0])
      | _ => none
    | _ => if mx_pureI i then (match sm_step (i, len, rs) pc ls st [] with
      | some (.inl (pc', ls', st', _)) => some (pc', ls', st', O, [])
      | _ => none) else none
def mo_path (tab : List (Option sm_I)) (sk : ab_K) (h : sm_H) : Nat → List Nat → Nat → sm_L → List Value → List mx_U → Option mo_R
  | 0, _, pc, ls, st, O => some (pc, ls, st, O, [])
  | n + 1, bs, pc, ls, st, O => match tab[pc]? with
    | some (some q) => match mo_step sk q pc ls st h O (bs.headD 0) with
      | some (pc', ls', st', O', ob) => match mo_path tab sk h n (match q.1 with
          | .if_icmp _ _ | .ifCond _ _ | .tableswitch _ _ _ _ => bs.tail
          | _ => bs) pc' ls' st' O' with
        | some (pc2, ls2, st2, O2, ob2) => some (pc2, ls2, st2, O2, ob ++ ob2)
        | none => none
      | none => none
    | _ => none
