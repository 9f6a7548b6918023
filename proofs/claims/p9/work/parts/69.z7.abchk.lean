/-! THE CHECK OF A METHOD -/
/-- a contract: method, arguments, fields at the start, ends (answer, fields), what may be written, depth of calls -/
abbrev ab_C : Type := Nat × List ab_V × ab_HC × List (ab_V × ab_HC) × List (Nat × Nat) × Nat
/-- a rank: (0, _, c) a constant, (1, j, _) local j goes up, (2, j, _) it goes down, (3, c, _) field c goes up; the first that changes counts -/
abbrev ab_R : Type := List (Nat × Nat × Int)
/-- a loop's head: place, locals, fields, rank -/
abbrev ab_Hd : Type := Nat × List ab_V × ab_HC × ab_R
/-- a caller that waits -/
abbrev ab_F : Type := Nat × Nat × List ab_V × List ab_V
def ab_strip (a : ab_V) : ab_V := (a.1, a.2.1, a.2.2.1, [])
/-- a value lies within bounds -/
def ab_nv (a : ab_V) (v : Option Value) : Prop := ab_okV [] [] [] [] (ab_strip a) v
def ab_leT (ts us : List ab_T) : Bool := us.all (fun t => decide (t ∈ ts))
def ab_leV (a b : ab_V) : Bool := decide (b.1 = 0) || (decide (a.1 = b.1) && (if b.1 = 3 then decide (a.2.1 = b.2.1) else decide (b.2.1 ≤ a.2.1 ∧ a.2.2.1 ≤ b.2.2.1)))
def ab_leL : List ab_V → List ab_V → Bool
  | [], [] => true
  | a :: r, b :: s => ab_leV a b && ab_leL r s
  | _, _ => false
def ab_dflt (sk : ab_K) (c : Nat) : Option ab_V := match sk[c / 128]? with
  | some (some (.inr (_, fl))) => match fl[c % 128]? with
    | some (t, lo, hi) => if t = 0 then some (1, lo, hi, []) else if t = 1 then some (2, lo, hi, []) else none
    | none => none
  | _ => none
def ab_leH (sk : ab_K) (hc pre : ab_HC) : Bool := pre.all (fun e => match ab_hget hc e.1 with
  | some a => ab_leV a e.2
  | none => match ab_dflt sk e.1 with
    | some a => ab_leV a e.2
    | none => false)
def ab_nvs : List ab_V → List Value → Prop
  | [], [] => True
  | a :: r, v :: s => ab_nv a (some v) ∧ ab_nvs r s
  | _, _ => False
def ab_nvH (hc : ab_HC) (h : sm_H) : Prop := ∀ e ∈ hc, ab_nv e.2 (ab_fld h e.1)
/-- an answer of a method of kind k -/
def ab_res (k : Nat) (a : ab_V) (v : Option Value) : Prop := if k = 0 then v = none else (a.1 ≠ 0 → ab_nv a v) ∧ v ≠ none
def ab_Post (sk : ab_K) (wr : List (Nat × Nat)) (posts : List (ab_V × ab_HC)) (k : Nat) (hS : sm_H) (v : Option Value) (h' : sm_H) : Prop := ab_Sh sk h' ∧ ab_Fr wr hS h' ∧ ∃ p ∈ posts, ab_res k p.1 v ∧ ab_nvH p.2 h'
def ab_Ok (P : Nat → Option sm_M) (sk : ab_K) (c : ab_C) : Prop := ∀ (h : sm_H) (as : List Value) (M : sm_M), P c.1 = some M → ab_Sh sk h → ab_nvs c.2.1 as → ab_nvH c.2.2.1 h → ab_Ends P c.2.2.2.2.2 c.1 0 (sm_entry M.1 as) [] h (ab_Post sk c.2.2.2.2.1 c.2.2.2.1 M.2.1 h)
/-- .. that throws, or may throw, one of the classes thr -/
def ab_PostT (sk : ab_K) (wr : List (Nat × Nat)) (thr : List Nat) (hS : sm_H) (x : Nat) (h' : sm_H) : Prop := x ∈ thr ∧ ∃ h1, h' = h1 ++ [sm_exc x] ∧ ab_Sh sk h1 ∧ ab_Fr wr hS h1
def ab_OkX (P : Nat → Option sm_M) (sk : ab_K) (thr : List Nat) (c : ab_C) : Prop := ∀ (h : sm_H) (as : List Value) (M : sm_M), P c.1 = some M → ab_Sh sk h → ab_nvs c.2.1 as → ab_nvH c.2.2.1 h → ab_EndsX P (ab_PostT sk c.2.2.2.2.1 thr h) c.2.2.2.2.2 c.1 0 (sm_entry M.1 as) [] h (ab_Post sk c.2.2.2.2.1 c.2.2.2.1 M.2.1 h)
def ab_back (rv : Option ab_V) (r : List ab_V) : List ab_V := match rv with
  | some a => a :: r
  | none => r
def ab_retv (q : sm_I) (k : Nat) (A : ab_A) : Option (Option ab_V) := match q.1, A.2.1 with
  | .ireturn, [v] => if v.1 = 1 ∧ (k = 1 ∨ ((k = 4 ∨ k = 6) ∧ 0 ≤ v.2.1 ∧ v.2.2.1 ≤ 1) ∨ (k = 5 ∧ 0 ≤ v.2.1 ∧ v.2.2.1 ≤ 65535)) then some (some v) else none
  | .lreturn, [v] => if v.1 = 2 ∧ k = 2 then some (some v) else none
  | .areturn, [v] => if v.1 = 3 ∧ k = 3 then some (some v) else none
  | .return_, [] => if k = 0 then some none else none
  | _, _ => none
def ab_args (n : Nat) (st : List ab_V) : Option (List ab_V × List ab_V) := if n ≤ st.length then some ((st.take n).reverse, st.drop n) else none
def ab_callv (sk : ab_K) (q : sm_I) (A : ab_A) : Option (Nat × List ab_V × List ab_V) := match q.1, q.2.2 with
  | .invokestatic _, [_, m, n] => match ab_args n A.2.1 with
    | some (as, r) => some (m, as, r)
    | none => none
  | .invokevirtual _, _ :: n :: ps => match ab_args (n + 1) A.2.1 with
    | some (a :: as, r) => if a.1 = 3 then (match sk[a.2.1.toNat]? with
      | some (some (.inr (ci, _))) => match sm_pick ci ps with
        | some m => some (m, a :: as, r)
        | none => none
      | _ => none) else none
    | _ => none
  | _, _ => none
def ab_slots : List ab_V → List ab_V
  | [] => []
  | a :: as => if a.1 = 2 then a :: ab_unk :: ab_slots as else a :: ab_slots as
def ab_entry (n : Nat) (as : List ab_V) : List ab_V := ab_slots as ++ List.replicate (n - (ab_slots as).length) ab_unk
/-- ranges within ranges -/
def ab_sub_wr (wr wr' : List (Nat × Nat)) : Bool := wr.all (fun r => wr'.any (fun s => decide (s.1 ≤ r.1 ∧ r.2 ≤ s.2)))
def ab_find (sk : ab_K) (d m : Nat) (as : List ab_V) (hc : ab_HC) (wr : List (Nat × Nat)) : List ab_C → Option ab_C
  | [] => none
  | c :: r => if c.1 = m ∧ ab_leL as c.2.1 = true ∧ ab_leH sk hc c.2.2.1 = true ∧ c.2.2.2.2.2 ≤ d ∧ ab_sub_wr c.2.2.2.2.1 wr = true then some c else ab_find sk d m as hc wr r
def ab_newH (wr : List (Nat × Nat)) (post hc : ab_HC) : ab_HC := post.map (fun e => (e.1, ab_strip e.2)) ++ ab_keepH (ab_nw wr) (hc.filter (fun e => !(ab_in wr e.1)))
def ab_off (k j : Nat) : List ab_T → Option Int
  | [] => none
  | t :: r => if t.1 = k ∧ t.2.1 = j then some t.2.2 else ab_off k j r
def ab_rk : Nat → ab_R → ab_R → ab_A → Bool
  | 0, _, _, _ => false
  | n + 1, src, tgt, A => match src, tgt with
    | [], _ :: _ => true
    | (k, j, c) :: r, (k', j', c') :: r' =>
      if k = 0 ∧ k' = 0 then (if 0 ≤ c ∧ c < c' ∧ c' ≤ 1000 then true else if c = c' then ab_rk n r r' A else false)
      else if k = k' ∧ j = j' ∧ (k = 1 ∨ k = 2) then (match A.1[j]? with
        | some v => if v.1 = 1 then (match ab_off 2 j v.2.2.2 with
          | some o => if (k = 1 ∧ 0 < o) ∨ (k = 2 ∧ o < 0) then true else if o = 0 then ab_rk n r r' A else false
          | none => false) else false
        | none => false)
      else if k = 3 ∧ k' = 3 ∧ j = j' then (match ab_hget A.2.2 j with
        | some v => if v.1 = 1 then (match ab_off 3 j v.2.2.2 with
          | some o => if 0 < o then true else if o = 0 then ab_rk n r r' A else false
          | none => false) else false
        | none => false)
      else false
    | _, _ => false
def ab_leR (k : Nat) (rv : Option ab_V) (a : ab_V) : Bool := if k = 0 then true else (match rv with
  | some v => ab_leV v a
  | none => false)
def ab_exp (P : Nat → Option sm_M) (sk : ab_K) (wr : List (Nat × Nat)) (env : List ab_C) (heads : List ab_Hd) (posts : List (ab_V × ab_HC)) (thr : List Nat) (rk : Option ab_R) : Nat → Bool → Nat → Nat → Nat → ab_A → List ab_F → Bool
  | 0, _, _, _, _, _, _ => false
  | n + 1, fresh, d, m, pc, A, F =>
    if (F.isEmpty && !fresh && heads.any (fun e => e.1 == pc)) = true then heads.any (fun e => e.1 == pc && A.2.1.isEmpty && ab_leL A.1 e.2.1 && ab_leH sk A.2.2 e.2.2.1 && (match rk with
      | none => true
      | some r => ab_rk 8 r e.2.2.2 A))
    else match P m with
    | none => false
    | some (_, k, tab) => match tab[pc]? with
      | some (some q) => match ab_step sk wr q pc A with
        | some outs => outs.all (fun o => ab_exp P sk wr env heads posts thr rk n false d m o.1 o.2 F)
        | none => match ab_retv q k A with
          | some rv => match F with
            | [] => posts.any (fun p => ab_leR k rv p.1 && ab_leH sk A.2.2 p.2)
            | f :: F' => ab_exp P sk wr env heads posts thr rk n false (d + 1) f.1 (f.2.1 + 3) (f.2.2.1.map (ab_keep ab_n1), ab_back (rv.map (ab_keep ab_n0)) (f.2.2.2.map (ab_keep ab_n1)), ab_keepH ab_n0 A.2.2) F'
          | none => match ab_callv sk q A with
            | some (m', as, r) => match d, P m' with
              | d' + 1, some (nl, k', _) => as.all (fun a => !(a.1 == 0)) && (decide ((ab_slots as).length ≤ nl) && (ab_cats r && (match ab_find sk d' m' as A.2.2 wr env with
                | some c => c.2.2.2.1.all (fun p => (k' == 0 || !(p.1.1 == 0)) && ab_exp P sk wr env heads posts thr rk n false (d' + 1) m (pc + 3) (A.1.map (ab_keep (ab_nw c.2.2.2.2.1)), ab_back (if k' = 0 then none else some (ab_strip p.1)) (r.map (ab_keep (ab_nw c.2.2.2.2.1))), ab_newH c.2.2.2.2.1 p.2 A.2.2) F)
                | none => ab_exp P sk wr env heads posts thr rk n false d' m' 0 (ab_entry nl (as.map (ab_keep ab_n0)), [], ab_keepH ab_n0 A.2.2) ((m, pc, A.1, r) :: F))))
              | _, _ => false
            | none => match sm_thr q with
              | some x => F.isEmpty && (A.2.1.isEmpty && decide (x ∈ thr))
              | none => false
      | _ => false
/-- a head's state, as a start: what its numbers are there -/
def ab_headl : Nat → List ab_V → List ab_V
  | _, [] => []
  | j, a :: r => (if a.1 = 1 then (1, a.2.1, a.2.2.1, [(2, j, 0)]) else ab_strip a) :: ab_headl (j + 1) r
def ab_headh (hc : ab_HC) : ab_HC := hc.map (fun e => (e.1, if e.2.1 = 1 then (1, e.2.2.1, e.2.2.2.1, [(3, e.1, 0)]) else ab_strip e.2))
def ab_good (P : Nat → Option sm_M) (sk : ab_K) (env : List ab_C) (heads : List ab_Hd) (thr : List Nat) (fuel : Nat) (c : ab_C) : Bool := match P c.1 with
  | none => false
  | some (nl, _, _) => c.2.1.all (fun a => !(a.1 == 0)) && decide ((ab_slots c.2.1).length ≤ nl) &&
    ab_exp P sk c.2.2.2.2.1 env heads c.2.2.2.1 thr none fuel false c.2.2.2.2.2 c.1 0 (ab_entry nl (c.2.1.map ab_strip), [], c.2.2.1.map (fun e => (e.1, ab_strip e.2))) [] &&
    heads.all (fun e => decide (e.2.1.length = nl) && ab_exp P sk c.2.2.2.2.1 env heads c.2.2.2.1 thr (some e.2.2.2) fuel true c.2.2.2.2.2 c.1 e.1 (ab_headl 0 e.2.1, [], ab_headh e.2.2.1) [])
