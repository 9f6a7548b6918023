/-! for now -/
def sm_thr (q : sm_I) : Option Nat := match q with
  | (.new _, _, [a, x]) => if a = 1000 then some x else none
  | _ => none
/-- the cell of an exception of class number x -/
def sm_exc (x : Nat) : sm_E := .inr (x, List.replicate 6 .null)
def sm_runT (P : Nat → Option sm_M) : Nat → Nat → Nat → Nat → sm_L → List Value → sm_H → Option (Nat × sm_H)
  | 0, _, _, _, _, _, _ => none
  | n + 1, d, m, pc, ls, st, h => match P m with
    | none => none
    | some (_, _, tab) => match tab[pc]? with
      | some (some q) => match sm_thr q with
        | some x => if st = [] then some (x, h ++ [sm_exc x]) else none
        | none => match sm_step q pc ls st h with
          | some (.inl (pc', ls', st', h')) => sm_runT P n d m pc' ls' st' h'
          | some (.inr (.inl _)) => none
          | some (.inr (.inr (m', as, r))) => match d, P m' with
            | d' + 1, some (nl, _, _) => if (sm_slots as).length ≤ nl ∧ (r.map fun v => v.category).sum ≤ 8 then (match sm_run P n d' m' 0 (sm_entry nl as) [] h with
              | some (v, h') => sm_runT P n d m (pc + 3) ls (sm_back v r) h'
              | none => none) else none
            | _, _ => none
          | none => none
      | _ => none
abbrev sm_Y : Type := MethodName × ByteArray × Option FieldType
