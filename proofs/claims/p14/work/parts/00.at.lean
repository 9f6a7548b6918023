/-! places in long lists, by sixteens -/
def sm_d16 {α : Type} : List α → List α
  | _ :: _ :: _ :: _ :: _ :: _ :: _ :: _ :: _ :: _ :: _ :: _ :: _ :: _ :: _ :: _ :: r => r
  | _ => []
theorem sm_d16_eq {α : Type} : ∀ l : List α, sm_d16 l = l.drop 16
  | [] => rfl
  | [_] => rfl
  | [_, _] => rfl
  | [_, _, _] => rfl
  | [_, _, _, _] => rfl
  | [_, _, _, _, _] => rfl
  | [_, _, _, _, _, _] => rfl
  | [_, _, _, _, _, _, _] => rfl
  | [_, _, _, _, _, _, _, _] => rfl
  | [_, _, _, _, _, _, _, _, _] => rfl
  | [_, _, _, _, _, _, _, _, _, _] => rfl
  | [_, _, _, _, _, _, _, _, _, _, _] => rfl
  | [_, _, _, _, _, _, _, _, _, _, _, _] => rfl
  | [_, _, _, _, _, _, _, _, _, _, _, _, _] => rfl
  | [_, _, _, _, _, _, _, _, _, _, _, _, _, _] => rfl
  | [_, _, _, _, _, _, _, _, _, _, _, _, _, _, _] => rfl
  | _ :: _ :: _ :: _ :: _ :: _ :: _ :: _ :: _ :: _ :: _ :: _ :: _ :: _ :: _ :: _ :: _ => rfl
def sm_s16 {α : Type} : Nat → List α → List α
  | 0, l => l
  | n + 1, l => sm_s16 n (sm_d16 l)
theorem sm_s16_eq {α : Type} : ∀ (n : Nat) (l : List α), sm_s16 n l = l.drop (16 * n)
  | 0, _ => rfl
  | n + 1, l => by
    rw [sm_s16, sm_s16_eq n, sm_d16_eq, List.drop_drop]
    exact congrArg (fun k => l.drop k) (by omega)
def sm_at {α : Type} (l : List α) (i : Nat) : Option α := (sm_s16 (Nat.div i 16) l)[Nat.mod i 16]?
theorem sm_at_eq {α : Type} (l : List α) (i : Nat) : sm_at l i = l[i]? := by
  unfold sm_at
  rw [sm_s16_eq, List.getElem?_drop]
  exact congrArg (fun k => l[k]?) (Nat.div_add_mod i 16)
theorem sm_at_mem {α : Type} {l : List α} {i : Nat} {w : α} (h : sm_at l i = some w) : w ∈ l := List.mem_of_getElem? ((sm_at_eq l i).symm.trans h)
theorem sm_bif {α : Type} {b : Bool} {x y : Option α} {w : α} {Q : Prop} (hx : x = some w → Q) (hy : y = some w → Q) : (bif b then x else y) = some w → Q := by
  cases b
  · exact hy
  · exact hx
