/-! READING, purely: a turn of form; two posts of one run -/
theorem mi_c_inj {x y : mi_V} (hx : mi_ok x) (hy : mi_ok y) (e : mi_c x = mi_c y) : x = y := by
  rcases x with a | a | a <;> rcases y with b | b | b
  · have e2 : Value.int (Int32.ofInt a) = Value.int (Int32.ofInt b) := e
    injection e2 with e3
    have := congrArg Int32.toInt e3
    rw [mi_ti hx, mi_ti hy] at this
    rw [this]
  · exact Value.noConfusion e
  · exact Value.noConfusion e
  · exact Value.noConfusion e
  · have e2 : Value.long a = Value.long b := e
    injection e2 with e3
    rw [e3]
  · exact Value.noConfusion e
  · exact Value.noConfusion e
  · exact Value.noConfusion e
  · have e2 : Value.ref a = Value.ref b := e
    injection e2 with e3
    rw [e3]
theorem me_E.and {d m pc : Nat} {ls : mi_L} {st : List mi_V} {h : sm_H} {Q Q' : Option mi_V → sm_H → Prop} (k : me_E d m pc ls st h Q) (k' : me_E d m pc ls st h Q') : me_E d m pc ls st h (fun w h' => Q w h' ∧ Q' w h') := by
  obtain ⟨n, v, h1, r, w, e1, e2, e3⟩ := k
  obtain ⟨n', v', h1', r', w', e1', e2', e3'⟩ := k'
  have := sm_run_same r r'
  injection this with ev eh
  subst eh
  refine ⟨n, v, h1, r, w, e1, e2, e3, ?_⟩
  have : w = w' := by
    rw [e1, e1'] at ev
    cases w with
    | none => cases w' with
      | none => rfl
      | some y => cases ev
    | some x => cases w' with
      | none => cases ev
      | some y =>
        have ev2 : some (mi_c x) = some (mi_c y) := ev
        injection ev2 with ev3
        rw [mi_c_inj (e2 x rfl) (e2' y rfl) ev3]
  rw [this]
  exact e3'
