/-! decode by a window of the bytes: what an instruction is says its own bytes alone -/
def dw_A (k : Nat) (A B : ByteArray) : Prop := ∀ (i : Nat) (x : UInt8), A.data.toList[i]? = some x → B.data.toList[k + i]? = some x
def dw_R (k : Nat) {α : Type} (d d' : Jvm.ClassFile.Decoder α) : Prop := ∀ (A B : ByteArray), dw_A k A B → ∀ (r r' : Nat) (a : α), Jvm.ClassFile.Reader.runAt d A r = .ok (a, r') → Jvm.ClassFile.Reader.runAt d' B (k + r) = .ok (a, k + r')
theorem dw_bind_ok {α β : Type} {d : Jvm.ClassFile.Decoder α} {f : α → Jvm.ClassFile.Decoder β} {A : ByteArray} {r s : Nat} {a : α} (h : Jvm.ClassFile.Reader.runAt d A r = .ok (a, s)) : Jvm.ClassFile.Reader.runAt (d >>= f) A r = Jvm.ClassFile.Reader.runAt (f a) A s := by
  have e : Jvm.ClassFile.Reader.runAt (d >>= f) A r = Except.bind (Jvm.ClassFile.Reader.runAt d A r) (fun p => Jvm.ClassFile.Reader.runAt (f p.1) A p.2) := rfl
  rw [e, h]
  rfl
theorem dw_bind_err {α β : Type} {d : Jvm.ClassFile.Decoder α} {f : α → Jvm.ClassFile.Decoder β} {A : ByteArray} {r : Nat} {x : Jvm.ClassFile.DecodeError} (h : Jvm.ClassFile.Reader.runAt d A r = .error x) : Jvm.ClassFile.Reader.runAt (d >>= f) A r = .error x := by
  have e : Jvm.ClassFile.Reader.runAt (d >>= f) A r = Except.bind (Jvm.ClassFile.Reader.runAt d A r) (fun p => Jvm.ClassFile.Reader.runAt (f p.1) A p.2) := rfl
  rw [e, h]
  rfl
theorem dw_bind {k : Nat} {α β : Type} {d d' : Jvm.ClassFile.Decoder α} {f f' : α → Jvm.ClassFile.Decoder β} (h1 : dw_R k d d') (h2 : ∀ a, dw_R k (f a) (f' a)) : dw_R k (d >>= f) (d' >>= f') := by
  intro A B hAB r r' b h
  cases hd : Jvm.ClassFile.Reader.runAt d A r with
  | error x => rw [dw_bind_err hd] at h; cases h
  | ok p =>
    obtain ⟨a, s⟩ := p
    rw [dw_bind_ok hd] at h
    rw [dw_bind_ok (h1 A B hAB r s a hd)]
    exact h2 a A B hAB s r' b h
theorem dw_pure {k : Nat} {α : Type} (a : α) : dw_R k (pure a) (pure a) := by
  intro A B _ r r' b h
  have h : (Except.ok (a, r) : Except Jvm.ClassFile.DecodeError (α × Nat)) = .ok (b, r') := h
  cases h
  rfl
theorem dw_throw {k : Nat} {α : Type} (x : Jvm.ClassFile.DecodeError) (d' : Jvm.ClassFile.Decoder α) : dw_R k (throw x) d' := by
  intro A B _ r r' b h
  have h : (Except.error x : Except Jvm.ClassFile.DecodeError (α × Nat)) = .ok (b, r') := h
  cases h
theorem dw_map {k : Nat} {α β : Type} {d d' : Jvm.ClassFile.Decoder α} (g : α → β) (h1 : dw_R k d d') : dw_R k (g <$> d) (g <$> d') := by
  intro A B hAB r r' b h
  have e : ∀ (d : Jvm.ClassFile.Decoder α) (A : ByteArray) (r : Nat), Jvm.ClassFile.Reader.runAt (g <$> d) A r = Except.bind (Jvm.ClassFile.Reader.runAt d A r) (fun p => .ok (g p.1, p.2)) := fun _ _ _ => rfl
  rw [e] at h
  cases hd : Jvm.ClassFile.Reader.runAt d A r with
  | error x =>
    rw [hd] at h
    have h : (Except.error x : Except Jvm.ClassFile.DecodeError (β × Nat)) = .ok (b, r') := h
    cases h
  | ok p =>
    obtain ⟨a, s⟩ := p
    rw [hd] at h
    have h : (Except.ok (g a, s) : Except Jvm.ClassFile.DecodeError (β × Nat)) = .ok (b, r') := h
    cases h
    rw [e, h1 A B hAB r _ a hd]
    rfl
theorem dw_u1k (A : ByteArray) (r : Nat) : Jvm.ClassFile.Reader.runAt (Jvm.ClassFile.Reader.u1 : Jvm.ClassFile.Decoder Nat) A r = (match A.data.toList[r]? with | some x => .ok (x.toNat, r + 1) | none => .error (.truncated r)) := by
  obtain ⟨⟨L⟩⟩ := A
  have e2 : Jvm.ClassFile.Reader.runAt (Jvm.ClassFile.Reader.u1 : Jvm.ClassFile.Decoder Nat) ⟨⟨L⟩⟩ r = Jvm.ClassFile.Reader.runAt (dite (r < (⟨⟨L⟩⟩ : ByteArray).size) (fun h => (do set (r + 1); pure ((⟨⟨L⟩⟩ : ByteArray)[r]).toNat : Jvm.ClassFile.Decoder Nat)) (fun _ => throw (Jvm.ClassFile.HasTruncated.truncated r))) ⟨⟨L⟩⟩ r := rfl
  rw [e2]
  by_cases hr : r < (⟨⟨L⟩⟩ : ByteArray).size
  · have e1 : (⟨⟨L⟩⟩ : ByteArray).data.toList[r]? = some ((⟨⟨L⟩⟩ : ByteArray)[r]) := List.getElem?_eq_getElem (l := L) (i := r) hr
    rw [dif_pos hr, e1]
    rfl
  · have e1 : (⟨⟨L⟩⟩ : ByteArray).data.toList[r]? = none := List.getElem?_eq_none (l := L) (i := r) (Nat.le_of_not_lt hr)
    rw [dif_neg hr, e1]
    rfl
theorem dw_u1 {k : Nat} : dw_R k (Jvm.ClassFile.Reader.u1 : Jvm.ClassFile.Decoder Nat) Jvm.ClassFile.Reader.u1 := by
  intro A B hAB r r' a h
  rw [dw_u1k] at h
  cases hx : A.data.toList[r]? with
  | none =>
    rw [hx] at h
    have h : (Except.error (.truncated r) : Except Jvm.ClassFile.DecodeError (Nat × Nat)) = .ok (a, r') := h
    cases h
  | some x =>
    rw [hx] at h
    have h : (Except.ok (x.toNat, r + 1) : Except Jvm.ClassFile.DecodeError (Nat × Nat)) = .ok (a, r') := h
    cases h
    rw [dw_u1k, hAB r x hx]
    rfl
theorem dw_u2 {k : Nat} : dw_R k (Jvm.ClassFile.Reader.u2 : Jvm.ClassFile.Decoder Nat) Jvm.ClassFile.Reader.u2 := by
  unfold Jvm.ClassFile.Reader.u2
  exact dw_bind dw_u1 (fun hi => dw_bind dw_u1 (fun lo => dw_pure _))
theorem dw_s1 {k : Nat} : dw_R k (Jvm.ClassFile.Reader.s1 : Jvm.ClassFile.Decoder Int) Jvm.ClassFile.Reader.s1 := by
  unfold Jvm.ClassFile.Reader.s1
  exact dw_map _ dw_u1
theorem dw_s2 {k : Nat} : dw_R k (Jvm.ClassFile.Reader.s2 : Jvm.ClassFile.Decoder Int) Jvm.ClassFile.Reader.s2 := by
  unfold Jvm.ClassFile.Reader.s2
  exact dw_map _ dw_u2
theorem dw_newarray {k : Nat} (pc pc' : Nat) : dw_R k (Jvm.ClassFile.Decoder.newarray pc) (Jvm.ClassFile.Decoder.newarray pc') := by
  unfold Jvm.ClassFile.Decoder.newarray
  refine dw_bind dw_u1 (fun x => ?_)
  split
  all_goals first | exact dw_pure _ | exact dw_throw _ _
def dw_G (op : Nat) : Prop := ∀ (k pc pc' : Nat) (A B : ByteArray), dw_A k A B → ∀ (r s r' : Nat) (a : Instr), Jvm.ClassFile.Reader.runAt (Jvm.ClassFile.Reader.u1 : Jvm.ClassFile.Decoder Nat) A r = .ok (op, s) → Jvm.ClassFile.Reader.runAt (Jvm.ClassFile.Decoder.instr pc) A r = .ok (a, r') → Jvm.ClassFile.Reader.runAt (Jvm.ClassFile.Decoder.instr pc') B (k + r) = .ok (a, k + r')
theorem dw_go {op : Nat} (d : Nat → Jvm.ClassFile.Decoder Instr) (e : ∀ (pc : Nat) (A : ByteArray) (r s : Nat), Jvm.ClassFile.Reader.runAt (Jvm.ClassFile.Reader.u1 : Jvm.ClassFile.Decoder Nat) A r = .ok (op, s) → Jvm.ClassFile.Reader.runAt (Jvm.ClassFile.Decoder.instr pc) A r = Jvm.ClassFile.Reader.runAt (d pc) A s) (hd : ∀ k pc pc' : Nat, dw_R k (d pc) (d pc')) : dw_G op := by
  intro k pc pc' A B hAB r s r' a hu h
  rw [e pc A r s hu] at h
  rw [e pc' B (k + r) (k + s) (dw_u1 A B hAB r s op hu)]
  exact hd k pc pc' A B hAB s r' a h
theorem dw_o42 : dw_G 42 := dw_go _ (fun _ _ _ _ hu => dw_bind_ok (a := 42) hu) (fun _ _ _ => dw_pure _)
theorem dw_o180 : dw_G 180 := dw_go _ (fun _ _ _ _ hu => dw_bind_ok (a := 180) hu) (fun _ _ _ => dw_bind dw_u2 (fun _ => dw_pure _))
theorem dw_o27 : dw_G 27 := dw_go _ (fun _ _ _ _ hu => dw_bind_ok (a := 27) hu) (fun _ _ _ => dw_pure _)
theorem dw_o182 : dw_G 182 := dw_go _ (fun _ _ _ _ hu => dw_bind_ok (a := 182) hu) (fun _ _ _ => dw_bind dw_u2 (fun _ => dw_pure _))
theorem dw_o167 : dw_G 167 := dw_go _ (fun _ _ _ _ hu => dw_bind_ok (a := 167) hu) (fun _ _ _ => dw_bind dw_s2 (fun _ => dw_pure _))
theorem dw_o181 : dw_G 181 := dw_go _ (fun _ _ _ _ hu => dw_bind_ok (a := 181) hu) (fun _ _ _ => dw_bind dw_u2 (fun _ => dw_pure _))
theorem dw_o3 : dw_G 3 := dw_go _ (fun _ _ _ _ hu => dw_bind_ok (a := 3) hu) (fun _ _ _ => dw_pure _)
theorem dw_o16 : dw_G 16 := dw_go _ (fun _ _ _ _ hu => dw_bind_ok (a := 16) hu) (fun _ _ _ => dw_bind dw_s1 (fun _ => dw_pure _))
theorem dw_o28 : dw_G 28 := dw_go _ (fun _ _ _ _ hu => dw_bind_ok (a := 28) hu) (fun _ _ _ => dw_pure _)
theorem dw_o4 : dw_G 4 := dw_go _ (fun _ _ _ _ hu => dw_bind_ok (a := 4) hu) (fun _ _ _ => dw_pure _)
theorem dw_o21 : dw_G 21 := dw_go _ (fun _ _ _ _ hu => dw_bind_ok (a := 21) hu) (fun _ _ _ => dw_bind dw_u1 (fun _ => dw_pure _))
theorem dw_o184 : dw_G 184 := dw_go _ (fun _ _ _ _ hu => dw_bind_ok (a := 184) hu) (fun _ _ _ => dw_bind dw_u2 (fun _ => dw_pure _))
theorem dw_o172 : dw_G 172 := dw_go _ (fun _ _ _ _ hu => dw_bind_ok (a := 172) hu) (fun _ _ _ => dw_pure _)
theorem dw_o46 : dw_G 46 := dw_go _ (fun _ _ _ _ hu => dw_bind_ok (a := 46) hu) (fun _ _ _ => dw_pure _)
theorem dw_o29 : dw_G 29 := dw_go _ (fun _ _ _ _ hu => dw_bind_ok (a := 29) hu) (fun _ _ _ => dw_pure _)
theorem dw_o160 : dw_G 160 := dw_go _ (fun _ _ _ _ hu => dw_bind_ok (a := 160) hu) (fun _ _ _ => dw_bind dw_s2 (fun _ => dw_pure _))
theorem dw_o153 : dw_G 153 := dw_go _ (fun _ _ _ _ hu => dw_bind_ok (a := 153) hu) (fun _ _ _ => dw_bind dw_s2 (fun _ => dw_pure _))
theorem dw_o177 : dw_G 177 := dw_go _ (fun _ _ _ _ hu => dw_bind_ok (a := 177) hu) (fun _ _ _ => dw_pure _)
theorem dw_o162 : dw_G 162 := dw_go _ (fun _ _ _ _ hu => dw_bind_ok (a := 162) hu) (fun _ _ _ => dw_bind dw_s2 (fun _ => dw_pure _))
theorem dw_o54 : dw_G 54 := dw_go _ (fun _ _ _ _ hu => dw_bind_ok (a := 54) hu) (fun _ _ _ => dw_bind dw_u1 (fun _ => dw_pure _))
theorem dw_o154 : dw_G 154 := dw_go _ (fun _ _ _ _ hu => dw_bind_ok (a := 154) hu) (fun _ _ _ => dw_bind dw_s2 (fun _ => dw_pure _))
theorem dw_o132 : dw_G 132 := dw_go _ (fun _ _ _ _ hu => dw_bind_ok (a := 132) hu) (fun _ _ _ => dw_bind dw_u1 (fun _ => dw_bind dw_s1 (fun _ => dw_pure _)))
theorem dw_o188 : dw_G 188 := dw_go _ (fun _ _ _ _ hu => dw_bind_ok (a := 188) hu) (fun _ pc pc' => dw_newarray pc pc')
theorem dw_o61 : dw_G 61 := dw_go _ (fun _ _ _ _ hu => dw_bind_ok (a := 61) hu) (fun _ _ _ => dw_pure _)
theorem dw_o96 : dw_G 96 := dw_go _ (fun _ _ _ _ hu => dw_bind_ok (a := 96) hu) (fun _ _ _ => dw_pure _)
theorem dw_o20 : dw_G 20 := dw_go _ (fun _ _ _ _ hu => dw_bind_ok (a := 20) hu) (fun _ _ _ => dw_bind dw_u2 (fun _ => dw_pure _))
theorem dw_o89 : dw_G 89 := dw_go _ (fun _ _ _ _ hu => dw_bind_ok (a := 89) hu) (fun _ _ _ => dw_pure _)
theorem dw_o79 : dw_G 79 := dw_go _ (fun _ _ _ _ hu => dw_bind_ok (a := 79) hu) (fun _ _ _ => dw_pure _)
theorem dw_o62 : dw_G 62 := dw_go _ (fun _ _ _ _ hu => dw_bind_ok (a := 62) hu) (fun _ _ _ => dw_pure _)
theorem dw_o2 : dw_G 2 := dw_go _ (fun _ _ _ _ hu => dw_bind_ok (a := 2) hu) (fun _ _ _ => dw_pure _)
theorem dw_o155 : dw_G 155 := dw_go _ (fun _ _ _ _ hu => dw_bind_ok (a := 155) hu) (fun _ _ _ => dw_bind dw_s2 (fun _ => dw_pure _))
theorem dw_o5 : dw_G 5 := dw_go _ (fun _ _ _ _ hu => dw_bind_ok (a := 5) hu) (fun _ _ _ => dw_pure _)
theorem dw_o60 : dw_G 60 := dw_go _ (fun _ _ _ _ hu => dw_bind_ok (a := 60) hu) (fun _ _ _ => dw_pure _)
theorem dw_o100 : dw_G 100 := dw_go _ (fun _ _ _ _ hu => dw_bind_ok (a := 100) hu) (fun _ _ _ => dw_pure _)
theorem dw_o159 : dw_G 159 := dw_go _ (fun _ _ _ _ hu => dw_bind_ok (a := 159) hu) (fun _ _ _ => dw_bind dw_s2 (fun _ => dw_pure _))
theorem dw_o17 : dw_G 17 := dw_go _ (fun _ _ _ _ hu => dw_bind_ok (a := 17) hu) (fun _ _ _ => dw_bind dw_s2 (fun _ => dw_pure _))
theorem dw_o9 : dw_G 9 := dw_go _ (fun _ _ _ _ hu => dw_bind_ok (a := 9) hu) (fun _ _ _ => dw_pure _)
theorem dw_o148 : dw_G 148 := dw_go _ (fun _ _ _ _ hu => dw_bind_ok (a := 148) hu) (fun _ _ _ => dw_pure _)
theorem dw_o47 : dw_G 47 := dw_go _ (fun _ _ _ _ hu => dw_bind_ok (a := 47) hu) (fun _ _ _ => dw_pure _)
theorem dw_o161 : dw_G 161 := dw_go _ (fun _ _ _ _ hu => dw_bind_ok (a := 161) hu) (fun _ _ _ => dw_bind dw_s2 (fun _ => dw_pure _))
theorem dw_o6 : dw_G 6 := dw_go _ (fun _ _ _ _ hu => dw_bind_ok (a := 6) hu) (fun _ _ _ => dw_pure _)
theorem dw_o158 : dw_G 158 := dw_go _ (fun _ _ _ _ hu => dw_bind_ok (a := 158) hu) (fun _ _ _ => dw_bind dw_s2 (fun _ => dw_pure _))
theorem dw_o187 : dw_G 187 := dw_go _ (fun _ _ _ _ hu => dw_bind_ok (a := 187) hu) (fun _ _ _ => dw_bind dw_u2 (fun _ => dw_pure _))
theorem dw_o90 : dw_G 90 := dw_go _ (fun _ _ _ _ hu => dw_bind_ok (a := 90) hu) (fun _ _ _ => dw_pure _)
theorem dw_o183 : dw_G 183 := dw_go _ (fun _ _ _ _ hu => dw_bind_ok (a := 183) hu) (fun _ _ _ => dw_bind dw_u2 (fun _ => dw_pure _))
theorem dw_o8 : dw_G 8 := dw_go _ (fun _ _ _ _ hu => dw_bind_ok (a := 8) hu) (fun _ _ _ => dw_pure _)
theorem dw_o18 : dw_G 18 := dw_go _ (fun _ _ _ _ hu => dw_bind_ok (a := 18) hu) (fun _ _ _ => dw_bind dw_u1 (fun _ => dw_pure _))
theorem dw_o133 : dw_G 133 := dw_go _ (fun _ _ _ _ hu => dw_bind_ok (a := 133) hu) (fun _ _ _ => dw_pure _)
theorem dw_o26 : dw_G 26 := dw_go _ (fun _ _ _ _ hu => dw_bind_ok (a := 26) hu) (fun _ _ _ => dw_pure _)
theorem dw_o164 : dw_G 164 := dw_go _ (fun _ _ _ _ hu => dw_bind_ok (a := 164) hu) (fun _ _ _ => dw_bind dw_s2 (fun _ => dw_pure _))
theorem dw_o43 : dw_G 43 := dw_go _ (fun _ _ _ _ hu => dw_bind_ok (a := 43) hu) (fun _ _ _ => dw_pure _)
theorem dw_o22 : dw_G 22 := dw_go _ (fun _ _ _ _ hu => dw_bind_ok (a := 22) hu) (fun _ _ _ => dw_bind dw_u1 (fun _ => dw_pure _))
theorem dw_o32 : dw_G 32 := dw_go _ (fun _ _ _ _ hu => dw_bind_ok (a := 32) hu) (fun _ _ _ => dw_pure _)
theorem dw_o33 : dw_G 33 := dw_go _ (fun _ _ _ _ hu => dw_bind_ok (a := 33) hu) (fun _ _ _ => dw_pure _)
theorem dw_o173 : dw_G 173 := dw_go _ (fun _ _ _ _ hu => dw_bind_ok (a := 173) hu) (fun _ _ _ => dw_pure _)
theorem dw_o129 : dw_G 129 := dw_go _ (fun _ _ _ _ hu => dw_bind_ok (a := 129) hu) (fun _ _ _ => dw_pure _)
theorem dw_o163 : dw_G 163 := dw_go _ (fun _ _ _ _ hu => dw_bind_ok (a := 163) hu) (fun _ _ _ => dw_bind dw_s2 (fun _ => dw_pure _))
theorem dw_o80 : dw_G 80 := dw_go _ (fun _ _ _ _ hu => dw_bind_ok (a := 80) hu) (fun _ _ _ => dw_pure _)
theorem dw_o66 : dw_G 66 := dw_go _ (fun _ _ _ _ hu => dw_bind_ok (a := 66) hu) (fun _ _ _ => dw_pure _)
theorem dw_o7 : dw_G 7 := dw_go _ (fun _ _ _ _ hu => dw_bind_ok (a := 7) hu) (fun _ _ _ => dw_pure _)
theorem dw_o87 : dw_G 87 := dw_go _ (fun _ _ _ _ hu => dw_bind_ok (a := 87) hu) (fun _ _ _ => dw_pure _)
theorem dw_o10 : dw_G 10 := dw_go _ (fun _ _ _ _ hu => dw_bind_ok (a := 10) hu) (fun _ _ _ => dw_pure _)
theorem dw_o156 : dw_G 156 := dw_go _ (fun _ _ _ _ hu => dw_bind_ok (a := 156) hu) (fun _ _ _ => dw_bind dw_s2 (fun _ => dw_pure _))
theorem dw_o136 : dw_G 136 := dw_go _ (fun _ _ _ _ hu => dw_bind_ok (a := 136) hu) (fun _ _ _ => dw_pure _)
theorem dw_o127 : dw_G 127 := dw_go _ (fun _ _ _ _ hu => dw_bind_ok (a := 127) hu) (fun _ _ _ => dw_pure _)
theorem dw_o51 : dw_G 51 := dw_go _ (fun _ _ _ _ hu => dw_bind_ok (a := 51) hu) (fun _ _ _ => dw_pure _)
theorem dw_o55 : dw_G 55 := dw_go _ (fun _ _ _ _ hu => dw_bind_ok (a := 55) hu) (fun _ _ _ => dw_bind dw_u1 (fun _ => dw_pure _))
theorem dw_o31 : dw_G 31 := dw_go _ (fun _ _ _ _ hu => dw_bind_ok (a := 31) hu) (fun _ _ _ => dw_pure _)
theorem dw_o104 : dw_G 104 := dw_go _ (fun _ _ _ _ hu => dw_bind_ok (a := 104) hu) (fun _ _ _ => dw_pure _)
theorem dw_o128 : dw_G 128 := dw_go _ (fun _ _ _ _ hu => dw_bind_ok (a := 128) hu) (fun _ _ _ => dw_pure _)
theorem dw_o30 : dw_G 30 := dw_go _ (fun _ _ _ _ hu => dw_bind_ok (a := 30) hu) (fun _ _ _ => dw_pure _)
theorem dw_o190 : dw_G 190 := dw_go _ (fun _ _ _ _ hu => dw_bind_ok (a := 190) hu) (fun _ _ _ => dw_pure _)
theorem dw_o97 : dw_G 97 := dw_go _ (fun _ _ _ _ hu => dw_bind_ok (a := 97) hu) (fun _ _ _ => dw_pure _)
theorem dw_o121 : dw_G 121 := dw_go _ (fun _ _ _ _ hu => dw_bind_ok (a := 121) hu) (fun _ _ _ => dw_pure _)
theorem dw_o84 : dw_G 84 := dw_go _ (fun _ _ _ _ hu => dw_bind_ok (a := 84) hu) (fun _ _ _ => dw_pure _)
theorem dw_o44 : dw_G 44 := dw_go _ (fun _ _ _ _ hu => dw_bind_ok (a := 44) hu) (fun _ _ _ => dw_pure _)
theorem dw_o65 : dw_G 65 := dw_go _ (fun _ _ _ _ hu => dw_bind_ok (a := 65) hu) (fun _ _ _ => dw_pure _)
theorem dw_o126 : dw_G 126 := dw_go _ (fun _ _ _ _ hu => dw_bind_ok (a := 126) hu) (fun _ _ _ => dw_pure _)
theorem dw_o146 : dw_G 146 := dw_go _ (fun _ _ _ _ hu => dw_bind_ok (a := 146) hu) (fun _ _ _ => dw_pure _)
theorem dw_o120 : dw_G 120 := dw_go _ (fun _ _ _ _ hu => dw_bind_ok (a := 120) hu) (fun _ _ _ => dw_pure _)
theorem dw_o108 : dw_G 108 := dw_go _ (fun _ _ _ _ hu => dw_bind_ok (a := 108) hu) (fun _ _ _ => dw_pure _)
theorem dw_o45 : dw_G 45 := dw_go _ (fun _ _ _ _ hu => dw_bind_ok (a := 45) hu) (fun _ _ _ => dw_pure _)
theorem dw_o122 : dw_G 122 := dw_go _ (fun _ _ _ _ hu => dw_bind_ok (a := 122) hu) (fun _ _ _ => dw_pure _)
theorem dw_o125 : dw_G 125 := dw_go _ (fun _ _ _ _ hu => dw_bind_ok (a := 125) hu) (fun _ _ _ => dw_pure _)
theorem dw_o113 : dw_G 113 := dw_go _ (fun _ _ _ _ hu => dw_bind_ok (a := 113) hu) (fun _ _ _ => dw_pure _)
theorem dw_o112 : dw_G 112 := dw_go _ (fun _ _ _ _ hu => dw_bind_ok (a := 112) hu) (fun _ _ _ => dw_pure _)
theorem dw_o157 : dw_G 157 := dw_go _ (fun _ _ _ _ hu => dw_bind_ok (a := 157) hu) (fun _ _ _ => dw_bind dw_s2 (fun _ => dw_pure _))
theorem dw_o123 : dw_G 123 := dw_go _ (fun _ _ _ _ hu => dw_bind_ok (a := 123) hu) (fun _ _ _ => dw_pure _)
theorem dw_o101 : dw_G 101 := dw_go _ (fun _ _ _ _ hu => dw_bind_ok (a := 101) hu) (fun _ _ _ => dw_pure _)
theorem dw_o105 : dw_G 105 := dw_go _ (fun _ _ _ _ hu => dw_bind_ok (a := 105) hu) (fun _ _ _ => dw_pure _)
theorem dw_o91 : dw_G 91 := dw_go _ (fun _ _ _ _ hu => dw_bind_ok (a := 91) hu) (fun _ _ _ => dw_pure _)
theorem dw_o92 : dw_G 92 := dw_go _ (fun _ _ _ _ hu => dw_bind_ok (a := 92) hu) (fun _ _ _ => dw_pure _)
theorem dw_o25 : dw_G 25 := dw_go _ (fun _ _ _ _ hu => dw_bind_ok (a := 25) hu) (fun _ _ _ => dw_bind dw_u1 (fun _ => dw_pure _))
theorem dw_o178 : dw_G 178 := dw_go _ (fun _ _ _ _ hu => dw_bind_ok (a := 178) hu) (fun _ _ _ => dw_bind dw_u2 (fun _ => dw_pure _))
theorem dw_o116 : dw_G 116 := dw_go _ (fun _ _ _ _ hu => dw_bind_ok (a := 116) hu) (fun _ _ _ => dw_pure _)
theorem dw_o131 : dw_G 131 := dw_go _ (fun _ _ _ _ hu => dw_bind_ok (a := 131) hu) (fun _ _ _ => dw_pure _)
theorem dw_o52 : dw_G 52 := dw_go _ (fun _ _ _ _ hu => dw_bind_ok (a := 52) hu) (fun _ _ _ => dw_pure _)
theorem dw_o145 : dw_G 145 := dw_go _ (fun _ _ _ _ hu => dw_bind_ok (a := 145) hu) (fun _ _ _ => dw_pure _)
theorem dw_o85 : dw_G 85 := dw_go _ (fun _ _ _ _ hu => dw_bind_ok (a := 85) hu) (fun _ _ _ => dw_pure _)
theorem dw_o176 : dw_G 176 := dw_go _ (fun _ _ _ _ hu => dw_bind_ok (a := 176) hu) (fun _ _ _ => dw_pure _)
theorem dw_o124 : dw_G 124 := dw_go _ (fun _ _ _ _ hu => dw_bind_ok (a := 124) hu) (fun _ _ _ => dw_pure _)
theorem dw_o19 : dw_G 19 := dw_go _ (fun _ _ _ _ hu => dw_bind_ok (a := 19) hu) (fun _ _ _ => dw_bind dw_u2 (fun _ => dw_pure _))
def dw_W : List Nat := [42, 180, 27, 182, 167, 181, 3, 16, 28, 4, 21, 184, 172, 46, 29, 160, 153, 177, 162, 54, 154, 132, 188, 61, 96, 20, 89, 79, 62, 2, 155, 5, 60, 100, 159, 17, 9, 148, 47, 161, 6, 158, 187, 90, 183, 8, 18, 133, 26, 164, 43, 22, 32, 33, 173, 129, 163, 80, 66, 7, 87, 10, 156, 136, 127, 51, 55, 31, 104, 128, 30, 190, 97, 121, 84, 44, 65, 126, 146, 120, 108, 45, 122, 125, 113, 112, 157, 123, 101, 105, 91, 92, 25, 178, 116, 131, 52, 145, 85, 176, 124, 19]
set_option maxRecDepth 4000 in
theorem dw_all : ∀ op ∈ dw_W, dw_G op := List.forall_mem_cons.mpr ⟨dw_o42, List.forall_mem_cons.mpr ⟨dw_o180, List.forall_mem_cons.mpr ⟨dw_o27, List.forall_mem_cons.mpr ⟨dw_o182, List.forall_mem_cons.mpr ⟨dw_o167, List.forall_mem_cons.mpr ⟨dw_o181, List.forall_mem_cons.mpr ⟨dw_o3, List.forall_mem_cons.mpr ⟨dw_o16, List.forall_mem_cons.mpr ⟨dw_o28, List.forall_mem_cons.mpr ⟨dw_o4, List.forall_mem_cons.mpr ⟨dw_o21, List.forall_mem_cons.mpr ⟨dw_o184, List.forall_mem_cons.mpr ⟨dw_o172, List.forall_mem_cons.mpr ⟨dw_o46, List.forall_mem_cons.mpr ⟨dw_o29, List.forall_mem_cons.mpr ⟨dw_o160, List.forall_mem_cons.mpr ⟨dw_o153, List.forall_mem_cons.mpr ⟨dw_o177, List.forall_mem_cons.mpr ⟨dw_o162, List.forall_mem_cons.mpr ⟨dw_o54, List.forall_mem_cons.mpr ⟨dw_o154, List.forall_mem_cons.mpr ⟨dw_o132, List.forall_mem_cons.mpr ⟨dw_o188, List.forall_mem_cons.mpr ⟨dw_o61, List.forall_mem_cons.mpr ⟨dw_o96, List.forall_mem_cons.mpr ⟨dw_o20, List.forall_mem_cons.mpr ⟨dw_o89, List.forall_mem_cons.mpr ⟨dw_o79, List.forall_mem_cons.mpr ⟨dw_o62, List.forall_mem_cons.mpr ⟨dw_o2, List.forall_mem_cons.mpr ⟨dw_o155, List.forall_mem_cons.mpr ⟨dw_o5, List.forall_mem_cons.mpr ⟨dw_o60, List.forall_mem_cons.mpr ⟨dw_o100, List.forall_mem_cons.mpr ⟨dw_o159, List.forall_mem_cons.mpr ⟨dw_o17, List.forall_mem_cons.mpr ⟨dw_o9, List.forall_mem_cons.mpr ⟨dw_o148, List.forall_mem_cons.mpr ⟨dw_o47, List.forall_mem_cons.mpr ⟨dw_o161, List.forall_mem_cons.mpr ⟨dw_o6, List.forall_mem_cons.mpr ⟨dw_o158, List.forall_mem_cons.mpr ⟨dw_o187, List.forall_mem_cons.mpr ⟨dw_o90, List.forall_mem_cons.mpr ⟨dw_o183, List.forall_mem_cons.mpr ⟨dw_o8, List.forall_mem_cons.mpr ⟨dw_o18, List.forall_mem_cons.mpr ⟨dw_o133, List.forall_mem_cons.mpr ⟨dw_o26, List.forall_mem_cons.mpr ⟨dw_o164, List.forall_mem_cons.mpr ⟨dw_o43, List.forall_mem_cons.mpr ⟨dw_o22, List.forall_mem_cons.mpr ⟨dw_o32, List.forall_mem_cons.mpr ⟨dw_o33, List.forall_mem_cons.mpr ⟨dw_o173, List.forall_mem_cons.mpr ⟨dw_o129, List.forall_mem_cons.mpr ⟨dw_o163, List.forall_mem_cons.mpr ⟨dw_o80, List.forall_mem_cons.mpr ⟨dw_o66, List.forall_mem_cons.mpr ⟨dw_o7, List.forall_mem_cons.mpr ⟨dw_o87, List.forall_mem_cons.mpr ⟨dw_o10, List.forall_mem_cons.mpr ⟨dw_o156, List.forall_mem_cons.mpr ⟨dw_o136, List.forall_mem_cons.mpr ⟨dw_o127, List.forall_mem_cons.mpr ⟨dw_o51, List.forall_mem_cons.mpr ⟨dw_o55, List.forall_mem_cons.mpr ⟨dw_o31, List.forall_mem_cons.mpr ⟨dw_o104, List.forall_mem_cons.mpr ⟨dw_o128, List.forall_mem_cons.mpr ⟨dw_o30, List.forall_mem_cons.mpr ⟨dw_o190, List.forall_mem_cons.mpr ⟨dw_o97, List.forall_mem_cons.mpr ⟨dw_o121, List.forall_mem_cons.mpr ⟨dw_o84, List.forall_mem_cons.mpr ⟨dw_o44, List.forall_mem_cons.mpr ⟨dw_o65, List.forall_mem_cons.mpr ⟨dw_o126, List.forall_mem_cons.mpr ⟨dw_o146, List.forall_mem_cons.mpr ⟨dw_o120, List.forall_mem_cons.mpr ⟨dw_o108, List.forall_mem_cons.mpr ⟨dw_o45, List.forall_mem_cons.mpr ⟨dw_o122, List.forall_mem_cons.mpr ⟨dw_o125, List.forall_mem_cons.mpr ⟨dw_o113, List.forall_mem_cons.mpr ⟨dw_o112, List.forall_mem_cons.mpr ⟨dw_o157, List.forall_mem_cons.mpr ⟨dw_o123, List.forall_mem_cons.mpr ⟨dw_o101, List.forall_mem_cons.mpr ⟨dw_o105, List.forall_mem_cons.mpr ⟨dw_o91, List.forall_mem_cons.mpr ⟨dw_o92, List.forall_mem_cons.mpr ⟨dw_o25, List.forall_mem_cons.mpr ⟨dw_o178, List.forall_mem_cons.mpr ⟨dw_o116, List.forall_mem_cons.mpr ⟨dw_o131, List.forall_mem_cons.mpr ⟨dw_o52, List.forall_mem_cons.mpr ⟨dw_o145, List.forall_mem_cons.mpr ⟨dw_o85, List.forall_mem_cons.mpr ⟨dw_o176, List.forall_mem_cons.mpr ⟨dw_o124, List.forall_mem_cons.mpr ⟨dw_o19, fun _ h => absurd h List.not_mem_nil⟩⟩⟩⟩⟩⟩⟩⟩⟩⟩⟩⟩⟩⟩⟩⟩⟩⟩⟩⟩⟩⟩⟩⟩⟩⟩⟩⟩⟩⟩⟩⟩⟩⟩⟩⟩⟩⟩⟩⟩⟩⟩⟩⟩⟩⟩⟩⟩⟩⟩⟩⟩⟩⟩⟩⟩⟩⟩⟩⟩⟩⟩⟩⟩⟩⟩⟩⟩⟩⟩⟩⟩⟩⟩⟩⟩⟩⟩⟩⟩⟩⟩⟩⟩⟩⟩⟩⟩⟩⟩⟩⟩⟩⟩⟩⟩⟩⟩⟩⟩⟩⟩
def dw_in : List Nat → Nat → Bool
  | [], _ => false
  | x :: r, n => bif Nat.beq x n then true else dw_in r n
theorem dw_in_mem {n : Nat} : ∀ {l : List Nat}, dw_in l n = true → n ∈ l
  | [], h => by cases h
  | x :: r, h => by
    cases hx : Nat.beq x n with
    | true => rw [Nat.eq_of_beq_eq_true hx]; exact List.mem_cons_self
    | false =>
      have h2 : (bif Nat.beq x n then true else dw_in r n) = true := h
      rw [hx] at h2
      exact List.mem_cons_of_mem _ (dw_in_mem h2)
theorem dw_dec {A : ByteArray} {pc r' : Nat} {i : Instr} (h : Jvm.ClassFile.Reader.runAt (Jvm.ClassFile.Decoder.instr pc) A pc = .ok (i, r')) : decode A pc = .ok (i, r' - pc) := by
  have e : decode A pc = Except.bind (Jvm.ClassFile.Reader.runAt (Jvm.ClassFile.Decoder.instr pc) A pc) (fun p => .ok (p.1, p.2 - pc)) := rfl
  rw [e, h]
  rfl
theorem dw_dec_inv {A : ByteArray} {pc n : Nat} {i : Instr} (h : decode A pc = .ok (i, n)) : ∃ r', Jvm.ClassFile.Reader.runAt (Jvm.ClassFile.Decoder.instr pc) A pc = .ok (i, r') ∧ n = r' - pc := by
  have e : decode A pc = Except.bind (Jvm.ClassFile.Reader.runAt (Jvm.ClassFile.Decoder.instr pc) A pc) (fun p => .ok (p.1, p.2 - pc)) := rfl
  rw [e] at h
  cases hd : Jvm.ClassFile.Reader.runAt (Jvm.ClassFile.Decoder.instr pc) A pc with
  | error x =>
    rw [hd] at h
    have h : (Except.error x : Except Jvm.ClassFile.DecodeError (Instr × Nat)) = .ok (i, n) := h
    cases h
  | ok p =>
    obtain ⟨j, r'⟩ := p
    rw [hd] at h
    have h : (Except.ok (j, r' - pc) : Except Jvm.ClassFile.DecodeError (Instr × Nat)) = .ok (i, n) := h
    cases h
    exact ⟨r', rfl, rfl⟩
theorem dw_decode {B : ByteArray} {pc n : Nat} {b : UInt8} {l : List UInt8} {i : Instr} (hl : B.data.toList.drop pc = b :: l) (hop : dw_in dw_W b.toNat = true) (h : decode ⟨(b :: l.take 2).toArray⟩ 0 = .ok (i, n)) : decode B pc = .ok (i, n) := by
  obtain ⟨r', h1, h2⟩ := dw_dec_inv h
  have hAB : dw_A pc ⟨(b :: l.take 2).toArray⟩ B := by
    intro j x hx
    have e1 : B.data.toList[pc + j]? = (b :: l)[j]? := by rw [← hl, List.getElem?_drop]
    rw [e1]
    have hx : (b :: l.take 2)[j]? = some x := hx
    cases j with
    | zero => exact hx
    | succ j =>
      have hx : (l.take 2)[j]? = some x := hx
      show l[j]? = some x
      rw [List.getElem?_take] at hx
      split at hx
      · exact hx
      · cases hx
  have hu : Jvm.ClassFile.Reader.runAt (Jvm.ClassFile.Reader.u1 : Jvm.ClassFile.Decoder Nat) ⟨(b :: l.take 2).toArray⟩ 0 = .ok (b.toNat, 1) := by
    rw [dw_u1k]
    rfl
  have h3 : Jvm.ClassFile.Reader.runAt (Jvm.ClassFile.Decoder.instr pc) B pc = .ok (i, pc + r') := dw_all _ (dw_in_mem hop) pc 0 pc _ B hAB 0 1 r' i hu h1
  rw [dw_dec h3, h2, Nat.add_sub_cancel_left]
  rfl
