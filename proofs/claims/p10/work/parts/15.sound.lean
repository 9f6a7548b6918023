/-! SOUNDNESS: contracts out of runs. -/
/-- a method's name, bytes, kind of answer -/
abbrev sm_Y : Type := MethodName × ByteArray × Option FieldType
def sm_room (d mc ms : Nat) : Room := { frames := d + 2, cells := mc, slots := ms, locals := 64 * d + 64 }
def sm_par (d : String) : Option Nat := (parseMethodDescriptor d).map (fun z => z.parameters.length)
def sm_nmh (c : String) : Prop := c ≠ "java/lang/invoke/MethodHandle" ∧ c ≠ "java/lang/invoke/VarHandle"
/-- what the tables must hold of a call -/
def sm_okC (Ts : List Cond) (oc : (List (Nat × Nat × String × String × String × Value) × List (String × Nat × MethodName × String) × List MethodName)) (cl : List vw_C) (Y : Nat → sm_Y) (own : String) (i : Instr) (rs : List Nat) : Prop := match i, rs with
  | .invokestatic idx, [_, mi, n] => Cond.static (Y mi).1 ∈ Ts ∧ Cond.initialized (Y mi).1.cls ∈ Ts ∧ sm_par (Y mi).1.desc = some n ∧ (Cond.methodLink own idx (Y mi).1 ∈ Ts ∨ ∃ host, (own, idx, (Y mi).1, host) ∈ oc.2.1)
  | .invokespecial idx, [_, mi, n] => (Y mi).1.name = "<init>" ∧ (Y mi).2.2 = none ∧ Cond.instanceMethod (Y mi).1 ∈ Ts ∧ Cond.initialized (Y mi).1.cls ∈ Ts ∧ (∃ k, n = k + 1 ∧ sm_par (Y mi).1.desc = some k) ∧ (Cond.methodLink own idx (Y mi).1 ∈ Ts ∨ ∃ host, (own, idx, (Y mi).1, host) ∈ oc.2.1)
  | .invokevirtual idx, _ :: n :: ps => ∀ ci mi, sm_pick ci ps = some mi → ∃ (C : String), sm_nm cl ci = some C ∧ Cond.instanceMethod (Y mi).1 ∈ Ts ∧ Cond.initialized (Y mi).1.cls ∈ Ts ∧
      ((Cond.methodLink own idx (Y mi).1 ∈ Ts ∧ Cond.selects C (Y mi).1 (Y mi).1 ∈ Ts ∧ sm_par (Y mi).1.desc = some n) ∨
       (∃ host, (own, idx, (Y mi).1, host) ∈ oc.2.1 ∧ Cond.selects C (Y mi).1 (Y mi).1 ∈ Ts ∧ sm_par (Y mi).1.desc = some n) ∨
       (∃ (x : MethodName) (owner : String), Cond.methodLink own idx x ∈ Ts ∧ Cond.sameMethod x.cls owner x.name x.desc ∈ Ts ∧ sm_nmh owner ∧ Cond.selects C x (Y mi).1 ∈ Ts ∧ sm_par x.desc = some n ∧
         ((⟨owner, x.name, x.desc⟩ : MethodName) ∈ oc.2.2 ∨ (Cond.instanceMethod ⟨owner, x.name, x.desc⟩ ∈ Ts ∧ ∃ b m r, Cond.code ⟨owner, x.name, x.desc⟩ b m r ∈ Ts))))
  | _, _ => True
/-- kinds of answers -/
def sm_rk (k : Nat) (ret : Option FieldType) : Prop := (k = 0 ∧ ret = none) ∨ (k = 1 ∧ ret = some .int) ∨ (k = 2 ∧ ret = some .long) ∨ (k = 3 ∧ ((∃ n, ret = some (.object n)) ∨ ∃ n, ret = some (.array n))) ∨ (k = 4 ∧ ret = some .boolean) ∨ (k = 5 ∧ ret = some .char) ∨ (k = 6 ∧ ret = some .byte)
/-- the tables are right of a method -/
def sm_okM (Ts : List Cond) (sx : List (String × Nat × String × Nat)) (zx : List (String × String × String × Nat)) (oc : (List (Nat × Nat × String × String × String × Value) × List (String × Nat × MethodName × String) × List MethodName)) (K : sm_H) (cl : List vw_C) (Y : Nat → sm_Y) (mi : Nat) (M : sm_M) : Prop :=
  Cond.code (Y mi).1 (Y mi).2.1 M.1 (Y mi).2.2 ∈ Ts ∧ plainName (Y mi).1.cls = true ∧ sm_nmh (Y mi).1.cls ∧ M.1 ≤ 45 ∧ sm_rk M.2.1 (Y mi).2.2 ∧
  ∀ (pc : Nat) (q : sm_I), M.2.2[pc]? = some (some q) → decode (Y mi).2.1 pc = .ok (q.1, q.2.1) ∧ sm_lenOk q.1 q.2.1 = true ∧ sm_okI Ts sx zx oc K cl (Y mi).1.cls (Y mi).1.name pc q.1 q.2.2 ∧ sm_okC Ts oc cl Y (Y mi).1.cls q.1 q.2.2
def sm_Good (Ts : List Cond) (sx : List (String × Nat × String × Nat)) (zx : List (String × String × String × Nat)) (oc : (List (Nat × Nat × String × String × String × Value) × List (String × Nat × MethodName × String) × List MethodName)) (K : sm_H) (cl : List vw_C) (Y : Nat → sm_Y) (P : Nat → Option sm_M) : Prop := ∀ mi M, P mi = some M → sm_okM Ts sx zx oc K cl Y mi M
def sm_Pc (D : va_G) (cl : List vw_C) (tys : List (ClassId × FieldType)) (sx : List (String × Nat × String × Nat)) (zx : List (String × String × String × Nat)) (oc : (List (Nat × Nat × String × String × String × Value) × List (String × Nat × MethodName × String) × List MethodName)) (K : sm_H) (N0 : Nat) (cs : Nat → Nat) (as : List Value) (h : sm_H) : Array Value → State → Prop :=
  fun v U => v = (as.map (sm_mv (sm_ad N0 cs))).toArray ∧ sm_P D cl tys N0 cs K h U.heap ∧ va_K D cl tys U ∧ sm_X cl K sx zx oc N0 cs U
def sm_Qc (D : va_G) (cl : List vw_C) (tys : List (ClassId × FieldType)) (N0 : Nat) (cs : Nat → Nat) (K : sm_H) (v : Option Value) (h : sm_H) : Array Value → State → Outcome → State → Prop :=
  fun _ st o t => o = .returned (v.map (sm_mv (sm_ad N0 cs))) ∧ sm_P D cl tys N0 cs K h t.heap ∧ ∀ q, q < N0 → t.heap[q]? = st.heap[q]?
theorem sm_blind {D : va_G} {cl : List vw_C} {tys : List (ClassId × FieldType)} {sx : List (String × Nat × String × Nat)} {zx : List (String × String × String × Nat)} {oc : (List (Nat × Nat × String × String × String × Value) × List (String × Nat × MethodName × String) × List MethodName)} {K : sm_H} {N0 : Nat} {cs : Nat → Nat} {as : List Value} {h : sm_H} : FrameBlind (sm_Pc D cl tys sx zx oc K N0 cs as h) := by
  intro a U g mk q
  obtain ⟨h1, h2, h3, h4⟩ := q
  exact ⟨h1, h2, va_K.moved (u := U) (U := U.calling g mk a) (Vm.Alike.refl U.vm) h3, ⟨fun z hz => vk_R.same rfl (h4.1 z hz), fun z hz => va_Z.moved (u := U) (U := U.calling g mk a) (Vm.Alike.refl U.vm) (h4.2.1 z hz), fun z hz => va_OF.moved (u := U) (U := U.calling g mk a) (Vm.Alike.refl U.vm) (h4.2.2.1 z hz), fun z hz => va_Nw.same rfl rfl (h4.2.2.2.1 z hz), ⟨va_Zq.moved (u := U) (U := U.calling g mk a) (Vm.Alike.refl U.vm) h4.2.2.2.2.1.1, fun z hz => va_Nw.same rfl rfl (h4.2.2.2.2.1.2 z hz)⟩, sm_OA.moved (u := U) (U := U.calling g mk a) h4.2.2.2.2.2 (Vm.Alike.refl U.vm) (fun _ _ => rfl)⟩⟩
/-- what was there before is there at a call -/
theorem sm_X.at_ {cl : List vw_C} {K : sm_H} {sx : List (String × Nat × String × Nat)} {zx : List (String × String × String × Nat)} {oc : (List (Nat × Nat × String × String × String × Value) × List (String × Nat × MethodName × String) × List MethodName)} {N0 : Nat} {cs : Nat → Nat} {s U : State} (hX : sm_X cl K sx zx oc N0 cs s) (hW : s.WarmedH U.vm) (hF : ∀ q, q < N0 → U.heap[q]? = s.heap[q]?) : sm_X cl K sx zx oc N0 cs U :=
  ⟨fun z hz => vk_R.warm hW (hX.1 z hz), fun z hz => va_Z.moved hW.alike ((hX.2.1 z hz).kept (fun a _ h2 => hF a (Nat.not_le.mp h2))), fun z hz => va_OF.moved hW.alike ((hX.2.2.1 z hz).kept (fun a _ h2 => hF a (Nat.not_le.mp h2))), fun z hz => va_Nw.warmM hW (hX.2.2.2.1 z hz), ⟨va_Zq.moved hW.alike (va_Zq.kept hX.2.2.2.2.1.1 (fun a _ h2 => hF a (Nat.not_le.mp h2))), fun z hz => va_Nw.warmD hW (hX.2.2.2.2.1.2 z hz)⟩, sm_OA.moved hX.2.2.2.2.2 hW.alike hF⟩
section SMS
variable {p : Program} {l : Launch} {e : Env} {R : Room} {s : State} {m : MethodId} {args : Array Value} {below : List Frame} {meth : Method} {c : Code} {H : Heap} {locs : List Loc} {cells slots : Nat} {Q : State → Prop}
variable {D : va_G} {cl : List vw_C} {tys : List (ClassId × FieldType)} {N0 : Nat} {cs : Nat → Nat} {K h1 : sm_H} {pc : Nat} {LS : Array Slot} {rest st0 : List Value} {mc ms : Nat} {a : Array Value} {v : Option Value}
/-- behind a call -/
theorem sm_after (hr : va_Run p l e R s m args below meth c H locs cells slots mc ms (F0 m pc LS st0) rest (sm_Qc D cl tys N0 cs K v h1 a) (fun q => N0 ≤ q)) (hlocs : ∀ x ∈ locs, N0 ≤ x.base)
    (kk : ∀ (H1 : Heap) (locs1 : List Loc), sm_P D cl tys N0 cs K h1 H1 → (∀ q, q < N0 → H1[q]? = H[q]?) → (∀ x ∈ locs1, N0 ≤ x.base) → W p l e R s m args below meth c H1 locs1 (cells + mc) (slots + ms) Q (F0 m (pc + 3) LS ((v.map (sm_mv (sm_ad N0 cs))).toList ++ rest))) :
    W p l e R s m args below meth c H locs cells slots Q (F0 m pc LS st0) := by
  intro T hT X
  obtain ⟨v', st₀, t, T', L, h0, X', hL, e1, e2, ⟨hv, hp, hk⟩, st⟩ := hr T hT X
  cases hv
  rw [h0] at hk
  rw [← e1] at hp hk
  obtain ⟨t2, a1, b1⟩ := kk T'.heap (locs ++ L) hp hk (fun x hx => (List.mem_append.mp hx).elim (hlocs x) (hL x)) T' rfl X'
  exact ⟨t2, st t2 a1, b1⟩
end SMS
