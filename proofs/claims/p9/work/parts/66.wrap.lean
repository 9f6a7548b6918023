/-! METHODS WITH HANDLERS -/
/-- such a method: locals, kind of the answer, instructions; its handlers -/
abbrev sm_MW : Type := sm_M × List (Nat × Nat × Nat × Nat × Nat)
def sm_runW (P : Nat → Option sm_M) (PW : Nat → Option sm_MW) : Nat → Nat → Nat → Nat → sm_L → List Value → sm_H → Option (Option Value × sm_H)
  | 0, _, _, _, _, _, _ => none
  | n + 1, d, m, pc, ls, st, h => match PW m with
    | none => none
    | some ((_, k, tab), al) => match tab[pc]? with
      | some (some q) => match sm_step q pc ls st h with
        | some (.inl (pc', ls', st', h')) => sm_runW P PW n d m pc' ls' st' h'
        | some (.inr (.inl v)) => if sm_okret k v then some (v, h) else none
        | some (.inr (.inr (m', as, r))) => match d, P m' with
          | d' + 1, some (nl, _, _) => if (sm_slots as).length ≤ nl ∧ (r.map fun v => v.category).sum ≤ 8 then (match sm_run P n d' m' 0 (sm_entry nl as) [] h with
            | some (v, h') => sm_runW P PW n d m (pc + 3) ls (sm_back v r) h'
            | none => match sm_runT P n d' m' 0 (sm_entry nl as) [] h with
              | some (x, h') => match sm_find pc x al with
                | some hp => sm_runW P PW n d m hp ls [.ref (h'.length - 1)] h'
                | none => none
              | none => none) else none
          | _, _ => none
        | none => none
      | _ => none
theorem sm_runW_mono {P : Nat → Option sm_M} {PW : Nat → Option sm_MW} : ∀ (n d m pc : Nat) (ls : sm_L) (st : List Value) (h : sm_H) (v : Option Value) (h' : sm_H), sm_runW P PW n d m pc ls st h = some (v, h') → h.length ≤ h'.length ∧ sm_sl h ≤ sm_sl h' := by
  intro n
  induction n with
  | zero => intro d m pc ls st h v h' hr; simp [sm_runW] at hr
  | succ n ih =>
    intro d m pc ls st h v h' hr
    unfold sm_runW at hr
    split at hr
    · cases hr
    · split at hr
      · split at hr
        · next hs =>
          have h1 := sm_step_mono hs
          have h2 := ih _ _ _ _ _ _ _ _ hr
          exact ⟨Nat.le_trans h1.1 h2.1, Nat.le_trans h1.2 h2.2⟩
        · split at hr
          · cases hr; exact ⟨Nat.le_refl _, Nat.le_refl _⟩
          · cases hr
        · split at hr
          · split at hr
            · split at hr
              · next hc =>
                have g1 := sm_run_mono _ _ _ _ _ _ _ _ _ hc
                have g2 := ih _ _ _ _ _ _ _ _ hr
                exact ⟨Nat.le_trans g1.1 g2.1, Nat.le_trans g1.2 g2.2⟩
              · split at hr
                · next hc =>
                  split at hr
                  · have g1 := sm_runT_mono _ _ _ _ _ _ _ _ _ hc
                    have g2 := ih _ _ _ _ _ _ _ _ hr
                    exact ⟨Nat.le_trans g1.1 g2.1, Nat.le_trans g1.2 g2.2⟩
                  · cases hr
                · cases hr
            · cases hr
          · cases hr
        · cases hr
      · cases hr
def sm_roomW (d mc ms : Nat) : Room := { frames := d + 9, cells := mc, slots := ms, locals := 64 * d + 256 }
/-- the tables are right of a method with handlers; a call there is by the object's own class -/
def sm_okW (Ts : List Cond) (sx : List (String × Nat × String × Nat)) (zx : List (String × String × String × Nat)) (oc : (List (Nat × Nat × String × String × String × Value) × List (String × Nat × MethodName × String) × List MethodName)) (K : sm_H) (cl : List vw_C) (nc : List (Nat × Nat)) (Y YW : Nat → sm_Y) (mi : Nat) (M : sm_MW) : Prop :=
  Cond.codeWith (YW mi).1 (YW mi).2.1 M.1.1 (YW mi).2.2 (M.2.map fun q => (q.1, q.2.1, q.2.2.1, q.2.2.2.1)) ∈ Ts ∧ plainName (YW mi).1.cls = true ∧ sm_nmh (YW mi).1.cls ∧ M.1.1 ≤ 45 ∧ sm_rk M.1.2.1 (YW mi).2.2 ∧
  (∀ (pc : Nat) (q : sm_I), M.1.2.2[pc]? = some (some q) → decode (YW mi).2.1 pc = .ok (q.1, q.2.1) ∧ sm_lenOk q.1 q.2.1 = true ∧ sm_okI Ts sx zx oc K cl (YW mi).1.cls (YW mi).1.name pc q.1 q.2.2 ∧ sm_okC Ts oc cl Y (YW mi).1.cls q.1 q.2.2 ∧
    (∀ idx k n ps ci m1, q.1 = .invokevirtual idx → q.2.2 = k :: n :: ps → sm_pick ci ps = some m1 → ∃ (C : String) (T : u_T) (N : Nat), cl[ci]? = some (C, T, N) ∧ Cond.instanceMethod (Y m1).1 ∈ Ts ∧ Cond.initialized (Y m1).1.cls ∈ Ts ∧ Cond.methodLink (YW mi).1.cls idx (Y m1).1 ∈ Ts ∧ Cond.selects C (Y m1).1 (Y m1).1 ∈ Ts ∧ sm_par (Y m1).1.desc = some n) ∧
    (∀ x hp, sm_find pc x M.2 = some hp → (∃ X T, cl[x]? = some (X, T, 0)) ∧ ∀ z ∈ M.2, z.1 ≤ pc ∧ pc < z.2.1 → sm_okH Ts cl nc (YW mi).1.cls x z) ∧
    ((∃ x hp, sm_find pc x M.2 = some hp) → (∀ idx, q.1 = .invokestatic idx → False) ∧ ∀ idx, q.1 = .invokespecial idx → False))
section SMX
variable {l : Launch} {D : va_G} {cl : List vw_C} {tys : List (ClassId × FieldType)} {N0 : Nat} {cs : Nat → Nat} {Ts : List Cond} {sx : List (String × Nat × String × Nat)} {zx : List (String × String × String × Nat)} {oc : (List (Nat × Nat × String × String × String × Value) × List (String × Nat × MethodName × String) × List MethodName)} {K : sm_H} {Y YW : Nat → sm_Y} {P : Nat → Option sm_M} {PW : Nat → Option sm_MW} {ex : List Cond} {nc : List (Nat × Nat)}
/-- the end of a method that returns -/
theorem sm_retW {p : Program} {e : Env} {R : Room} {s : State} {m : MethodId} {args : Array Value} {below : List Frame} {meth : Method} {c : Code} {H : Heap} {locs : List Loc} {cells slots kr pc len : Nat} {LS : Array Slot} {cc : ByteArray} {ret : Option FieldType} {i : Instr} {rs : List Nat} {ls : sm_L} {st : List Value} {h : sm_H} {v : Option Value}
    (hx : p.tables.exec = Jvm.exec) (hb : c.code = cc) (hrt : meth.sig.returnType = ret) (hlocks : meth.locks = false) (hP : sm_P D cl tys N0 cs K h H) (hF : ∀ q, q < N0 → H[q]? = s.heap[q]?) (hlocs : ∀ x ∈ locs, N0 ≤ x.base)
    (g5 : sm_rk kr ret) (d1 : decode cc pc = .ok (i, len)) (d2 : sm_lenOk i len = true) (hs : sm_step (i, len, rs) pc ls st h = some (.inr (.inl v))) (hkr : sm_okret kr v = true) :
    W p l e R s m args below meth c H locs cells slots (MQ below (sm_Qc D cl tys N0 cs K v h) args s cells slots (fun q => N0 ≤ q)) (F0 m pc LS (st.map (sm_mv (sm_ad N0 cs)))) := by
  have hQQ : ∀ (o : Option Value) (t : State), o = v.map (sm_mv (sm_ad N0 cs)) → t.heap = H → sm_Qc D cl tys N0 cs K v h args s (.returned o) t := fun o t ho ht => ⟨by rw [ho], by rw [ht]; exact hP, fun q hq => by rw [ht]; exact hF q hq⟩
  rcases sm_ret_inv hs with ⟨rfl, x, rfl, rfl⟩ | ⟨rfl, x, rfl, rfl⟩ | ⟨rfl, x, rfl, rfl⟩ | ⟨rfl, rfl, rfl⟩
  · simp only [sm_lenOk, beq_iff_eq] at d2
    subst d2
    rcases g5 with ⟨rfl, -⟩ | ⟨rfl, h5⟩ | ⟨rfl, -⟩ | ⟨rfl, -⟩ | ⟨rfl, h5⟩ | ⟨rfl, h5⟩ | ⟨rfl, h5⟩
    · simp [sm_okret] at hkr
    · exact W.iret hx hb (hrt.trans h5) (fun t ht _ => hQQ _ t rfl ht) hlocs d1 (hlocks := hlocks)
    · simp [sm_okret] at hkr
    · simp [sm_okret] at hkr
    · exact W.zret hx hb (hrt.trans h5) (sm_fit_ok (ad := id) (t := 3) (v := .int x) (by simpa [sm_okret, sm_fit] using hkr) (Or.inr (Or.inr (Or.inr (Or.inl ⟨rfl, rfl⟩))))).1 (fun t ht _ => hQQ _ t rfl ht) hlocs d1 (hlocks := hlocks)
    · exact W.zret hx hb (hrt.trans h5) (sm_fit_ok (ad := id) (t := 4) (v := .int x) (by simpa [sm_okret, sm_fit] using hkr) (Or.inr (Or.inr (Or.inr (Or.inr ⟨rfl, rfl⟩))))).1 (fun t ht _ => hQQ _ t rfl ht) hlocs d1 (hlocks := hlocks)
    · have hb2 : x = 0 ∨ x = 1 := by simpa [sm_okret] using hkr
      exact W.zret hx hb (hrt.trans h5) (by rcases hb2 with rfl | rfl <;> rfl) (fun t ht _ => hQQ _ t rfl ht) hlocs d1 (hlocks := hlocks)
  · simp only [sm_lenOk, beq_iff_eq] at d2
    subst d2
    rcases g5 with ⟨rfl, -⟩ | ⟨rfl, -⟩ | ⟨rfl, h5⟩ | ⟨rfl, -⟩ | ⟨rfl, -⟩ | ⟨rfl, -⟩ | ⟨rfl, h5⟩
    · simp [sm_okret] at hkr
    · simp [sm_okret] at hkr
    · exact W.lret hx hb (hrt.trans h5) (fun t ht _ => hQQ _ t rfl ht) hlocs d1 (hlocks := hlocks)
    · simp [sm_okret] at hkr
    · simp [sm_okret] at hkr
    · simp [sm_okret] at hkr
    · simp [sm_okret] at hkr
  · simp only [sm_lenOk, beq_iff_eq] at d2
    subst d2
    rcases g5 with ⟨rfl, -⟩ | ⟨rfl, -⟩ | ⟨rfl, -⟩ | ⟨rfl, h5⟩ | ⟨rfl, -⟩ | ⟨rfl, -⟩ | ⟨rfl, h5⟩
    · simp [sm_okret] at hkr
    · simp [sm_okret] at hkr
    · simp [sm_okret] at hkr
    · rcases h5 with ⟨nm, h5⟩ | ⟨nm, h5⟩
      · exact W.aret hx hb (hrt.trans h5) (Or.inl ⟨_, rfl⟩) (Or.inr ⟨_, rfl⟩) (fun t ht _ => hQQ _ t rfl ht) hlocs d1 (hlocks := hlocks)
      · exact W.aret hx hb (hrt.trans h5) (Or.inr ⟨_, rfl⟩) (Or.inr ⟨_, rfl⟩) (fun t ht _ => hQQ _ t rfl ht) hlocs d1 (hlocks := hlocks)
    · simp [sm_okret] at hkr
    · simp [sm_okret] at hkr
    · simp [sm_okret] at hkr
  · simp only [sm_lenOk, beq_iff_eq] at d2
    subst d2
    rcases g5 with ⟨rfl, h5⟩ | ⟨rfl, -⟩ | ⟨rfl, -⟩ | ⟨rfl, -⟩ | ⟨rfl, -⟩ | ⟨rfl, -⟩ | ⟨rfl, h5⟩
    · exact W.vret hx hb (hrt.trans h5) (fun t ht _ => hQQ _ t rfl ht) hlocs d1 (hlocks := hlocks)
    · simp [sm_okret] at hkr
    · simp [sm_okret] at hkr
    · simp [sm_okret] at hkr
    · simp [sm_okret] at hkr
    · simp [sm_okret] at hkr
    · simp [sm_okret] at hkr
end SMX
