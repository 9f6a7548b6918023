/-! A RUN of the small machine is a run of the JVM -/
theorem sm_step_mono {q : sm_I} {pc pc' : Nat} {ls ls' : sm_L} {st st' : List Value} {h h' : sm_H} (hs : sm_step q pc ls st h = some (.inl (pc', ls', st', h'))) : h.length ≤ h'.length ∧ sm_sl h ≤ sm_sl h' := by
  have k0 : h' = h → h.length ≤ h'.length ∧ sm_sl h ≤ sm_sl h' := fun z => by subst z; exact ⟨Nat.le_refl _, Nat.le_refl _⟩
  obtain ⟨i, len, rs⟩ := q
  cases i with
  | iastore =>
    obtain ⟨x, i, a, n, f, rfl, ha, hi, hC, rfl, rfl, rfl⟩ := sm_ast_inv hs
    exact ⟨by rw [List.length_set]; exact Nat.le_refl _, Nat.le_of_eq (sm_sl_set (by simp [sm_sz]) h a ha).symm⟩
  | castore =>
    obtain ⟨x, i, a, n, f, rfl, ha, hi, hC, rfl, rfl, rfl⟩ := sm_ast_inv hs
    exact ⟨by rw [List.length_set]; exact Nat.le_refl _, Nat.le_of_eq (sm_sl_set (by simp [sm_sz]) h a ha).symm⟩
  | bastore =>
    obtain ⟨x, i, a, n, f, rfl, ha, hi, hC, rfl, rfl, rfl⟩ := sm_ast_inv hs
    exact ⟨by rw [List.length_set]; exact Nat.le_refl _, Nat.le_of_eq (sm_sl_set (by simp [sm_sz]) h a ha).symm⟩
  | lastore =>
    simp only [sm_step, sm_astL] at hs
    split at hs
    · split at hs
      · next ha =>
        split at hs
        · obtain ⟨rfl, rfl, rfl, rfl⟩ := sm_nx_inv hs
          exact ⟨by rw [List.length_set]; exact Nat.le_refl _, Nat.le_of_eq (sm_sl_set (by simp [sm_sz]) h _ ha).symm⟩
        · cases hs
      · cases hs
    · cases hs
  | putfield idx =>
    simp only [sm_step, sm_putf] at hs
    split at hs
    · split at hs
      · next ha =>
        split at hs
        · obtain ⟨rfl, rfl, rfl, rfl⟩ := sm_nx_inv hs
          exact ⟨by rw [List.length_set]; exact Nat.le_refl _, Nat.le_of_eq (sm_sl_set (by simp [sm_sz]) h _ ha).symm⟩
        · cases hs
      · cases hs
    · cases hs
  | new idx =>
    simp only [sm_step, sm_newo] at hs
    split at hs
    · split at hs
      · cases hs
      · obtain ⟨rfl, rfl, rfl, rfl⟩ := sm_nx_inv hs
        exact ⟨by simp, by rw [sm_sl_app]; exact Nat.le_add_right _ _⟩
    · cases hs
  | baload =>
    simp only [sm_step] at hs
    split at hs
    · next r0 hr0 =>
      cases hs
      obtain ⟨i, a, n, f, r, rfl, ha, hi, rfl, rfl, rfl, rfl⟩ := sm_ald_inv hr0
      exact ⟨Nat.le_refl _, Nat.le_refl _⟩
    · obtain ⟨i, a, n, f, r, rfl, ha, hi, rfl, rfl, rfl, rfl⟩ := sm_ald_inv hs
      exact ⟨Nat.le_refl _, Nat.le_refl _⟩
  | newarray idx =>
    simp only [sm_step, sm_newa] at hs
    split at hs
    · split at hs
      · obtain ⟨rfl, rfl, rfl, rfl⟩ := sm_nx_inv hs
        exact ⟨by simp, by rw [sm_sl_app]; exact Nat.le_add_right _ _⟩
      · cases hs
    · cases hs
  | _ =>
    refine k0 ?_
    simp only [sm_step, sm_bin, sm_binL, sm_loadK, sm_store1, sm_store2, sm_ald, sm_aldL, sm_getf, sm_callS, sm_callI, sm_callV, sm_if, sm_nx, sm_ret, sm_call, Option.bind] at hs
    repeat' split at hs
    all_goals first
      | (cases hs; done)
      | (simp at hs; exact hs.2.2.2.symm)
      | (simp at hs; done)
      | (cases hs; rfl)
theorem sm_run_mono {P : Nat → Option sm_M} : ∀ (n d m pc : Nat) (ls : sm_L) (st : List Value) (h : sm_H) (v : Option Value) (h' : sm_H), sm_run P n d m pc ls st h = some (v, h') → h.length ≤ h'.length ∧ sm_sl h ≤ sm_sl h' := by
  intro n
  induction n with
  | zero => intro d m pc ls st h v h' hr; simp [sm_run] at hr
  | succ n ih =>
    intro d m pc ls st h v h' hr
    unfold sm_run at hr
    split at hr
    · cases hr
    · next k tab hP =>
      split at hr
      · next q hq =>
        split at hr
        · next pc1 ls1 st1 h1 hs =>
          have h1 := sm_step_mono hs
          have h2 := ih _ _ _ _ _ _ _ _ hr
          exact ⟨Nat.le_trans h1.1 h2.1, Nat.le_trans h1.2 h2.2⟩
        · split at hr
          · cases hr; exact ⟨Nat.le_refl _, Nat.le_refl _⟩
          · cases hr
        · split at hr
          · split at hr
            · split at hr
              · next v1 h1 hc =>
                have g1 := ih _ _ _ _ _ _ _ _ hc
                have g2 := ih _ _ _ _ _ _ _ _ hr
                exact ⟨Nat.le_trans g1.1 g2.1, Nat.le_trans g1.2 g2.2⟩
              · cases hr
            · cases hr
          · cases hr
        · cases hr
      · cases hr
theorem sm_step_len {q : sm_I} {pc pc' : Nat} {ls ls' : sm_L} {st st' : List Value} {h h' : sm_H} (hs : sm_step q pc ls st h = some (.inl (pc', ls', st', h'))) : ls'.length = ls.length := by
  have k1 : ∀ {i : Nat} {v : Value} {l2 : sm_L}, sm_put1 ls i v = some l2 → l2.length = ls.length := fun hp => by
    obtain ⟨-, rfl⟩ := sm_put1_len hp
    rw [List.length_set, sm_kill_len]
  have k2 : ∀ {i : Nat} {v : Value} {l2 : sm_L}, sm_put2 ls i v = some l2 → l2.length = ls.length := fun hp => by
    obtain ⟨-, rfl⟩ := sm_put2_len hp
    rw [List.length_set, List.length_set, sm_kill_len]
  obtain ⟨i, len, rs⟩ := q
  cases i with
  | istore k => obtain ⟨v, rfl, hk, hp, rfl, rfl⟩ := sm_store1_inv hs; exact k1 hp
  | istore_n k => obtain ⟨v, rfl, hk, hp, rfl, rfl⟩ := sm_store1_inv hs; exact k1 hp
  | astore k => obtain ⟨v, rfl, hk, hp, rfl, rfl⟩ := sm_store1_inv hs; exact k1 hp
  | astore_n k => obtain ⟨v, rfl, hk, hp, rfl, rfl⟩ := sm_store1_inv hs; exact k1 hp
  | lstore k => obtain ⟨v, rfl, hp, rfl, rfl⟩ := sm_store2_inv hs; exact k2 hp
  | lstore_n k => obtain ⟨v, rfl, hp, rfl, rfl⟩ := sm_store2_inv hs; exact k2 hp
  | iinc k n =>
    simp only [sm_step] at hs
    split at hs
    · next x hx =>
      cases hp : sm_put1 ls k (.int (x + Int32.ofInt n)) with
      | none => rw [hp] at hs; cases hs
      | some l2 =>
        rw [hp] at hs
        obtain ⟨rfl, rfl, rfl, rfl⟩ := sm_nx_inv hs
        exact k1 hp
    · cases hs
  | baload =>
    simp only [sm_step] at hs
    split at hs
    · next r0 hr0 =>
      cases hs
      obtain ⟨i, a, n, f, r, rfl, ha, hi, rfl, rfl, rfl, rfl⟩ := sm_ald_inv hr0
      rfl
    · obtain ⟨i, a, n, f, r, rfl, ha, hi, rfl, rfl, rfl, rfl⟩ := sm_ald_inv hs
      rfl
  | _ =>
    refine congrArg List.length (?_ : ls' = ls)
    simp only [sm_step, sm_bin, sm_binL, sm_loadK, sm_ald, sm_aldL, sm_ast, sm_astL, sm_getf, sm_putf, sm_newo, sm_newa, sm_callS, sm_callI, sm_callV, sm_if, sm_nx, sm_ret, sm_call] at hs
    repeat' split at hs
    all_goals first
      | (cases hs; done)
      | (simp at hs; exact hs.2.1.symm)
      | (simp at hs; done)
      | (cases hs; rfl)
theorem sm_ret_inv {q : sm_I} {pc : Nat} {ls : sm_L} {st : List Value} {h : sm_H} {v : Option Value} (hs : sm_step q pc ls st h = some (.inr (.inl v))) :
    (q.1 = .ireturn ∧ ∃ x, st = [.int x] ∧ v = some (.int x)) ∨ (q.1 = .lreturn ∧ ∃ x, st = [.long x] ∧ v = some (.long x)) ∨ (q.1 = .areturn ∧ ∃ x, st = [.ref x] ∧ v = some (.ref x)) ∨ (q.1 = .return_ ∧ st = [] ∧ v = none) := by
  obtain ⟨i, len, rs⟩ := q
  cases i with
  | ireturn =>
    simp only [sm_step, sm_ret] at hs
    split at hs
    · next x => cases hs; exact Or.inl ⟨rfl, x, rfl, rfl⟩
    · cases hs
  | lreturn =>
    simp only [sm_step, sm_ret] at hs
    split at hs
    · next x => cases hs; exact Or.inr (Or.inl ⟨rfl, x, rfl, rfl⟩)
    · cases hs
  | areturn =>
    simp only [sm_step, sm_ret] at hs
    split at hs
    · next x => cases hs; exact Or.inr (Or.inr (Or.inl ⟨rfl, x, rfl, rfl⟩))
    · cases hs
  | return_ =>
    simp only [sm_step, sm_ret] at hs
    split at hs
    · cases hs; exact Or.inr (Or.inr (Or.inr ⟨rfl, rfl, rfl⟩))
    · cases hs
  | baload =>
    exfalso
    simp only [sm_step] at hs
    split at hs
    · next r0 hr0 =>
      cases hs
      simp only [sm_ald, sm_nx] at hr0
      repeat' split at hr0
      all_goals first | (cases hr0; done) | (simp at hr0; done)
    · simp only [sm_ald, sm_nx] at hs
      repeat' split at hs
      all_goals first | (cases hs; done) | (simp at hs; done)
  | _ =>
    exfalso
    simp only [sm_step, sm_bin, sm_binL, sm_loadK, sm_store1, sm_store2, sm_ald, sm_aldL, sm_ast, sm_astL, sm_getf, sm_putf, sm_newo, sm_newa, sm_callS, sm_callI, sm_callV, sm_if, sm_nx, sm_call, Option.bind] at hs
    repeat' split at hs
    all_goals first
      | (cases hs; done)
      | (simp at hs; done)
theorem sm_args_inv {n : Nat} {st as r : List Value} (h : sm_args n st = some (as, r)) : st = as.reverse ++ r ∧ as.length = n := by
  unfold sm_args at h
  split at h
  · next hl =>
    cases h
    refine ⟨by rw [List.reverse_reverse, List.take_append_drop], by simp; omega⟩
  · cases h
theorem sm_call_inv {q : sm_I} {pc : Nat} {ls : sm_L} {st : List Value} {h : sm_H} {m : Nat} {as r : List Value} (hs : sm_step q pc ls st h = some (.inr (.inr (m, as, r)))) :
    (∃ idx k n, q.1 = .invokestatic idx ∧ q.2.2 = [k, m, n] ∧ sm_args n st = some (as, r)) ∨ (∃ idx k n b bs, q.1 = .invokespecial idx ∧ q.2.2 = [k, m, n] ∧ sm_args n st = some (as, r) ∧ as = .ref b :: bs) ∨
    (∃ idx k n ps b bs ci fs, q.1 = .invokevirtual idx ∧ q.2.2 = k :: n :: ps ∧ sm_args (n + 1) st = some (as, r) ∧ as = .ref b :: bs ∧ h[b]? = some (.inr (ci, fs)) ∧ sm_pick ci ps = some m) := by
  obtain ⟨i, len, rs⟩ := q
  cases i with
  | invokestatic idx =>
    simp only [sm_step, sm_callS] at hs
    split at hs
    · split at hs
      · split at hs
        · simp [sm_nx] at hs
        · cases hs
      · cases hs
    · split at hs
      · split at hs
        · simp [sm_nx] at hs
        · cases hs
      · cases hs
    · split at hs
      · next k m1 n _ _ =>
        split at hs
        · next as1 r1 ha =>
          simp only [sm_call] at hs
          cases hs
          exact Or.inl ⟨idx, k, n, rfl, rfl, ha⟩
        · cases hs
      · cases hs
  | invokespecial idx =>
    simp only [sm_step, sm_callI] at hs
    split at hs
    · split at hs
      · split at hs
        · simp [sm_nx] at hs
        · cases hs
      · cases hs
    · split at hs
      · next k m1 n _ =>
        split at hs
        · next b as1 r1 ha =>
          simp only [sm_call] at hs
          cases hs
          exact Or.inr (Or.inl ⟨idx, k, n, b, as1, rfl, rfl, ha, rfl⟩)
        · cases hs
      · cases hs
  | invokevirtual idx =>
    simp only [sm_step, sm_callV] at hs
    split at hs
    · next k n ps =>
      split at hs
      · next b as1 r1 ha =>
        split at hs
        · next ci fs hb =>
          split at hs
          · next m1 hp =>
            simp only [sm_call] at hs
            cases hs
            exact Or.inr (Or.inr ⟨idx, k, n, ps, b, as1, ci, fs, rfl, rfl, ha, rfl, hb, hp⟩)
          · cases hs
        · cases hs
      · cases hs
    · cases hs
  | baload =>
    exfalso
    simp only [sm_step] at hs
    split at hs
    · next r0 hr0 =>
      cases hs
      simp only [sm_ald, sm_nx] at hr0
      repeat' split at hr0
      all_goals first | (cases hr0; done) | (simp at hr0; done)
    · simp only [sm_ald, sm_nx] at hs
      repeat' split at hs
      all_goals first | (cases hs; done) | (simp at hs; done)
  | _ =>
    exfalso
    simp only [sm_step, sm_bin, sm_binL, sm_loadK, sm_store1, sm_store2, sm_ald, sm_aldL, sm_ast, sm_astL, sm_getf, sm_putf, sm_newo, sm_newa, sm_if, sm_nx, sm_ret, Option.bind] at hs
    repeat' split at hs
    all_goals first
      | (cases hs; done)
      | (simp at hs; done)
/-! SOUNDNESS: contracts out of runs. -/
/-- a method's name, bytes, kind of answer -/
abbrev sm_Y : Type := MethodName × ByteArray × Option FieldType
def sm_room (d mc ms : Nat) : Room := { frames := d + 2, cells := mc, slots := ms, locals := 64 * d + 64 }
def sm_par (d : String) : Option Nat := (parseMethodDescriptor d).map (fun z => z.parameters.length)
def sm_nmh (c : String) : Prop := c ≠ "java/lang/invoke/MethodHandle" ∧ c ≠ "java/lang/invoke/VarHandle"
/-- what the tables must hold of a call -/
def sm_okC (Ts : List Cond) (oc : (List (Nat × Nat × String × String × String × Value) × List (String × Nat × MethodName × String) × List MethodName)) (cl : List vw_C) (Y : Nat → sm_Y) (own : String) (i : Instr) (rs : List Nat) : Prop := match i, rs with
  | .invokestatic idx, [_, mi, n] => Cond.static (Y mi).1 ∈ Ts ∧ Cond.initialized (Y mi).1.cls ∈ Ts ∧ sm_par (Y mi).1.desc = some n ∧ (Cond.methodLink own idx (Y mi).1 ∈ Ts ∨ ∃ host, (own, idx, (Y mi).1, host) ∈ oc.2.1)
  | .invokespecial idx, [_, mi, n] => (Y mi).1.name = "<init>" ∧ (Y mi).2.2 = none ∧ Cond.instanceMethod (Y mi).1 ∈ Ts ∧ Cond.initialized (Y mi).1.cls ∈ Ts ∧ (∃ k, n = k + 1 ∧ sm_par (Y mi).1.desc = some k) ∧ (Cond.methodLink own idx (Y mi).1 ∈ Ts ∨ ∃ host, (own, idx, (Y mi).1, host) ∈ oc.2.1)
  | .invokevirtual idx, _ :: n :: ps => ∀ ci mi, sm_pick ci ps = some mi → ∃ (C : String), sm_nm cl ci = some C ∧ Cond.instanceMethod (Y mi).1 ∈ Ts ∧ Cond.initialized (Y mi).1.cls ∈ Ts ∧
      ((Cond.methodLink own idx (Y mi).1 ∈ Ts ∧ Cond.selects C (Y mi).1 (Y mi).1 ∈ Ts ∧ sm_par (Y mi).1.desc = some n) ∨
       (∃ host, (own, idx, (Y mi).1, host) ∈ oc.2.1 ∧ Cond.selects C (Y mi).1 (Y mi).1 ∈ Ts ∧ sm_par (Y mi).1.desc = some n) ∨
       (∃ (x : MethodName) (owner : String), Cond.methodLink own idx x ∈ Ts ∧ Cond.sameMethod x.cls owner x.name x.desc ∈ Ts ∧ sm_nmh owner ∧ Cond.selects C x (Y mi).1 ∈ Ts ∧ sm_par x.desc = some n ∧
         ((⟨owner, x.name, x.desc⟩ : MethodName) ∈ oc.2.2 ∨ (Cond.instanceMethod ⟨owner, x.name, x.desc⟩ ∈ Ts ∧ ∃ b m r, Cond.code ⟨owner, x.name, x.desc⟩ b m r ∈ Ts))))
  | _, _ => True
/-- kinds of answers -/
def sm_rk (k : Nat) (ret : Option FieldType) : Prop := (k = 0 ∧ ret = none) ∨ (k = 1 ∧ ret = some .int) ∨ (k = 2 ∧ ret = some .long) ∨ (k = 3 ∧ ((∃ n, ret = some (.object n)) ∨ ∃ n, ret = some (.array n))) ∨ (k = 4 ∧ ret = some .boolean) ∨ (k = 5 ∧ ret = some .char) ∨ (k = 6 ∧ ret = some .byte)
/-- the tables are right of a method -/
def sm_okM (Ts : List Cond) (sx : List (String × Nat × String × Nat)) (zx : List (String × String × String × Nat)) (oc : (List (Nat × Nat × String × String × String × Value) × List (String × Nat × MethodName × String) × List MethodName)) (K : sm_H) (cl : List vw_C) (Y : Nat → sm_Y) (mi : Nat) (M : sm_M) : Prop :=
  Cond.code (Y mi).1 (Y mi).2.1 M.1 (Y mi).2.2 ∈ Ts ∧ plainName (Y mi).1.cls = true ∧ sm_nmh (Y mi).1.cls ∧ M.1 ≤ 45 ∧ sm_rk M.2.1 (Y mi).2.2 ∧
  ∀ (pc : Nat) (q : sm_I), M.2.2[pc]? = some (some q) → decode (Y mi).2.1 pc = .ok (q.1, q.2.1) ∧ sm_lenOk q.1 q.2.1 = true ∧ sm_okI Ts sx zx oc K cl (Y mi).1.cls (Y mi).1.name pc q.1 q.2.2 ∧ sm_okC Ts oc cl Y (Y mi).1.cls q.1 q.2.2
def sm_Good (Ts : List Cond) (sx : List (String × Nat × String × Nat)) (zx : List (String × String × String × Nat)) (oc : (List (Nat × Nat × String × String × String × Value) × List (String × Nat × MethodName × String) × List MethodName)) (K : sm_H) (cl : List vw_C) (Y : Nat → sm_Y) (P : Nat → Option sm_M) : Prop := ∀ mi M, P mi = some M → sm_okM Ts sx zx oc K cl Y mi M
def sm_Pc (D : va_G) (cl : List vw_C) (tys : List (ClassId × FieldType)) (sx : List (String × Nat × String × Nat)) (zx : List (String × String × String × Nat)) (oc : (List (Nat × Nat × String × String × String × Value) × List (String × Nat × MethodName × String) × List MethodName)) (K : sm_H) (N0 : Nat) (cs : Nat → Nat) (as : List Value) (h : sm_H) : Array Value → State → Prop :=
  fun v U => v = (as.map (sm_mv (sm_ad N0 cs))).toArray ∧ sm_P D cl tys N0 cs K h U.heap ∧ va_K D cl tys U ∧ sm_X cl K sx zx oc N0 cs U
def sm_Qc (D : va_G) (cl : List vw_C) (tys : List (ClassId × FieldType)) (N0 : Nat) (cs : Nat → Nat) (K : sm_H) (v : Option Value) (h : sm_H) : Array Value → State → Outcome → State → Prop :=
  fun _ st o t => o = .returned (v.map (sm_mv (sm_ad N0 cs))) ∧ sm_P D cl tys N0 cs K h t.heap ∧ ∀ q, q < N0 → t.heap[q]? = st.heap[q]?
theorem sm_blind {D : va_G} {cl : List vw_C} {tys : List (ClassId × FieldType)} {sx : List (String × Nat × String × Nat)} {zx : List (String × String × String × Nat)} {oc : (List (Nat × Nat × String × String × String × Value) × List (String × Nat × MethodName × String) × List MethodName)} {K : sm_H} {N0 : Nat} {cs : Nat → Nat} {as : List Value} {h : sm_H} : FrameBlind (sm_Pc D cl tys sx zx oc K N0 cs as h) := by
  intro a U g mk q
  obtain ⟨h1, h2, h3, h4⟩ := q
  exact ⟨h1, h2, va_K.moved (u := U) (U := U.calling g mk a) (Vm.Alike.refl U.vm) h3, ⟨fun z hz => vk_R.same rfl (h4.1 z hz), fun z hz => va_Z.moved (u := U) (U := U.calling g mk a) (Vm.Alike.refl U.vm) (h4.2.1 z hz), fun z hz => va_OF.moved (u := U) (U := U.calling g mk a) (Vm.Alike.refl U.vm) (h4.2.2.1 z hz), fun z hz => va_Nw.same rfl rfl (h4.2.2.2.1 z hz), ⟨va_Zq.moved (u := U) (U := U.calling g mk a) (Vm.Alike.refl U.vm) h4.2.2.2.2.1.1, fun z hz => va_Nw.same rfl rfl (h4.2.2.2.2.1.2 z hz)⟩, sm_OA.moved (u := U) (U := U.calling g mk a) h4.2.2.2.2.2 (Vm.Alike.refl U.vm) (fun _ _ => rfl)⟩⟩
/-- what was there before is there at a call -/
theorem sm_X.at_ {cl : List vw_C} {K : sm_H} {sx : List (String × Nat × String × Nat)} {zx : List (String × String × String × Nat)} {oc : (List (Nat × Nat × String × String × String × Value) × List (String × Nat × MethodName × String) × List MethodName)} {N0 : Nat} {cs : Nat → Nat} {s U : State} (hX : sm_X cl K sx zx oc N0 cs s) (hW : s.WarmedH U.vm) (hF : ∀ q, q < N0 → U.heap[q]? = s.heap[q]?) : sm_X cl K sx zx oc N0 cs U :=
  ⟨fun z hz => vk_R.warm hW (hX.1 z hz), fun z hz => va_Z.moved hW.alike ((hX.2.1 z hz).kept (fun a _ h2 => hF a (Nat.not_le.mp h2))), fun z hz => va_OF.moved hW.alike ((hX.2.2.1 z hz).kept (fun a _ h2 => hF a (Nat.not_le.mp h2))), fun z hz => va_Nw.warmM hW (hX.2.2.2.1 z hz), ⟨va_Zq.moved hW.alike (va_Zq.kept hX.2.2.2.2.1.1 (fun a _ h2 => hF a (Nat.not_le.mp h2))), fun z hz => va_Nw.warmD hW (hX.2.2.2.2.1.2 z hz)⟩, sm_OA.moved hX.2.2.2.2.2 hW.alike hF⟩
section SMS
variable {p : Program} {l : Launch} {e : Env} {R : Room} {s : State} {m : MethodId} {args : Array Value} {below : List Frame} {meth : Method} {c : Code} {H : Heap} {locs : List Loc} {cells slots : Nat} {Q : State → Prop}
variable {D : va_G} {cl : List vw_C} {tys : List (ClassId × FieldType)} {N0 : Nat} {cs : Nat → Nat} {K h1 : sm_H} {pc : Nat} {LS : Array Slot} {rest st0 : List Value} {mc ms : Nat} {a : Array Value} {v : Option Value}
/-- behind a call -/
theorem sm_after (hr : va_Run p l e R s m args below meth c H locs cells slots mc ms (F0 m pc LS st0) rest (sm_Qc D cl tys N0 cs K v h1 a) (fun q => N0 ≤ q)) (hlocs : ∀ x ∈ locs, N0 ≤ x.base)
    (kk : ∀ (H1 : Heap) (locs1 : List Loc), sm_P D cl tys N0 cs K h1 H1 → (∀ q, q < N0 → H1[q]? = H[q]?) → (∀ x ∈ locs1, N0 ≤ x.base) → W p l e R s m args below meth c H1 locs1 (cells + mc) (slots + ms) Q (F0 m (pc + 3) LS ((v.map (sm_mv (sm_ad N0 cs))).toList ++ rest))) :
    W p l e R s m args below meth c H locs cells slots Q (F0 m pc LS st0) := by
  intro T hT X
  obtain ⟨v', st₀, t, T', L, h0, X', hL, e1, e2, ⟨hv, hp, hk⟩, st⟩ := hr T hT X
  cases hv
  rw [h0] at hk
  rw [← e1] at hp hk
  obtain ⟨t2, a1, b1⟩ := kk T'.heap (locs ++ L) hp hk (fun x hx => (List.mem_append.mp hx).elim (hlocs x) (hL x)) T' rfl X'
  exact ⟨t2, st t2 a1, b1⟩
end SMS
