/-! A RUN of the small machine is a run of the JVM -/
theorem sm_step_mono {q : sm_I} {pc pc' : Nat} {ls ls' : sm_L} {st st' : List Value} {h h' : sm_H} (hs : sm_step q pc ls st h = some (.inl (pc', ls', st', h'))) : h.length ≤ h'.length ∧ sm_sl h ≤ sm_sl h' := by
  have k0 : h' = h → h.length ≤ h'.length ∧ sm_sl h ≤ sm_sl h' := fun z => by subst z; exact ⟨Nat.le_refl _, Nat.le_refl _⟩
  obtain ⟨i, len, rs⟩ := q
  cases i with
  | iastore =>
    obtain ⟨x, i, a, n, f, rfl, ha, hi, hC, rfl, rfl, rfl⟩ := sm_ast_inv hs
    exact ⟨by rw [List.length_set]; exact Nat.le_refl _, Nat.le_of_eq (sm_sl_set (by simp [sm_sz]) h a ha).symm⟩
  | castore =>
    obtain ⟨x, i, a, n, f, rfl, ha, hi, hC, rfl, rfl, rfl⟩ := sm_ast_inv hs
    exact ⟨by rw [List.length_set]; exact Nat.le_refl _, Nat.le_of_eq (sm_sl_set (by simp [sm_sz]) h a ha).symm⟩
  | bastore =>
    obtain ⟨x, i, a, n, f, rfl, ha, hi, hC, rfl, rfl, rfl⟩ := sm_ast_inv hs
    exact ⟨by rw [List.length_set]; exact Nat.le_refl _, Nat.le_of_eq (sm_sl_set (by simp [sm_sz]) h a ha).symm⟩
  | lastore =>
    simp only [sm_step, sm_astL] at hs
    split at hs
    · split at hs
      · next ha =>
        split at hs
        · obtain ⟨rfl, rfl, rfl, rfl⟩ := sm_nx_inv hs
          exact ⟨by rw [List.length_set]; exact Nat.le_refl _, Nat.le_of_eq (sm_sl_set (by simp [sm_sz]) h _ ha).symm⟩
        · cases hs
      · cases hs
    · cases hs
  | putfield idx =>
    simp only [sm_step, sm_putf] at hs
    split at hs
    · split at hs
      · next ha =>
        split at hs
        · obtain ⟨rfl, rfl, rfl, rfl⟩ := sm_nx_inv hs
          exact ⟨by rw [List.length_set]; exact Nat.le_refl _, Nat.le_of_eq (sm_sl_set (by simp [sm_sz]) h _ ha).symm⟩
        · cases hs
      · cases hs
    · cases hs
  | new idx =>
    simp only [sm_step, sm_newo] at hs
    split at hs
    · split at hs
      · cases hs
      · obtain ⟨rfl, rfl, rfl, rfl⟩ := sm_nx_inv hs
        exact ⟨by simp, by rw [sm_sl_app]; exact Nat.le_add_right _ _⟩
    · cases hs
  | baload =>
    simp only [sm_step] at hs
    split at hs
    · next r0 hr0 =>
      cases hs
      obtain ⟨i, a, n, f, r, rfl, ha, hi, rfl, rfl, rfl, rfl⟩ := sm_ald_inv hr0
      exact ⟨Nat.le_refl _, Nat.le_refl _⟩
    · obtain ⟨i, a, n, f, r, rfl, ha, hi, rfl, rfl, rfl, rfl⟩ := sm_ald_inv hs
      exact ⟨Nat.le_refl _, Nat.le_refl _⟩
  | newarray idx =>
    simp only [sm_step, sm_newa] at hs
    split at hs
    · split at hs
      · obtain ⟨rfl, rfl, rfl, rfl⟩ := sm_nx_inv hs
        exact ⟨by simp, by rw [sm_sl_app]; exact Nat.le_add_right _ _⟩
      · cases hs
    · cases hs
  | _ =>
    refine k0 ?_
    simp only [sm_step, sm_bin, sm_binL, sm_loadK, sm_store1, sm_store2, sm_ald, sm_aldL, sm_getf, sm_callS, sm_callI, sm_callV, sm_if, sm_nx, sm_ret, sm_call, Option.bind] at hs
    repeat' split at hs
    all_goals first
      | (cases hs; done)
      | (simp at hs; exact hs.2.2.2.symm)
      | (simp at hs; done)
      | (cases hs; rfl)
theorem sm_run_mono {P : Nat → Option sm_M} : ∀ (n d m pc : Nat) (ls : sm_L) (st : List Value) (h : sm_H) (v : Option Value) (h' : sm_H), sm_run P n d m pc ls st h = some (v, h') → h.length ≤ h'.length ∧ sm_sl h ≤ sm_sl h' := by
  intro n
  induction n with
  | zero => intro d m pc ls st h v h' hr; simp [sm_run] at hr
  | succ n ih =>
    intro d m pc ls st h v h' hr
    unfold sm_run at hr
    split at hr
    · cases hr
    · next k tab hP =>
      split at hr
      · next q hq =>
        split at hr
        · next pc1 ls1 st1 h1 hs =>
          have h1 := sm_step_mono hs
          have h2 := ih _ _ _ _ _ _ _ _ hr
          exact ⟨Nat.le_trans h1.1 h2.1, Nat.le_trans h1.2 h2.2⟩
        · split at hr
          · cases hr; exact ⟨Nat.le_refl _, Nat.le_refl _⟩
          · cases hr
        · split at hr
          · split at hr
            · split at hr
              · next v1 h1 hc =>
                have g1 := ih _ _ _ _ _ _ _ _ hc
                have g2 := ih _ _ _ _ _ _ _ _ hr
                exact ⟨Nat.le_trans g1.1 g2.1, Nat.le_trans g1.2 g2.2⟩
              · cases hr
            · cases hr
          · cases hr
        · cases hr
      · cases hr
theorem sm_step_len {q : sm_I} {pc pc' : Nat} {ls ls' : sm_L} {st st' : List Value} {h h' : sm_H} (hs : sm_step q pc ls st h = some (.inl (pc', ls', st', h'))) : ls'.length = ls.length := by
  have k1 : ∀ {i : Nat} {v : Value} {l2 : sm_L}, sm_put1 ls i v = some l2 → l2.length = ls.length := fun hp => by
    obtain ⟨-, rfl⟩ := sm_put1_len hp
    rw [List.length_set, sm_kill_len]
  have k2 : ∀ {i : Nat} {v : Value} {l2 : sm_L}, sm_put2 ls i v = some l2 → l2.length = ls.length := fun hp => by
    obtain ⟨-, rfl⟩ := sm_put2_len hp
    rw [List.length_set, List.length_set, sm_kill_len]
  obtain ⟨i, len, rs⟩ := q
  cases i with
  | istore k => obtain ⟨v, rfl, hk, hp, rfl, rfl⟩ := sm_store1_inv hs; exact k1 hp
  | istore_n k => obtain ⟨v, rfl, hk, hp, rfl, rfl⟩ := sm_store1_inv hs; exact k1 hp
  | astore k => obtain ⟨v, rfl, hk, hp, rfl, rfl⟩ := sm_store1_inv hs; exact k1 hp
  | astore_n k => obtain ⟨v, rfl, hk, hp, rfl, rfl⟩ := sm_store1_inv hs; exact k1 hp
  | lstore k => obtain ⟨v, rfl, hp, rfl, rfl⟩ := sm_store2_inv hs; exact k2 hp
  | lstore_n k => obtain ⟨v, rfl, hp, rfl, rfl⟩ := sm_store2_inv hs; exact k2 hp
  | iinc k n =>
    simp only [sm_step] at hs
    split at hs
    · next x hx =>
      cases hp : sm_put1 ls k (.int (x + Int32.ofInt n)) with
      | none => rw [hp] at hs; cases hs
      | some l2 =>
        rw [hp] at hs
        obtain ⟨rfl, rfl, rfl, rfl⟩ := sm_nx_inv hs
        exact k1 hp
    · cases hs
  | baload =>
    simp only [sm_step] at hs
    split at hs
    · next r0 hr0 =>
      cases hs
      obtain ⟨i, a, n, f, r, rfl, ha, hi, rfl, rfl, rfl, rfl⟩ := sm_ald_inv hr0
      rfl
    · obtain ⟨i, a, n, f, r, rfl, ha, hi, rfl, rfl, rfl, rfl⟩ := sm_ald_inv hs
      rfl
  | _ =>
    refine congrArg List.length (?_ : ls' = ls)
    simp only [sm_step, sm_bin, sm_binL, sm_loadK, sm_ald, sm_aldL, sm_ast, sm_astL, sm_getf, sm_putf, sm_newo, sm_newa, sm_callS, sm_callI, sm_callV, sm_if, sm_nx, sm_ret, sm_call] at hs
    repeat' split at hs
    all_goals first
      | (cases hs; done)
      | (simp at hs; exact hs.2.1.symm)
      | (simp at hs; done)
      | (cases hs; rfl)
theorem sm_ret_inv {q : sm_I} {pc : Nat} {ls : sm_L} {st : List Value} {h : sm_H} {v : Option Value} (hs : sm_step q pc ls st h = some (.inr (.inl v))) :
    (q.1 = .ireturn ∧ ∃ x, st = [.int x] ∧ v = some (.int x)) ∨ (q.1 = .lreturn ∧ ∃ x, st = [.long x] ∧ v = some (.long x)) ∨ (q.1 = .areturn ∧ ∃ x, st = [.ref x] ∧ v = some (.ref x)) ∨ (q.1 = .return_ ∧ st = [] ∧ v = none) := by
  obtain ⟨i, len, rs⟩ := q
  cases i with
  | ireturn =>
    simp only [sm_step, sm_ret] at hs
    split at hs
    · next x => cases hs; exact Or.inl ⟨rfl, x, rfl, rfl⟩
    · cases hs
  | lreturn =>
    simp only [sm_step, sm_ret] at hs
    split at hs
    · next x => cases hs; exact Or.inr (Or.inl ⟨rfl, x, rfl, rfl⟩)
    · cases hs
  | areturn =>
    simp only [sm_step, sm_ret] at hs
    split at hs
    · next x => cases hs; exact Or.inr (Or.inr (Or.inl ⟨rfl, x, rfl, rfl⟩))
    · cases hs
  | return_ =>
    simp only [sm_step, sm_ret] at hs
    split at hs
    · cases hs; exact Or.inr (Or.inr (Or.inr ⟨rfl, rfl, rfl⟩))
    · cases hs
  | baload =>
    exfalso
    simp only [sm_step] at hs
    split at hs
    · next r0 hr0 =>
      cases hs
      simp only [sm_ald, sm_nx] at hr0
      repeat' split at hr0
      all_goals first | (cases hr0; done) | (simp at hr0; done)
    · simp only [sm_ald, sm_nx] at hs
      repeat' split at hs
      all_goals first | (cases hs; done) | (simp at hs; done)
  | _ =>
    exfalso
    simp only [sm_step, sm_bin, sm_binL, sm_loadK, sm_store1, sm_store2, sm_ald, sm_aldL, sm_ast, sm_astL, sm_getf, sm_putf, sm_newo, sm_newa, sm_callS, sm_callI, sm_callV, sm_if, sm_nx, sm_call, Option.bind] at hs
    repeat' split at hs
    all_goals first
      | (cases hs; done)
      | (simp at hs; done)
theorem sm_args_inv {n : Nat} {st as r : List Value} (h : sm_args n st = some (as, r)) : st = as.reverse ++ r ∧ as.length = n := by
  unfold sm_args at h
  split at h
  · next hl =>
    cases h
    refine ⟨by rw [List.reverse_reverse, List.take_append_drop], by simp; omega⟩
  · cases h
theorem sm_call_inv {q : sm_I} {pc : Nat} {ls : sm_L} {st : List Value} {h : sm_H} {m : Nat} {as r : List Value} (hs : sm_step q pc ls st h = some (.inr (.inr (m, as, r)))) :
    (∃ idx k n, q.1 = .invokestatic idx ∧ q.2.2 = [k, m, n] ∧ sm_args n st = some (as, r)) ∨ (∃ idx k n b bs, q.1 = .invokespecial idx ∧ q.2.2 = [k, m, n] ∧ sm_args n st = some (as, r) ∧ as = .ref b :: bs) ∨
    (∃ idx k n ps b bs ci fs, q.1 = .invokevirtual idx ∧ q.2.2 = k :: n :: ps ∧ sm_args (n + 1) st = some (as, r) ∧ as = .ref b :: bs ∧ h[b]? = some (.inr (ci, fs)) ∧ sm_pick ci ps = some m) := by
  obtain ⟨i, len, rs⟩ := q
  cases i with
  | invokestatic idx =>
    simp only [sm_step, sm_callS] at hs
    split at hs
    · split at hs
      · split at hs
        · simp [sm_nx] at hs
        · cases hs
      · cases hs
    · split at hs
      · split at hs
        · simp [sm_nx] at hs
        · cases hs
      · cases hs
    · split at hs
      · next k m1 n _ _ =>
        split at hs
        · next as1 r1 ha =>
          simp only [sm_call] at hs
          cases hs
          exact Or.inl ⟨idx, k, n, rfl, rfl, ha⟩
        · cases hs
      · cases hs
  | invokespecial idx =>
    simp only [sm_step, sm_callI] at hs
    split at hs
    · split at hs
      · split at hs
        · simp [sm_nx] at hs
        · cases hs
      · cases hs
    · split at hs
      · next k m1 n _ =>
        split at hs
        · next b as1 r1 ha =>
          simp only [sm_call] at hs
          cases hs
          exact Or.inr (Or.inl ⟨idx, k, n, b, as1, rfl, rfl, ha, rfl⟩)
        · cases hs
      · cases hs
  | invokevirtual idx =>
    simp only [sm_step, sm_callV] at hs
    split at hs
    · next k n ps =>
      split at hs
      · next b as1 r1 ha =>
        split at hs
        · next ci fs hb =>
          split at hs
          · next m1 hp =>
            simp only [sm_call] at hs
            cases hs
            exact Or.inr (Or.inr ⟨idx, k, n, ps, b, as1, ci, fs, rfl, rfl, ha, rfl, hb, hp⟩)
          · cases hs
        · cases hs
      · cases hs
    · cases hs
  | baload =>
    exfalso
    simp only [sm_step] at hs
    split at hs
    · next r0 hr0 =>
      cases hs
      simp only [sm_ald, sm_nx] at hr0
      repeat' split at hr0
      all_goals first | (cases hr0; done) | (simp at hr0; done)
    · simp only [sm_ald, sm_nx] at hs
      repeat' split at hs
      all_goals first | (cases hs; done) | (simp at hs; done)
  | _ =>
    exfalso
    simp only [sm_step, sm_bin, sm_binL, sm_loadK, sm_store1, sm_store2, sm_ald, sm_aldL, sm_ast, sm_astL, sm_getf, sm_putf, sm_newo, sm_newa, sm_if, sm_nx, sm_ret, Option.bind] at hs
    repeat' split at hs
    all_goals first
      | (cases hs; done)
      | (simp at hs; done)
