/-! A CELL THAT NOBODY CAN READ: a run does not depend on it -/
def st_d : sm_E := .inl (99, 0, .inl (fun _ => 0))
def st_heapI (i : Instr) : Bool := match i with
  | .iaload | .caload | .baload | .laload | .iastore | .castore | .bastore | .lastore | .arraylength | .getfield _ | .putfield _ | .new _ | .newarray _ | .invokevirtual _ => true
  | _ => false
section STC
variable {pc : Nat} {ls : sm_L} {st : List Value} {h : sm_H} {e : sm_E}
set_option maxHeartbeats 4000000 in
theorem st_any {q : sm_I} {r : sm_R} (hn : st_heapI q.1 = false) (hs : sm_step q pc ls st h = some r) (h2 : sm_H) : (∀ pc' ls' st' h1, r = .inl (pc', ls', st', h1) → h1 = h ∧ sm_step q pc ls st h2 = some (.inl (pc', ls', st', h2))) ∧ (∀ x, r = .inr x → sm_step q pc ls st h2 = some (.inr x)) := by
  obtain ⟨i, len, rs⟩ := q
  cases i <;> first
    | (simp [st_heapI] at hn; done)
    | (simp only [sm_step, sm_bin, sm_binL, sm_loadK, sm_store1, sm_store2, sm_if, sm_nx, sm_ret, sm_callS, sm_callI, sm_call, Option.bind] at hs ⊢
       repeat' split at hs
       all_goals first
         | (cases hs; done)
         | (cases hs; refine ⟨fun _ _ _ _ z => ?_, fun _ z => ?_⟩ <;> first | (cases z; done) | (cases z; simp_all; done) | (cases z; simp_all; intro z2; first | omega | (exact absurd z2 (Int32.not_lt.mpr (by assumption))))))
theorem st_ne {a : Nat} {x : sm_E} (h0 : h[0]? = some st_d) (ha : h[a]? = some x) (hx : x ≠ st_d) : (h.set 0 e)[a]? = some x := by
  have : (0 : Nat) ≠ a := fun z => by
    subst z
    rw [h0] at ha
    cases ha
    exact hx rfl
  rw [List.getElem?_set_ne this]
  exact ha
theorem st_set {a : Nat} {x y : sm_E} (h0 : h[0]? = some st_d) (ha : h[a]? = some x) (hx : x ≠ st_d) : (h.set 0 e).set a y = (h.set a y).set 0 e ∧ (h.set a y)[0]? = some st_d := by
  have : a ≠ 0 := fun z => by
    subst z
    rw [h0] at ha
    cases ha
    exact hx rfl
  exact ⟨List.set_comm _ _ (Ne.symm this), by rw [List.getElem?_set_ne this]; exact h0⟩
theorem st_arr {t n : Nat} {c : (Nat → Int32) ⊕ (Nat → Int64) ⊕ (Nat → UInt32) ⊕ (Nat → UInt64) ⊕ (Nat → Option Nat)} (ht : t ≠ 99) : (.inl (t, n, c) : sm_E) ≠ st_d := fun z => by
  cases z
  exact ht rfl
theorem st_obj {ci : Nat} {fs : List Value} : (.inr (ci, fs) : sm_E) ≠ st_d := fun z => by cases z
theorem st_ald {t : Nat} {r : sm_R} (ht : t ≠ 99) (h0 : h[0]? = some st_d) (hs : sm_ald t pc ls st h = some r) : ∃ v s, r = .inl (pc + 1, ls, v :: s, h) ∧ sm_ald t pc ls st (h.set 0 e) = some (.inl (pc + 1, ls, v :: s, h.set 0 e)) := by
  unfold sm_ald at hs
  split at hs
  · split at hs
    · next i a r t' n f ha =>
      split at hs
      · next hc =>
        cases hs
        refine ⟨_, _, rfl, ?_⟩
        simp only [sm_ald]
        rw [st_ne h0 ha (st_arr (by rw [hc.1]; exact ht))]
        dsimp only
        rw [if_pos hc]
        rfl
      · cases hs
    · cases hs
  · cases hs
theorem st_ast {t : Nat} {g : Int32 → Int32} {r : sm_R} (ht : t ≠ 99) (h0 : h[0]? = some st_d) (hs : sm_ast t g pc ls st h = some r) : ∃ s h', r = .inl (pc + 1, ls, s, h') ∧ h'[0]? = some st_d ∧ sm_ast t g pc ls st (h.set 0 e) = some (.inl (pc + 1, ls, s, h'.set 0 e)) := by
  unfold sm_ast at hs
  split at hs
  · split at hs
    · next x i a r t' n f ha =>
      split at hs
      · next hc =>
        cases hs
        have hne := st_arr (n := n) (c := .inl f) (show t' ≠ 99 by rw [hc.1]; exact ht)
        refine ⟨_, _, rfl, (st_set (e := e) h0 ha hne).2, ?_⟩
        simp only [sm_ast]
        rw [st_ne h0 ha hne]
        dsimp only
        rw [if_pos hc, (st_set h0 ha hne).1]
        rfl
      · cases hs
    · cases hs
  · cases hs
set_option maxHeartbeats 4000000 in
theorem st_step {q : sm_I} {r : sm_R} (h0 : h[0]? = some st_d) (hs : sm_step q pc ls st h = some r) : (∃ pc' ls' st' h', r = .inl (pc', ls', st', h') ∧ h'[0]? = some st_d ∧ sm_step q pc ls st (h.set 0 e) = some (.inl (pc', ls', st', h'.set 0 e))) ∨ (∃ x, r = .inr x ∧ sm_step q pc ls st (h.set 0 e) = some (.inr x)) := by
  cases hn : st_heapI q.1 with
  | false =>
    obtain ⟨k1, k2⟩ := st_any hn hs (h.set 0 e)
    rcases r with ⟨pc', ls', st', h1⟩ | x
    · obtain ⟨rfl, k⟩ := k1 _ _ _ _ rfl
      exact Or.inl ⟨_, _, _, _, rfl, h0, k⟩
    · exact Or.inr ⟨x, rfl, k2 x rfl⟩
  | true =>
    obtain ⟨i, len, rs⟩ := q
    cases i with
    | iaload => obtain ⟨v, s, rfl, k⟩ := st_ald (e := e) (by decide) h0 hs; exact Or.inl ⟨_, _, _, _, rfl, h0, k⟩
    | caload => obtain ⟨v, s, rfl, k⟩ := st_ald (e := e) (by decide) h0 hs; exact Or.inl ⟨_, _, _, _, rfl, h0, k⟩
    | baload =>
      simp only [sm_step] at hs
      split at hs
      · next r0 hr0 =>
        cases hs
        obtain ⟨v, s, rfl, k⟩ := st_ald (e := e) (by decide) h0 hr0
        exact Or.inl ⟨_, _, _, _, rfl, h0, by simp only [sm_step]; rw [k]⟩
      · obtain ⟨v, s, rfl, k⟩ := st_ald (e := e) (by decide) h0 hs
        exact Or.inl ⟨_, _, _, _, rfl, h0, by simp only [sm_step]; rw [ab_ald34 k]; exact k⟩
    | iastore => obtain ⟨s, h', rfl, g, k⟩ := st_ast (e := e) (by decide) h0 hs; exact Or.inl ⟨_, _, _, _, rfl, g, k⟩
    | castore => obtain ⟨s, h', rfl, g, k⟩ := st_ast (e := e) (by decide) h0 hs; exact Or.inl ⟨_, _, _, _, rfl, g, k⟩
    | bastore => obtain ⟨s, h', rfl, g, k⟩ := st_ast (e := e) (by decide) h0 hs; exact Or.inl ⟨_, _, _, _, rfl, g, k⟩
    | laload =>
      simp only [sm_step, sm_aldL] at hs
      split at hs
      · split at hs
        · next i a r t' n f ha =>
          split at hs
          · next hc =>
            cases hs
            refine Or.inl ⟨_, _, _, _, rfl, h0, ?_⟩
            simp only [sm_step, sm_aldL]
            rw [st_ne h0 ha (st_arr (by rw [hc.1]; decide))]
            dsimp only
            rw [if_pos hc]
            rfl
          · cases hs
        · cases hs
      · cases hs
    | lastore =>
      simp only [sm_step, sm_astL] at hs
      split at hs
      · split at hs
        · next x i a r t' n f ha =>
          split at hs
          · next hc =>
            cases hs
            have hne := st_arr (n := n) (c := .inr (.inl f)) (show t' ≠ 99 by rw [hc.1]; decide)
            refine Or.inl ⟨_, _, _, _, rfl, (st_set (e := e) h0 ha hne).2, ?_⟩
            simp only [sm_step, sm_astL]
            rw [st_ne h0 ha hne]
            dsimp only
            rw [if_pos hc, (st_set h0 ha hne).1]
            rfl
          · cases hs
        · cases hs
      · cases hs
    | arraylength =>
      simp only [sm_step] at hs
      split at hs
      · split at hs
        · next a r t n c ha =>
          split at hs
          · next hc =>
            cases hs
            refine Or.inl ⟨_, _, _, _, rfl, h0, ?_⟩
            simp only [sm_step]
            rw [st_ne h0 ha (st_arr (fun z => by subst z; cases hc))]
            dsimp only
            rw [if_pos hc]
            rfl
          · cases hs
        · cases hs
      · cases hs
    | getfield n =>
      simp only [sm_step, sm_getf] at hs
      split at hs
      · split at hs
        · next a r k z cs ci fs ha =>
          split at hs
          · next hc =>
            split at hs
            · next v hv =>
              cases hs
              refine Or.inl ⟨_, _, _, _, rfl, h0, ?_⟩
              simp only [sm_step, sm_getf]
              rw [st_ne h0 ha st_obj]
              dsimp only
              rw [if_pos hc, hv]
              rfl
            · cases hs
          · cases hs
        · cases hs
      · cases hs
    | putfield n =>
      simp only [sm_step, sm_putf] at hs
      split at hs
      · split at hs
        · next v a r k t fin cs ci fs ha =>
          split at hs
          · next hc =>
            cases hs
            refine Or.inl ⟨_, _, _, _, rfl, (st_set (e := e) h0 ha st_obj).2, ?_⟩
            simp only [sm_step, sm_putf]
            rw [st_ne h0 ha st_obj]
            dsimp only
            rw [if_pos hc, (st_set h0 ha st_obj).1]
            rfl
          · cases hs
        · cases hs
      · cases hs
    | new n =>
      have hl : 0 < h.length := (List.getElem?_eq_some_iff.mp h0).1
      simp only [sm_step, sm_newo] at hs
      split at hs
      · split at hs
        · cases hs
        · next hc =>
          cases hs
          refine Or.inl ⟨_, _, _, _, rfl, by rw [List.getElem?_append_left hl]; exact h0, ?_⟩
          simp only [sm_step, sm_newo]
          rw [if_neg hc, List.length_set, List.set_append_left _ _ hl]
          rfl
      · cases hs
    | newarray n =>
      have hl : 0 < h.length := (List.getElem?_eq_some_iff.mp h0).1
      simp only [sm_step, sm_newa] at hs
      split at hs
      · split at hs
        · next hc =>
          cases hs
          refine Or.inl ⟨_, _, _, _, rfl, by rw [List.getElem?_append_left hl]; exact h0, ?_⟩
          simp only [sm_step, sm_newa]
          rw [if_pos hc, List.length_set, List.set_append_left _ _ hl]
          rfl
        · cases hs
      · cases hs
    | invokevirtual n =>
      simp only [sm_step, sm_callV] at hs
      split at hs
      · split at hs
        · next a as r1 hargs =>
          split at hs
          · next ci fs ha =>
            split at hs
            · next m hp =>
              simp only [sm_call] at hs
              cases hs
              refine Or.inr ⟨_, rfl, ?_⟩
              simp only [sm_step, sm_callV]
              rw [hargs]
              dsimp only
              rw [st_ne h0 ha st_obj]
              dsimp only
              rw [hp]
              rfl
            · cases hs
          · cases hs
        · cases hs
      · cases hs
    | _ => simp [st_heapI] at hn
theorem st_run {P : Nat → Option sm_M} : ∀ (n d m pc : Nat) (ls : sm_L) (st : List Value) (h : sm_H) (v : Option Value) (h' : sm_H), h[0]? = some st_d → sm_run P n d m pc ls st h = some (v, h') → h'[0]? = some st_d ∧ sm_run P n d m pc ls st (h.set 0 e) = some (v, h'.set 0 e) := by
  intro n
  induction n with
  | zero => intro d m pc ls st h v h' _ hr; simp [sm_run] at hr
  | succ n ih =>
    intro d m pc ls st h v h' h0 hr
    simp only [sm_run] at hr ⊢
    cases hP : P m with
    | none => rw [hP] at hr; cases hr
    | some M =>
      obtain ⟨a, k, tab⟩ := M
      rw [hP] at hr
      dsimp only at hr ⊢
      cases hq : tab[pc]? with
      | none => rw [hq] at hr; cases hr
      | some o =>
        cases o with
        | none => rw [hq] at hr; cases hr
        | some q =>
          rw [hq] at hr
          dsimp only at hr ⊢
          cases hs : sm_step q pc ls st h with
          | none => rw [hs] at hr; cases hr
          | some R =>
            rw [hs] at hr
            rcases st_step (e := e) h0 hs with ⟨pc1, ls1, st1, h1, rfl, g1, g2⟩ | ⟨x, rfl, g2⟩
            · rw [g2]
              exact ih _ _ _ _ _ _ _ _ g1 hr
            · rw [g2]
              rcases x with v1 | ⟨m1, as, r1⟩
              · dsimp only at hr ⊢
                split at hr
                · next hk =>
                  cases hr
                  rw [if_pos hk]
                  exact ⟨h0, rfl⟩
                · cases hr
              · dsimp only at hr ⊢
                cases d with
                | zero => cases hr
                | succ d0 =>
                  (try dsimp only at hr ⊢)
                  cases hP1 : P m1 with
                  | none => rw [hP1] at hr; cases hr
                  | some M1 =>
                    obtain ⟨nl, k1, t1⟩ := M1
                    rw [hP1] at hr
                    dsimp only at hr ⊢
                    split at hr
                    · next hc =>
                      rw [if_pos hc]
                      cases hcall : sm_run P n d0 m1 0 (sm_entry nl as) [] h with
                      | none => rw [hcall] at hr; cases hr
                      | some vr =>
                        obtain ⟨v1, h1⟩ := vr
                        rw [hcall] at hr
                        obtain ⟨k1, k2⟩ := ih _ _ _ _ _ _ _ _ h0 hcall
                        rw [k2]
                        exact ih _ _ _ _ _ _ _ _ k1 hr
                    · cases hr
end STC
