/-! ENDS: a run of the small machine that comes to its end; more steps and more depth do no harm -/
theorem sm_run_more {P : Nat → Option sm_M} : ∀ (n d m pc : Nat) (ls : sm_L) (st : List Value) (h : sm_H) (r : Option Value × sm_H), sm_run P n d m pc ls st h = some r → ∀ n' d', n ≤ n' → d ≤ d' → sm_run P n' d' m pc ls st h = some r := by
  intro n
  induction n with
  | zero => intro d m pc ls st h r hr; simp [sm_run] at hr
  | succ n ih =>
    intro d m pc ls st h r hr n' d' hn hd
    obtain ⟨n1, rfl⟩ : ∃ k, n' = k + 1 := ⟨n' - 1, by omega⟩
    simp only [sm_run] at hr ⊢
    cases hP : P m with
    | none => rw [hP] at hr; cases hr
    | some M =>
      obtain ⟨a, k, tab⟩ := M
      rw [hP] at hr
      dsimp only at hr ⊢
      cases hq : tab[pc]? with
      | none => rw [hq] at hr; cases hr
      | some o =>
        cases o with
        | none => rw [hq] at hr; cases hr
        | some q =>
          rw [hq] at hr
          dsimp only at hr ⊢
          cases hs : sm_step q pc ls st h with
          | none => rw [hs] at hr; cases hr
          | some R =>
            rw [hs] at hr
            rcases R with ⟨pc1, ls1, st1, h1⟩ | v | ⟨m1, as, r1⟩
            · exact ih _ _ _ _ _ _ _ hr _ _ (by omega) hd
            · exact hr
            · dsimp only at hr ⊢
              cases d with
              | zero => cases hr
              | succ d0 =>
                obtain ⟨d1, rfl⟩ : ∃ k, d' = k + 1 := ⟨d' - 1, by omega⟩
                try dsimp only at hr ⊢
                cases hP1 : P m1 with
                | none => rw [hP1] at hr; cases hr
                | some M1 =>
                  obtain ⟨nl, k1, t1⟩ := M1
                  rw [hP1] at hr
                  dsimp only at hr ⊢
                  split at hr
                  · next hc =>
                    rw [if_pos hc]
                    cases hcall : sm_run P n d0 m1 0 (sm_entry nl as) [] h with
                    | none => rw [hcall] at hr; cases hr
                    | some vr =>
                      obtain ⟨v1, h1⟩ := vr
                      rw [hcall] at hr
                      rw [ih _ _ _ _ _ _ _ hcall n1 d1 (by omega) (by omega)]
                      exact ih _ _ _ _ _ _ _ hr _ _ (by omega) (by omega)
                  · cases hr
/-- a run from here ends with Q -/
def ab_Ends (P : Nat → Option sm_M) (d m pc : Nat) (ls : sm_L) (st : List Value) (h : sm_H) (Q : Option Value → sm_H → Prop) : Prop := ∃ (n : Nat) (v : Option Value) (h' : sm_H), sm_run P n d m pc ls st h = some (v, h') ∧ Q v h'
section ABE
variable {P : Nat → Option sm_M} {d m pc : Nat} {ls : sm_L} {st : List Value} {h : sm_H} {Q Q' : Option Value → sm_H → Prop} {M M' : sm_M} {q : sm_I}
theorem ab_Ends.imp (k : ab_Ends P d m pc ls st h Q) (hQ : ∀ v h', Q v h' → Q' v h') : ab_Ends P d m pc ls st h Q' := by
  obtain ⟨n, v, h', hr, hq⟩ := k
  exact ⟨n, v, h', hr, hQ v h' hq⟩
theorem ab_Ends.deep {d' : Nat} (k : ab_Ends P d m pc ls st h Q) (hd : d ≤ d') : ab_Ends P d' m pc ls st h Q := by
  obtain ⟨n, v, h', hr, hq⟩ := k
  exact ⟨n, v, h', sm_run_more _ _ _ _ _ _ _ _ hr n d' (Nat.le_refl _) hd, hq⟩
theorem ab_Ends.step {pc' : Nat} {ls' : sm_L} {st' : List Value} {h' : sm_H} (hM : P m = some M) (hq : M.2.2[pc]? = some (some q)) (hs : sm_step q pc ls st h = some (.inl (pc', ls', st', h'))) (k : ab_Ends P d m pc' ls' st' h' Q) : ab_Ends P d m pc ls st h Q := by
  obtain ⟨n, v, h2, hr, hQ⟩ := k
  obtain ⟨a, b, tab⟩ := M
  dsimp only at hq
  refine ⟨n + 1, v, h2, ?_, hQ⟩
  simp only [sm_run, hM, hq, hs]
  exact hr
theorem ab_Ends.ret {v : Option Value} (hM : P m = some M) (hq : M.2.2[pc]? = some (some q)) (hs : sm_step q pc ls st h = some (.inr (.inl v))) (hk : sm_okret M.2.1 v = true) (hQ : Q v h) : ab_Ends P d m pc ls st h Q := by
  obtain ⟨a, b, tab⟩ := M
  dsimp only at hq hk
  refine ⟨1, v, h, ?_, hQ⟩
  simp only [sm_run, hM, hq, hs, hk, if_true]
theorem ab_Ends.call {m' : Nat} {as r : List Value} (hM : P m = some M) (hq : M.2.2[pc]? = some (some q)) (hs : sm_step q pc ls st h = some (.inr (.inr (m', as, r)))) (hM' : P m' = some M') (hl : (sm_slots as).length ≤ M'.1) (hc : (r.map fun v => v.category).sum ≤ 8)
    (k : ab_Ends P d m' 0 (sm_entry M'.1 as) [] h (fun v h' => ab_Ends P (d + 1) m (pc + 3) ls (sm_back v r) h' Q)) : ab_Ends P (d + 1) m pc ls st h Q := by
  obtain ⟨n1, v1, h1, hr1, n2, v2, h2, hr2, hQ⟩ := k
  obtain ⟨a, b, tab⟩ := M
  obtain ⟨a', b', tab'⟩ := M'
  dsimp only at hq hl hr1
  refine ⟨max n1 n2 + 1, v2, h2, ?_, hQ⟩
  have e1 := sm_run_more _ _ _ _ _ _ _ _ hr1 (max n1 n2) d (Nat.le_max_left _ _) (Nat.le_refl _)
  have e2 := sm_run_more _ _ _ _ _ _ _ _ hr2 (max n1 n2) (d + 1) (Nat.le_max_right _ _) (Nat.le_refl _)
  have hcc : (sm_slots as).length ≤ a' ∧ (r.map fun v => v.category).sum ≤ 8 := ⟨hl, hc⟩
  simp only [sm_run, hM, hq, hs, hM', e1]
  rw [if_pos hcc]
  exact e2
theorem ab_thr_none {r : sm_R} (hs : sm_step q pc ls st h = some r) : sm_thr q = none := by
  cases ht : sm_thr q with
  | none => rfl
  | some x =>
    exfalso
    unfold sm_thr at ht
    split at ht
    · next a y =>
      split at ht
      · next ha =>
        subst ha
        simp [sm_step, sm_newo] at hs
      · cases ht
    · cases ht
theorem sm_runT_more : ∀ (n d m pc : Nat) (ls : sm_L) (st : List Value) (h : sm_H) (r : Nat × sm_H), sm_runT P n d m pc ls st h = some r → ∀ n' d', n ≤ n' → d ≤ d' → sm_runT P n' d' m pc ls st h = some r := by
  intro n
  induction n with
  | zero => intro d m pc ls st h r hr; simp [sm_runT] at hr
  | succ n ih =>
    intro d m pc ls st h r hr n' d' hn hd
    obtain ⟨n1, rfl⟩ : ∃ k, n' = k + 1 := ⟨n' - 1, by omega⟩
    simp only [sm_runT] at hr ⊢
    cases hP : P m with
    | none => rw [hP] at hr; cases hr
    | some M =>
      obtain ⟨a, k, tab⟩ := M
      rw [hP] at hr
      dsimp only at hr ⊢
      cases hq : tab[pc]? with
      | none => rw [hq] at hr; cases hr
      | some o =>
        cases o with
        | none => rw [hq] at hr; cases hr
        | some q =>
          rw [hq] at hr
          dsimp only at hr ⊢
          cases ht : sm_thr q with
          | some x => rw [ht] at hr; exact hr
          | none =>
            rw [ht] at hr
            dsimp only at hr ⊢
            cases hs : sm_step q pc ls st h with
            | none => rw [hs] at hr; cases hr
            | some R =>
              rw [hs] at hr
              rcases R with ⟨pc1, ls1, st1, h1⟩ | v | ⟨m1, as, r1⟩
              · exact ih _ _ _ _ _ _ _ hr _ _ (by omega) hd
              · exact hr
              · dsimp only at hr ⊢
                cases d with
                | zero => cases hr
                | succ d0 =>
                  obtain ⟨d1, rfl⟩ : ∃ k, d' = k + 1 := ⟨d' - 1, by omega⟩
                  try dsimp only at hr ⊢
                  cases hP1 : P m1 with
                  | none => rw [hP1] at hr; cases hr
                  | some M1 =>
                    obtain ⟨nl, k1, t1⟩ := M1
                    rw [hP1] at hr
                    dsimp only at hr ⊢
                    split at hr
                    · next hc =>
                      rw [if_pos hc]
                      cases hcall : sm_run P n d0 m1 0 (sm_entry nl as) [] h with
                      | none => rw [hcall] at hr; cases hr
                      | some vr =>
                        obtain ⟨v1, h1⟩ := vr
                        rw [hcall] at hr
                        rw [sm_run_more _ _ _ _ _ _ _ _ hcall n1 d1 (by omega) (by omega)]
                        exact ih _ _ _ _ _ _ _ hr _ _ (by omega) (by omega)
                    · cases hr
/-- .. or throws, with QT -/
def ab_EndsX (P : Nat → Option sm_M) (QT : Nat → sm_H → Prop) (d m pc : Nat) (ls : sm_L) (st : List Value) (h : sm_H) (Q : Option Value → sm_H → Prop) : Prop := ab_Ends P d m pc ls st h Q ∨ ∃ (n x : Nat) (h' : sm_H), sm_runT P n d m pc ls st h = some (x, h') ∧ QT x h'
variable {QT : Nat → sm_H → Prop}
theorem ab_EndsX.step {pc' : Nat} {ls' : sm_L} {st' : List Value} {h' : sm_H} (hM : P m = some M) (hq : M.2.2[pc]? = some (some q)) (hs : sm_step q pc ls st h = some (.inl (pc', ls', st', h'))) (k : ab_EndsX P QT d m pc' ls' st' h' Q) : ab_EndsX P QT d m pc ls st h Q := by
  rcases k with k | ⟨n, x, h2, hr, hQ⟩
  · exact Or.inl (k.step hM hq hs)
  · obtain ⟨a, b, tab⟩ := M
    dsimp only at hq
    refine Or.inr ⟨n + 1, x, h2, ?_, hQ⟩
    simp only [sm_runT, hM, hq, ab_thr_none hs, hs]
    exact hr
theorem ab_EndsX.thr {x : Nat} (hM : P m = some M) (hq : M.2.2[pc]? = some (some q)) (ht : sm_thr q = some x) (hQ : QT x (h ++ [sm_exc x])) : ab_EndsX P QT d m pc ls [] h Q := by
  obtain ⟨a, b, tab⟩ := M
  dsimp only at hq
  refine Or.inr ⟨1, x, _, ?_, hQ⟩
  simp only [sm_runT, hM, hq, ht, if_true]
theorem ab_EndsX.call {m' : Nat} {as r : List Value} (hM : P m = some M) (hq : M.2.2[pc]? = some (some q)) (hs : sm_step q pc ls st h = some (.inr (.inr (m', as, r)))) (hM' : P m' = some M') (hl : (sm_slots as).length ≤ M'.1) (hc : (r.map fun v => v.category).sum ≤ 8)
    (k : ab_Ends P d m' 0 (sm_entry M'.1 as) [] h (fun v h' => ab_EndsX P QT (d + 1) m (pc + 3) ls (sm_back v r) h' Q)) : ab_EndsX P QT (d + 1) m pc ls st h Q := by
  obtain ⟨n1, v1, h1, hr1, k⟩ := k
  rcases k with k | ⟨n2, x, h2, hr2, hQ⟩
  · exact Or.inl (ab_Ends.call hM hq hs hM' hl hc ⟨n1, v1, h1, hr1, k⟩)
  · obtain ⟨a, b, tab⟩ := M
    obtain ⟨a', b', tab'⟩ := M'
    dsimp only at hq hl hr1
    refine Or.inr ⟨max n1 n2 + 1, x, h2, ?_, hQ⟩
    have e1 := sm_run_more _ _ _ _ _ _ _ _ hr1 (max n1 n2) d (Nat.le_max_left _ _) (Nat.le_refl _)
    have e2 := sm_runT_more _ _ _ _ _ _ _ _ hr2 (max n1 n2) (d + 1) (Nat.le_max_right _ _) (Nat.le_refl _)
    have hcc : (sm_slots as).length ≤ a' ∧ (r.map fun v => v.category).sum ≤ 8 := ⟨hl, hc⟩
    simp only [sm_runT, hM, hq, ab_thr_none hs, hs, hM', e1]
    rw [if_pos hcc]
    exact e2
/-- callers that wait: method, place, locals, what lies below the arguments -/
abbrev ab_CF : Type := Nat × Nat × sm_L × List Value
def ab_EndsK (P : Nat → Option sm_M) (QT : Nat → sm_H → Prop) (Q : Option Value → sm_H → Prop) : List ab_CF → Nat → Nat → Nat → sm_L → List Value → sm_H → Prop
  | [], d, m, pc, ls, st, h => ab_EndsX P QT d m pc ls st h Q
  | c :: F, d, m, pc, ls, st, h => ab_Ends P d m pc ls st h (fun v h' => ab_EndsK P QT Q F (d + 1) c.1 (c.2.1 + 3) c.2.2.1 (sm_back v c.2.2.2) h')
theorem ab_EndsK.step {F : List ab_CF} {pc' : Nat} {ls' : sm_L} {st' : List Value} {h' : sm_H} (hM : P m = some M) (hq : M.2.2[pc]? = some (some q)) (hs : sm_step q pc ls st h = some (.inl (pc', ls', st', h'))) (k : ab_EndsK P QT Q F d m pc' ls' st' h') : ab_EndsK P QT Q F d m pc ls st h := by
  cases F with
  | nil => exact ab_EndsX.step (Q := Q) hM hq hs k
  | cons c F => exact ab_Ends.step hM hq hs (show ab_Ends P d m pc' ls' st' h' _ from k)
theorem ab_EndsK.ret {F : List ab_CF} {c : ab_CF} {v : Option Value} (hM : P m = some M) (hq : M.2.2[pc]? = some (some q)) (hs : sm_step q pc ls st h = some (.inr (.inl v))) (hk : sm_okret M.2.1 v = true) (k : ab_EndsK P QT Q F (d + 1) c.1 (c.2.1 + 3) c.2.2.1 (sm_back v c.2.2.2) h) : ab_EndsK P QT Q (c :: F) d m pc ls st h :=
  ab_Ends.ret (Q := fun v h' => ab_EndsK P QT Q F (d + 1) c.1 (c.2.1 + 3) c.2.2.1 (sm_back v c.2.2.2) h') hM hq hs hk k
theorem ab_EndsK.inl {F : List ab_CF} {m' : Nat} {as r : List Value} (hM : P m = some M) (hq : M.2.2[pc]? = some (some q)) (hs : sm_step q pc ls st h = some (.inr (.inr (m', as, r)))) (hM' : P m' = some M') (hl : (sm_slots as).length ≤ M'.1) (hc : (r.map fun v => v.category).sum ≤ 8)
    (k : ab_EndsK P QT Q ((m, pc, ls, r) :: F) d m' 0 (sm_entry M'.1 as) [] h) : ab_EndsK P QT Q F (d + 1) m pc ls st h := by
  cases F with
  | nil => exact ab_EndsX.call (Q := Q) hM hq hs hM' hl hc k
  | cons c F => exact ab_Ends.call hM hq hs hM' hl hc (show ab_Ends P d m' 0 (sm_entry M'.1 as) [] h _ from k)
theorem ab_EndsK.con {F : List ab_CF} {m' : Nat} {as r : List Value} (hM : P m = some M) (hq : M.2.2[pc]? = some (some q)) (hs : sm_step q pc ls st h = some (.inr (.inr (m', as, r)))) (hM' : P m' = some M') (hl : (sm_slots as).length ≤ M'.1) (hc : (r.map fun v => v.category).sum ≤ 8)
    (k : ab_Ends P d m' 0 (sm_entry M'.1 as) [] h Q') (kk : ∀ v h', Q' v h' → ab_EndsK P QT Q F (d + 1) m (pc + 3) ls (sm_back v r) h') : ab_EndsK P QT Q F (d + 1) m pc ls st h :=
  ab_EndsK.inl hM hq hs hM' hl hc (show ab_Ends P d m' 0 (sm_entry M'.1 as) [] h _ from k.imp kk)
end ABE
