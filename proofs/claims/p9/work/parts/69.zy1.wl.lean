/-! METHODS WITH HANDLERS, AND THE LAW: runs that come to their ends -/
section WBE
variable {P : Nat → Option sm_M} {PW : Nat → Option sm_MW}
theorem sm_run_same {n n' d m pc : Nat} {ls : sm_L} {st : List Value} {h : sm_H} {r r' : Option Value × sm_H} (h1 : sm_run P n d m pc ls st h = some r) (h2 : sm_run P n' d m pc ls st h = some r') : r = r' := by
  have e1 := sm_run_more _ _ _ _ _ _ _ _ h1 (max n n') d (Nat.le_max_left _ _) (Nat.le_refl _)
  have e2 := sm_run_more _ _ _ _ _ _ _ _ h2 (max n n') d (Nat.le_max_right _ _) (Nat.le_refl _)
  exact Option.some.inj (e1.symm.trans e2)
/-- a run that throws does not return -/
theorem sm_runT_run : ∀ (n d m pc : Nat) (ls : sm_L) (st : List Value) (h : sm_H) (r : Nat × sm_H), sm_runT P n d m pc ls st h = some r → ∀ n', sm_run P n' d m pc ls st h = none := by
  intro n
  induction n with
  | zero => intro d m pc ls st h r hr; simp [sm_runT] at hr
  | succ n ih =>
    intro d m pc ls st h r hr n'
    cases n' with
    | zero => rfl
    | succ n1 =>
      simp only [sm_runT] at hr
      simp only [sm_run]
      cases hP : P m with
      | none => rfl
      | some M =>
        obtain ⟨a, k, tab⟩ := M
        rw [hP] at hr
        dsimp only at hr ⊢
        cases hq : tab[pc]? with
        | none => rfl
        | some o =>
          cases o with
          | none => rfl
          | some q =>
            rw [hq] at hr
            dsimp only at hr ⊢
            cases ht : sm_thr q with
            | some x =>
              cases hs : sm_step q pc ls st h with
              | none => rfl
              | some R => rw [ab_thr_none hs] at ht; cases ht
            | none =>
              rw [ht] at hr
              dsimp only at hr
              cases hs : sm_step q pc ls st h with
              | none => rfl
              | some R =>
                rw [hs] at hr
                rcases R with ⟨pc1, ls1, st1, h1⟩ | v | ⟨m1, as, r1⟩
                · exact ih _ _ _ _ _ _ _ hr n1
                · cases hr
                · dsimp only at hr ⊢
                  cases d with
                  | zero => rfl
                  | succ d0 =>
                    (try dsimp only at hr ⊢)
                    cases hP1 : P m1 with
                    | none => rfl
                    | some M1 =>
                      obtain ⟨nl, k1, t1⟩ := M1
                      rw [hP1] at hr
                      dsimp only at hr ⊢
                      split at hr
                      · next hc =>
                        rw [if_pos hc]
                        cases hcall : sm_run P n d0 m1 0 (sm_entry nl as) [] h with
                        | none => rw [hcall] at hr; cases hr
                        | some vr =>
                          obtain ⟨v1, h1⟩ := vr
                          rw [hcall] at hr
                          dsimp only at hr
                          cases hcall' : sm_run P n1 d0 m1 0 (sm_entry nl as) [] h with
                          | none => rfl
                          | some vr' =>
                            have := sm_run_same hcall hcall'
                            subst this
                            exact ih _ _ _ _ _ _ _ hr n1
                      · cases hr
theorem sm_runW_more : ∀ (n d m pc : Nat) (ls : sm_L) (st : List Value) (h : sm_H) (r : Option Value × sm_H), sm_runW P PW n d m pc ls st h = some r → ∀ n', n ≤ n' → sm_runW P PW n' d m pc ls st h = some r := by
  intro n
  induction n with
  | zero => intro d m pc ls st h r hr; simp [sm_runW] at hr
  | succ n ih =>
    intro d m pc ls st h r hr n' hn
    obtain ⟨n1, rfl⟩ : ∃ k, n' = k + 1 := ⟨n' - 1, by omega⟩
    simp only [sm_runW] at hr ⊢
    cases hP : PW m with
    | none => rw [hP] at hr; cases hr
    | some M =>
      obtain ⟨⟨a, k, tab⟩, al⟩ := M
      rw [hP] at hr
      dsimp only at hr ⊢
      cases hq : tab[pc]? with
      | none => rw [hq] at hr; cases hr
      | some o =>
        cases o with
        | none => rw [hq] at hr; cases hr
        | some q =>
          rw [hq] at hr
          dsimp only at hr ⊢
          cases hs : sm_step q pc ls st h with
          | none => rw [hs] at hr; cases hr
          | some R =>
            rw [hs] at hr
            rcases R with ⟨pc1, ls1, st1, h1⟩ | v | ⟨m1, as, r1⟩
            · exact ih _ _ _ _ _ _ _ hr _ (by omega)
            · exact hr
            · dsimp only at hr ⊢
              cases d with
              | zero => cases hr
              | succ d0 =>
                (try dsimp only at hr ⊢)
                cases hP1 : P m1 with
                | none => rw [hP1] at hr; cases hr
                | some M1 =>
                  obtain ⟨nl, k1, t1⟩ := M1
                  rw [hP1] at hr
                  dsimp only at hr ⊢
                  split at hr
                  · next hc =>
                    rw [if_pos hc]
                    cases hcall : sm_run P n d0 m1 0 (sm_entry nl as) [] h with
                    | some vr =>
                      obtain ⟨v1, h1⟩ := vr
                      rw [hcall] at hr
                      rw [sm_run_more _ _ _ _ _ _ _ _ hcall n1 d0 (by omega) (Nat.le_refl _)]
                      exact ih _ _ _ _ _ _ _ hr _ (by omega)
                    | none =>
                      rw [hcall] at hr
                      dsimp only at hr
                      cases hT : sm_runT P n d0 m1 0 (sm_entry nl as) [] h with
                      | none => rw [hT] at hr; cases hr
                      | some xr =>
                        obtain ⟨x, h1⟩ := xr
                        rw [hT] at hr
                        dsimp only at hr
                        rw [sm_runT_run _ _ _ _ _ _ _ _ hT n1, sm_runT_more _ _ _ _ _ _ _ _ hT n1 d0 (by omega) (Nat.le_refl _)]
                        dsimp only
                        cases hf : sm_find pc x al with
                        | none => rw [hf] at hr; cases hr
                        | some hp =>
                          rw [hf] at hr
                          exact ih _ _ _ _ _ _ _ hr _ (by omega)
                  · cases hr
def wb_Ends (P : Nat → Option sm_M) (PW : Nat → Option sm_MW) (d m pc : Nat) (ls : sm_L) (st : List Value) (h : sm_H) (Q : Option Value → sm_H → Prop) : Prop := ∃ (n : Nat) (v : Option Value) (h' : sm_H), sm_runW P PW n d m pc ls st h = some (v, h') ∧ Q v h'
variable {d m pc : Nat} {ls : sm_L} {st : List Value} {h : sm_H} {Q Q' : Option Value → sm_H → Prop} {QT : Nat → sm_H → Prop} {M : sm_MW} {M' : sm_M} {q : sm_I}
theorem wb_Ends.step {pc' : Nat} {ls' : sm_L} {st' : List Value} {h' : sm_H} (hM : PW m = some M) (hq : M.1.2.2[pc]? = some (some q)) (hs : sm_step q pc ls st h = some (.inl (pc', ls', st', h'))) (k : wb_Ends P PW d m pc' ls' st' h' Q) : wb_Ends P PW d m pc ls st h Q := by
  obtain ⟨n, v, h2, hr, hQ⟩ := k
  obtain ⟨⟨a, b, tab⟩, al⟩ := M
  dsimp only at hq
  refine ⟨n + 1, v, h2, ?_, hQ⟩
  simp only [sm_runW, hM, hq, hs]
  exact hr
theorem wb_Ends.ret {v : Option Value} (hM : PW m = some M) (hq : M.1.2.2[pc]? = some (some q)) (hs : sm_step q pc ls st h = some (.inr (.inl v))) (hk : sm_okret M.1.2.1 v = true) (hQ : Q v h) : wb_Ends P PW d m pc ls st h Q := by
  obtain ⟨⟨a, b, tab⟩, al⟩ := M
  dsimp only at hq hk
  refine ⟨1, v, h, ?_, hQ⟩
  simp only [sm_runW, hM, hq, hs, hk, if_true]
theorem wb_Ends.call {m' : Nat} {as r : List Value} (hM : PW m = some M) (hq : M.1.2.2[pc]? = some (some q)) (hs : sm_step q pc ls st h = some (.inr (.inr (m', as, r)))) (hM' : P m' = some M') (hl : (sm_slots as).length ≤ M'.1) (hc : (r.map fun v => v.category).sum ≤ 8)
    (k : ab_EndsX P QT d m' 0 (sm_entry M'.1 as) [] h Q') (k1 : ∀ v h', Q' v h' → wb_Ends P PW (d + 1) m (pc + 3) ls (sm_back v r) h' Q) (k2 : ∀ x h', QT x h' → ∃ hp, sm_find pc x M.2 = some hp ∧ wb_Ends P PW (d + 1) m hp ls [.ref (h'.length - 1)] h' Q) : wb_Ends P PW (d + 1) m pc ls st h Q := by
  obtain ⟨⟨a, b, tab⟩, al⟩ := M
  obtain ⟨a', b', tab'⟩ := M'
  dsimp only at hq hl k
  have hcc : (sm_slots as).length ≤ a' ∧ (r.map fun v => v.category).sum ≤ 8 := ⟨hl, hc⟩
  rcases k with ⟨n1, v1, h1, hr1, hQ1⟩ | ⟨n1, x, h1, hr1, hQ1⟩
  · obtain ⟨n2, v2, h2, hr2, hQ⟩ := k1 v1 h1 hQ1
    refine ⟨max n1 n2 + 1, v2, h2, ?_, hQ⟩
    have e1 := sm_run_more _ _ _ _ _ _ _ _ hr1 (max n1 n2) d (Nat.le_max_left _ _) (Nat.le_refl _)
    have e2 := sm_runW_more _ _ _ _ _ _ _ _ hr2 (max n1 n2) (Nat.le_max_right _ _)
    simp only [sm_runW, hM, hq, hs, hM', e1]
    rw [if_pos hcc]
    exact e2
  · obtain ⟨hp, hf, n2, v2, h2, hr2, hQ⟩ := k2 x h1 hQ1
    refine ⟨max n1 n2 + 1, v2, h2, ?_, hQ⟩
    have e0 := sm_runT_run _ _ _ _ _ _ _ _ hr1 (max n1 n2)
    have e1 := sm_runT_more _ _ _ _ _ _ _ _ hr1 (max n1 n2) d (Nat.le_max_left _ _) (Nat.le_refl _)
    have e2 := sm_runW_more _ _ _ _ _ _ _ _ hr2 (max n1 n2) (Nat.le_max_right _ _)
    dsimp only at hf
    simp only [sm_runW, hM, hq, hs, hM', e0, e1, hf]
    rw [if_pos hcc]
    exact e2
/-! the law -/
variable {tab : List (Option sm_I)} {QL : sm_H → Prop}
theorem sm_runL_more : ∀ (n d pc : Nat) (ls : sm_L) (st : List Value) (h : sm_H) (r : Option Value × sm_H), sm_runL P PW tab n d pc ls st h = some r → ∀ n', n ≤ n' → sm_runL P PW tab n' d pc ls st h = some r := by
  intro n
  induction n with
  | zero => intro d pc ls st h r hr; simp [sm_runL] at hr
  | succ n ih =>
    intro d pc ls st h r hr n' hn
    obtain ⟨n1, rfl⟩ : ∃ k, n' = k + 1 := ⟨n' - 1, by omega⟩
    simp only [sm_runL] at hr ⊢
    cases hq : tab[pc]? with
    | none => rw [hq] at hr; cases hr
    | some o =>
      cases o with
      | none => rw [hq] at hr; cases hr
      | some q =>
        rw [hq] at hr
        dsimp only at hr ⊢
        cases hs : sm_step q pc ls st h with
        | none => rw [hs] at hr; cases hr
        | some R =>
          rw [hs] at hr
          rcases R with ⟨pc1, ls1, st1, h1⟩ | v | ⟨m1, as, r1⟩
          · exact ih _ _ _ _ _ _ hr _ (by omega)
          · exact hr
          · dsimp only at hr ⊢
            cases d with
            | zero => cases hr
            | succ d0 =>
              (try dsimp only at hr ⊢)
              cases hPW : PW m1 with
              | some MW =>
                obtain ⟨⟨nl, k1, t1⟩, al1⟩ := MW
                rw [hPW] at hr
                dsimp only at hr ⊢
                split at hr
                · next hc =>
                  rw [if_pos hc]
                  cases hcall : sm_runW P PW n d0 m1 0 (sm_entry nl as) [] h with
                  | none => rw [hcall] at hr; cases hr
                  | some vr =>
                    obtain ⟨v1, h1⟩ := vr
                    rw [hcall] at hr
                    rw [sm_runW_more _ _ _ _ _ _ _ _ hcall n1 (by omega)]
                    exact ih _ _ _ _ _ _ hr _ (by omega)
                · cases hr
              | none =>
                rw [hPW] at hr
                dsimp only at hr ⊢
                cases hP1 : P m1 with
                | none => rw [hP1] at hr; cases hr
                | some M1 =>
                  obtain ⟨nl, k1, t1⟩ := M1
                  rw [hP1] at hr
                  dsimp only at hr ⊢
                  split at hr
                  · next hc =>
                    rw [if_pos hc]
                    cases hcall : sm_run P n d0 m1 0 (sm_entry nl as) [] h with
                    | none => rw [hcall] at hr; cases hr
                    | some vr =>
                      obtain ⟨v1, h1⟩ := vr
                      rw [hcall] at hr
                      rw [sm_run_more _ _ _ _ _ _ _ _ hcall n1 d0 (by omega) (Nat.le_refl _)]
                      exact ih _ _ _ _ _ _ hr _ (by omega)
                  · cases hr
def lb_Ends (P : Nat → Option sm_M) (PW : Nat → Option sm_MW) (tab : List (Option sm_I)) (d pc : Nat) (ls : sm_L) (st : List Value) (h : sm_H) (QL : sm_H → Prop) : Prop := ∃ (n : Nat) (h' : sm_H), sm_runL P PW tab n d pc ls st h = some (some (.int 1), h') ∧ QL h'
theorem lb_Ends.step {pc' : Nat} {ls' : sm_L} {st' : List Value} {h' : sm_H} (hq : tab[pc]? = some (some q)) (hs : sm_step q pc ls st h = some (.inl (pc', ls', st', h'))) (k : lb_Ends P PW tab d pc' ls' st' h' QL) : lb_Ends P PW tab d pc ls st h QL := by
  obtain ⟨n, h2, hr, hQ⟩ := k
  refine ⟨n + 1, h2, ?_, hQ⟩
  simp only [sm_runL, hq, hs]
  exact hr
theorem lb_Ends.ret (hq : tab[pc]? = some (some q)) (hs : sm_step q pc ls st h = some (.inr (.inl (some (.int 1))))) (hQ : QL h) : lb_Ends P PW tab d pc ls st h QL := by
  refine ⟨1, h, ?_, hQ⟩
  simp only [sm_runL, hq, hs]
theorem lb_Ends.callP {m' : Nat} {as r : List Value} (hq : tab[pc]? = some (some q)) (hs : sm_step q pc ls st h = some (.inr (.inr (m', as, r)))) (hW : PW m' = none) (hM' : P m' = some M') (hl : (sm_slots as).length ≤ M'.1) (hc : (r.map fun v => v.category).sum ≤ 8)
    (k : ab_Ends P d m' 0 (sm_entry M'.1 as) [] h Q') (k1 : ∀ v h', Q' v h' → lb_Ends P PW tab (d + 1) (pc + 3) ls (sm_back v r) h' QL) : lb_Ends P PW tab (d + 1) pc ls st h QL := by
  obtain ⟨a', b', tab'⟩ := M'
  dsimp only at hl k
  have hcc : (sm_slots as).length ≤ a' ∧ (r.map fun v => v.category).sum ≤ 8 := ⟨hl, hc⟩
  obtain ⟨n1, v1, h1, hr1, hQ1⟩ := k
  obtain ⟨n2, h2, hr2, hQ⟩ := k1 v1 h1 hQ1
  refine ⟨max n1 n2 + 1, h2, ?_, hQ⟩
  have e1 := sm_run_more _ _ _ _ _ _ _ _ hr1 (max n1 n2) d (Nat.le_max_left _ _) (Nat.le_refl _)
  have e2 := sm_runL_more _ _ _ _ _ _ _ hr2 (max n1 n2) (Nat.le_max_right _ _)
  simp only [sm_runL, hq, hs, hW, hM', e1]
  rw [if_pos hcc]
  exact e2
theorem lb_Ends.callW {m' : Nat} {as r : List Value} (hq : tab[pc]? = some (some q)) (hs : sm_step q pc ls st h = some (.inr (.inr (m', as, r)))) (hM : PW m' = some M) (hl : (sm_slots as).length ≤ M.1.1) (hc : (r.map fun v => v.category).sum ≤ 8)
    (k : wb_Ends P PW d m' 0 (sm_entry M.1.1 as) [] h Q') (k1 : ∀ v h', Q' v h' → lb_Ends P PW tab (d + 1) (pc + 3) ls (sm_back v r) h' QL) : lb_Ends P PW tab (d + 1) pc ls st h QL := by
  obtain ⟨⟨a', b', tab'⟩, al'⟩ := M
  dsimp only at hl k
  have hcc : (sm_slots as).length ≤ a' ∧ (r.map fun v => v.category).sum ≤ 8 := ⟨hl, hc⟩
  obtain ⟨n1, v1, h1, hr1, hQ1⟩ := k
  obtain ⟨n2, h2, hr2, hQ⟩ := k1 v1 h1 hQ1
  refine ⟨max n1 n2 + 1, h2, ?_, hQ⟩
  have e1 := sm_runW_more _ _ _ _ _ _ _ _ hr1 (max n1 n2) (Nat.le_max_left _ _)
  have e2 := sm_runL_more _ _ _ _ _ _ _ hr2 (max n1 n2) (Nat.le_max_right _ _)
  simp only [sm_runL, hq, hs, hM, e1]
  rw [if_pos hcc]
  exact e2
end WBE
