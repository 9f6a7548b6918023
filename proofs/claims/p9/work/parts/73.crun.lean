/-! RUNS with unknown numbers -/
def sa_run (F : sa_F) (P : Nat → Option sm_M) : Nat → Nat → Nat → Nat → sm_L → List Value → sa_H → Option (Option Value × sa_H)
  | 0, _, _, _, _, _, _ => none
  | n + 1, d, m, pc, ls, st, h => match P m with
    | none => none
    | some (_, k, tab) => match tab[pc]? with
      | some (some q) => match sa_step F q pc ls st h with
        | some (.inl (pc', ls', st', h')) => sa_run F P n d m pc' ls' st' h'
        | some (.inr (.inl v)) => if sm_okret k v then some (v, h) else none
        | some (.inr (.inr (m', as, r))) => match d, P m' with
          | d' + 1, some (nl, _, _) => if (sm_slots as).length ≤ nl ∧ (r.map fun v => v.category).sum ≤ 8 then (match sa_run F P n d' m' 0 (sm_entry nl as) [] h with
            | some (v, h') => sa_run F P n d m (pc + 3) ls (sm_back v r) h'
            | none => none) else none
          | _, _ => none
        | none => none
      | _ => none
def sa_exc (x : Nat) : sa_E := .inr (x, List.replicate 6 .null)
def sa_runT (F : sa_F) (P : Nat → Option sm_M) : Nat → Nat → Nat → Nat → sm_L → List Value → sa_H → Option (Nat × sa_H)
  | 0, _, _, _, _, _, _ => none
  | n + 1, d, m, pc, ls, st, h => match P m with
    | none => none
    | some (_, _, tab) => match tab[pc]? with
      | some (some q) => match sm_thr q with
        | some x => match st with
          | [] => some (x, h ++ [sa_exc x])
          | _ :: _ => none
        | none => match sa_step F q pc ls st h with
          | some (.inl (pc', ls', st', h')) => sa_runT F P n d m pc' ls' st' h'
          | some (.inr (.inl _)) => none
          | some (.inr (.inr (m', as, r))) => match d, P m' with
            | d' + 1, some (nl, _, _) => if (sm_slots as).length ≤ nl ∧ (r.map fun v => v.category).sum ≤ 8 then (match sa_run F P n d' m' 0 (sm_entry nl as) [] h with
              | some (v, h') => sa_runT F P n d m (pc + 3) ls (sm_back v r) h'
              | none => none) else none
            | _, _ => none
          | none => none
      | _ => none
def sa_runW (F : sa_F) (P : Nat → Option sm_M) (PW : Nat → Option sm_MW) : Nat → Nat → Nat → Nat → sm_L → List Value → sa_H → Option (Option Value × sa_H)
  | 0, _, _, _, _, _, _ => none
  | n + 1, d, m, pc, ls, st, h => match PW m with
    | none => none
    | some ((_, k, tab), al) => match tab[pc]? with
      | some (some q) => match sa_step F q pc ls st h with
        | some (.inl (pc', ls', st', h')) => sa_runW F P PW n d m pc' ls' st' h'
        | some (.inr (.inl v)) => if sm_okret k v then some (v, h) else none
        | some (.inr (.inr (m', as, r))) => match d, P m' with
          | d' + 1, some (nl, _, _) => if (sm_slots as).length ≤ nl ∧ (r.map fun v => v.category).sum ≤ 8 then (match sa_run F P n d' m' 0 (sm_entry nl as) [] h with
            | some (v, h') => sa_runW F P PW n d m (pc + 3) ls (sm_back v r) h'
            | none => match sa_runT F P n d' m' 0 (sm_entry nl as) [] h with
              | some (x, h') => match sm_find pc x al with
                | some hp => sa_runW F P PW n d m hp ls [.ref (h'.length - 1)] h'
                | none => none
              | none => none) else none
          | _, _ => none
        | none => none
      | _ => none
def sa_runL (F : sa_F) (P : Nat → Option sm_M) (PW : Nat → Option sm_MW) (tab : List (Option sm_I)) : Nat → Nat → Nat → sm_L → List Value → sa_H → Option (Option Value × sa_H)
  | 0, _, _, _, _, _ => none
  | n + 1, d, pc, ls, st, h => match tab[pc]? with
      | some (some q) => match sa_step F q pc ls st h with
        | some (.inl (pc', ls', st', h')) => sa_runL F P PW tab n d pc' ls' st' h'
        | some (.inr (.inl v)) => some (v, h)
        | some (.inr (.inr (m', as, r))) => match d with
          | d' + 1 => match PW m' with
            | some ((nl, _, _), _) => if (sm_slots as).length ≤ nl ∧ (r.map fun v => v.category).sum ≤ 8 then (match sa_runW F P PW n d' m' 0 (sm_entry nl as) [] h with
              | some (v, h') => sa_runL F P PW tab n d (pc + 3) ls (sm_back v r) h'
              | none => none) else none
            | none => match P m' with
              | some (nl, _, _) => if (sm_slots as).length ≤ nl ∧ (r.map fun v => v.category).sum ≤ 8 then (match sa_run F P n d' m' 0 (sm_entry nl as) [] h with
                | some (v, h') => sa_runL F P PW tab n d (pc + 3) ls (sm_back v r) h'
                | none => none) else none
              | none => none
          | 0 => none
        | none => none
      | _ => none
section SAR
variable {ρ : Nat → Int32} {μ : UInt64 → Int64} {F : sa_F} {P : Nat → Option sm_M} {PW : Nat → Option sm_MW}
theorem sa_slots (as : List Value) : sm_slots (sa_gs ρ μ as) = sa_gl ρ μ (sm_slots as) := by
  induction as with
  | nil => rfl
  | cons v as ih =>
    simp only [sa_gs, List.map_cons, sm_slots, sa_cat]
    split
    · simp only [sa_gl, List.map_cons, Option.map_some, Option.map_none]
      exact congrArg _ (congrArg _ ih)
    · simp only [sa_gl, List.map_cons, Option.map_some]
      exact congrArg _ ih
theorem sa_entry (n : Nat) (as : List Value) : sm_entry n (sa_gs ρ μ as) = sa_gl ρ μ (sm_entry n as) := by
  unfold sm_entry
  rw [sa_slots]
  simp [sa_gl]
theorem sa_okret {k : Nat} {v : Option Value} (h : sm_okret k v = true) : sm_okret k (v.map (sa_g ρ μ)) = true := by
  cases v with
  | none => exact h
  | some v =>
    cases v with
    | retAddr a => unfold sm_okret at h; split at h <;> simp_all
    | double u => unfold sm_okret at h; split at h <;> simp_all
    | _ => exact h
theorem sa_back (v : Option Value) (r : List Value) : sm_back (v.map (sa_g ρ μ)) (sa_gs ρ μ r) = sa_gs ρ μ (sm_back v r) := by cases v <;> rfl
theorem sa_callc {as r : List Value} {nl : Nat} (hc : (sm_slots as).length ≤ nl ∧ (r.map fun v => v.category).sum ≤ 8) : (sm_slots (sa_gs ρ μ as)).length ≤ nl ∧ ((sa_gs ρ μ r).map fun v => v.category).sum ≤ 8 := by
  rw [sa_slots, sa_cats, List.length_map]
  exact hc
theorem sa_run_ok (hF : ∀ f ∈ F, sa_true ρ μ f) : ∀ (n d m pc : Nat) (ls : sm_L) (st : List Value) (h : sa_H) (v : Option Value) (h' : sa_H), sa_run F P n d m pc ls st h = some (v, h') → sm_run P n d m pc (sa_gl ρ μ ls) (sa_gs ρ μ st) (sa_gh ρ μ h) = some (v.map (sa_g ρ μ), sa_gh ρ μ h') := by
  intro n
  induction n with
  | zero => intro d m pc ls st h v h' hr; simp [sa_run] at hr
  | succ n ih =>
    intro d m pc ls st h v h' hr
    unfold sa_run at hr
    rw [sm_run]
    split at hr
    · cases hr
    · next nl0 k tab hP =>
      rw [hP]
      dsimp only
      split at hr
      · next q hq =>
        rw [hq]
        dsimp only
        split at hr
        · next pc1 ls1 st1 h1 hs => rw [sa_step_ok hF hs]; exact ih _ _ _ _ _ _ _ _ hr
        · next v1 hs =>
          rw [sa_step_ok hF hs]
          split at hr
          · next hk => cases hr; simp only [sa_gr]; rw [if_pos (sa_okret hk)]
          · cases hr
        · next m1 as r hs =>
          rw [sa_step_ok hF hs]
          simp only [sa_gr]
          split at hr
          · next d1 nl1 k1 t1 hm1 =>
            rw [hm1]
            dsimp only
            split at hr
            · next hc =>
              rw [if_pos (sa_callc hc), sa_entry]
              split at hr
              · next v1 h1 hcall =>
                have := ih _ _ _ _ _ _ _ _ hcall
                simp only [List.map_nil, sa_gs] at this
                rw [this]
                dsimp only
                rw [sa_back]
                exact ih _ _ _ _ _ _ _ _ hr
              · cases hr
            · cases hr
          · cases hr
        · cases hr
      · cases hr
theorem sa_runT_ok (hF : ∀ f ∈ F, sa_true ρ μ f) : ∀ (n d m pc : Nat) (ls : sm_L) (st : List Value) (h : sa_H) (x : Nat) (h' : sa_H), sa_runT F P n d m pc ls st h = some (x, h') → sm_runT P n d m pc (sa_gl ρ μ ls) (sa_gs ρ μ st) (sa_gh ρ μ h) = some (x, sa_gh ρ μ h') ∧ sm_run P n d m pc (sa_gl ρ μ ls) (sa_gs ρ μ st) (sa_gh ρ μ h) = none := by
  intro n
  induction n with
  | zero => intro d m pc ls st h x h' hr; simp [sa_runT] at hr
  | succ n ih =>
    intro d m pc ls st h x h' hr
    unfold sa_runT at hr
    rw [sm_runT, sm_run]
    split at hr
    · cases hr
    · next nl0 k tab hP =>
      rw [hP]
      dsimp only
      split at hr
      · next q hq =>
        rw [hq]
        dsimp only
        split at hr
        · next y hy =>
          rw [hy, sm_thr_step hy]
          split at hr
          · cases hr
            refine ⟨?_, rfl⟩
            simp only [sa_gs, List.map_nil, if_true, sa_gh, List.map_append, List.map_cons]
            rfl
          · cases hr
        · next hy =>
          rw [hy]
          dsimp only
          split at hr
          · next pc1 ls1 st1 h1 hs => rw [sa_step_ok hF hs]; exact ih _ _ _ _ _ _ _ _ hr
          · cases hr
          · next m1 as r hs =>
            rw [sa_step_ok hF hs]
            simp only [sa_gr]
            split at hr
            · next d1 nl1 k1 t1 hm1 =>
              rw [hm1]
              dsimp only
              split at hr
              · next hc =>
                rw [if_pos (sa_callc hc), if_pos (sa_callc hc), sa_entry]
                split at hr
                · next v1 h1 hcall =>
                  have := sa_run_ok hF _ _ _ _ _ _ _ _ _ hcall
                  simp only [List.map_nil, sa_gs] at this
                  rw [this]
                  dsimp only
                  rw [sa_back]
                  exact ih _ _ _ _ _ _ _ _ hr
                · cases hr
              · cases hr
            · cases hr
          · cases hr
      · cases hr
theorem sa_runW_ok (hF : ∀ f ∈ F, sa_true ρ μ f) : ∀ (n d m pc : Nat) (ls : sm_L) (st : List Value) (h : sa_H) (v : Option Value) (h' : sa_H), sa_runW F P PW n d m pc ls st h = some (v, h') → sm_runW P PW n d m pc (sa_gl ρ μ ls) (sa_gs ρ μ st) (sa_gh ρ μ h) = some (v.map (sa_g ρ μ), sa_gh ρ μ h') := by
  intro n
  induction n with
  | zero => intro d m pc ls st h v h' hr; simp [sa_runW] at hr
  | succ n ih =>
    intro d m pc ls st h v h' hr
    unfold sa_runW at hr
    rw [sm_runW]
    split at hr
    · cases hr
    · next nl0 k tab al hP =>
      rw [hP]
      dsimp only
      split at hr
      · next q hq =>
        rw [hq]
        dsimp only
        split at hr
        · next pc1 ls1 st1 h1 hs => rw [sa_step_ok hF hs]; exact ih _ _ _ _ _ _ _ _ hr
        · next v1 hs =>
          rw [sa_step_ok hF hs]
          split at hr
          · next hk => cases hr; simp only [sa_gr]; rw [if_pos (sa_okret hk)]
          · cases hr
        · next m1 as r hs =>
          rw [sa_step_ok hF hs]
          simp only [sa_gr]
          split at hr
          · next d1 nl1 k1 t1 hm1 =>
            rw [hm1]
            dsimp only
            split at hr
            · next hc =>
              rw [if_pos (sa_callc hc), sa_entry]
              split at hr
              · next v1 h1 hcall =>
                have := sa_run_ok (ρ := ρ) (μ := μ) hF _ _ _ _ _ _ _ _ _ hcall
                simp only [List.map_nil, sa_gs] at this
                rw [this]
                dsimp only
                rw [sa_back]
                exact ih _ _ _ _ _ _ _ _ hr
              · split at hr
                · next x1 h1 hcall =>
                  obtain ⟨t1, t2⟩ := sa_runT_ok (ρ := ρ) (μ := μ) hF _ _ _ _ _ _ _ _ _ hcall
                  simp only [List.map_nil, sa_gs] at t1 t2
                  rw [t2]
                  dsimp only
                  rw [t1]
                  dsimp only
                  split at hr
                  · next hp hf =>
                    rw [hf]
                    dsimp only
                    have := ih _ _ _ _ _ _ _ _ hr
                    simp only [sa_gs, List.map_cons, List.map_nil, sa_g] at this
                    rw [List.length_map]
                    exact this
                  · cases hr
                · cases hr
            · cases hr
          · cases hr
        · cases hr
      · cases hr
theorem sa_runL_ok (hF : ∀ f ∈ F, sa_true ρ μ f) {tab : List (Option sm_I)} : ∀ (n d pc : Nat) (ls : sm_L) (st : List Value) (h : sa_H) (v : Option Value) (h' : sa_H), sa_runL F P PW tab n d pc ls st h = some (v, h') → sm_runL P PW tab n d pc (sa_gl ρ μ ls) (sa_gs ρ μ st) (sa_gh ρ μ h) = some (v.map (sa_g ρ μ), sa_gh ρ μ h') := by
  intro n
  induction n with
  | zero => intro d pc ls st h v h' hr; simp [sa_runL] at hr
  | succ n ih =>
    intro d pc ls st h v h' hr
    unfold sa_runL at hr
    rw [sm_runL]
    split at hr
    · next q hq =>
      rw [hq]
      dsimp only
      split at hr
      · next pc1 ls1 st1 h1 hs => rw [sa_step_ok hF hs]; exact ih _ _ _ _ _ _ _ hr
      · next v1 hs => cases hr; rw [sa_step_ok hF hs]; rfl
      · next m1 as r hs =>
        rw [sa_step_ok hF hs]
        simp only [sa_gr]
        split at hr
        · next d1 =>
          dsimp only
          split at hr
          · next nl1 k1 t1 al1 hm1 =>
            rw [hm1]
            dsimp only
            split at hr
            · next hc =>
              rw [if_pos (sa_callc hc), sa_entry]
              split at hr
              · next v1 h1 hcall =>
                have := sa_runW_ok (ρ := ρ) (μ := μ) hF _ _ _ _ _ _ _ _ _ hcall
                simp only [List.map_nil, sa_gs] at this
                rw [this]
                dsimp only
                rw [sa_back]
                exact ih _ _ _ _ _ _ _ hr
              · cases hr
            · cases hr
          · next hm0 =>
            rw [hm0]
            dsimp only
            split at hr
            · next nl1 k1 t1 hm1 =>
              rw [hm1]
              dsimp only
              split at hr
              · next hc =>
                rw [if_pos (sa_callc hc), sa_entry]
                split at hr
                · next v1 h1 hcall =>
                  have := sa_run_ok (ρ := ρ) (μ := μ) hF _ _ _ _ _ _ _ _ _ hcall
                  simp only [List.map_nil, sa_gs] at this
                  rw [this]
                  dsimp only
                  rw [sa_back]
                  exact ih _ _ _ _ _ _ _ hr
                · cases hr
              · cases hr
            · cases hr
        · cases hr
      · cases hr
    · cases hr
/-- the run is good: it answers 1, and keeps to so many cells and slots -/
def sa_sz (e : sa_E) : Nat := match e with
  | .inl (_, n, _) => n
  | .inr (_, fs) => fs.length
def sa_good (mc ms : Nat) (r : Option (Option Value × sa_H)) : Bool := match r with
  | some (some (.int x), h) => decide (x = 1) && (decide (h.length ≤ mc) && decide ((h.map sa_sz).sum ≤ ms))
  | _ => false
theorem sa_good_ok (hF : ∀ f ∈ F, sa_true ρ μ f) {tab : List (Option sm_I)} {n d pc mc ms : Nat} {ls : sm_L} {st : List Value} {h : sa_H} (hr : sa_good mc ms (sa_runL F P PW tab n d pc ls st h) = true) :
    ∃ h', sm_runL P PW tab n d pc (sa_gl ρ μ ls) (sa_gs ρ μ st) (sa_gh ρ μ h) = some (some (.int 1), h') ∧ h'.length ≤ mc ∧ sm_sl h' ≤ ms := by
  unfold sa_good at hr
  split at hr
  · next x h1 he =>
    simp only [Bool.and_eq_true, decide_eq_true_eq] at hr
    obtain ⟨rfl, h2, h3⟩ := hr
    refine ⟨_, sa_runL_ok hF _ _ _ _ _ _ _ _ he, by rw [List.length_map]; exact h2, ?_⟩
    have e : sm_sl (sa_gh ρ μ h1) = (h1.map sa_sz).sum := by
      unfold sm_sl
      rw [List.map_map]
      congr 1
      refine List.map_congr_left fun e _ => ?_
      rcases e with ⟨t, n, l⟩ | ⟨ci, fs⟩
      · rfl
      · simp [sa_ge, sm_sz, sa_sz]
    rw [e]
    exact h3
  · cases hr
end SAR
