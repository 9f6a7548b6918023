/-! walks once more; sizes -/
section GRP
variable {g g' : wk_g} {kw : Int → Bool} {E : pm_E}
theorem g9_at {n : Nat} {s : gm_S} {c : gm_C} (h : gm_to g kw n ([], s) c) : c = ([], s) := by
  cases n with
  | zero =>
    have h : ([], s) = c := h
    exact h.symm
  | succ n =>
    obtain ⟨e, r, c1, h1, -⟩ := h
    have h1 : ([] : List wk_E) = e :: r := h1
    cases h1
theorem g9_det {m : Option gm_C} {s t : gm_S} (a : gm_RO g kw m ([], s)) (b : gm_RO g kw m ([], t)) : s = t := by
  obtain ⟨c1, n1, e1, a⟩ := a
  obtain ⟨c2, n2, e2, b⟩ := b
  have e : c2 = c1 := Option.some.inj (e2.symm.trans e1)
  subst e
  rcases Nat.le_total n1 n2 with l | l
  · exact (congrArg Prod.snd (g9_at (gm_det n1 n2 _ a b l))).symm
  · exact congrArg Prod.snd (g9_at (gm_det n2 n1 _ b a l))
theorem g9_not {m : Option gm_C} {s : gm_S} (a : gm_RO g kw m ([], s)) (b : gm_NO g kw m) : False := by
  obtain ⟨c1, n1, e1, a⟩ := a
  rcases b with b | ⟨c2, n2, e2, b⟩
  · rw [e1] at b; cases b
  · have e : c2 = c1 := Option.some.inj (e2.symm.trans e1)
    subst e
    obtain ⟨-, k⟩ := gm_detn n1 n2 _ a b
    generalize n2 - n1 = j at k
    cases j with
    | zero =>
      obtain ⟨e, r, h1, -⟩ := k
      have h1 : ([] : List wk_E) = e :: r := h1
      cases h1
    | succ j =>
      obtain ⟨e, r, c1, h1, -⟩ := k
      have h1 : ([] : List wk_E) = e :: r := h1
      cases h1
theorem gc9_0 (g : wk_g) (zx : Int64) (zf : Int) : gc_0 g zx zf = some (gr_c0 g zx zf) := rfl
theorem gr9_c0 (hg : wk_gc g g') (zx : Int64) (zf : Int) : gr_c0 g' zx zf = gr_c0 g zx zf := by
  unfold gr_c0
  rw [hg 114 (by decide)]
theorem pc9_0 (hg : wk_gc g g') : pc_0 g' 0 = pc_0 g 0 := by
  rw [pc_0_e, pc_0_e, hg 114 (by decide)]
theorem pm_NO_g (hg : wk_gc g g') (k : pm_NO g' E (pc_0 g' 0)) : pm_NO g E (pc_0 g 0) := by
  intro c1 hc n s' hs
  rw [pc9_0 hg] at k
  exact k c1 hc n s' (by rw [pm_st_g hg]; exact hs)
theorem pm_RO_g {c : gm_C} (hg : wk_gc g g') (k : pm_RO g' E (pc_0 g' 0) c) : pm_RO g E (pc_0 g 0) c := by
  obtain ⟨c1, n, e1, k⟩ := k
  rw [pc9_0 hg] at e1
  rw [pm_st_g hg] at k
  exact ⟨c1, n, e1, k⟩
theorem pm_RO_u {m : Option gm_C} {s t : gm_S} (a : pm_RO g E m ([], s)) (b : pm_RO g E m ([], t)) : t = s := by
  obtain ⟨c1, n1, e1, a⟩ := a
  obtain ⟨c2, n2, e2, b⟩ := b
  have e : c2 = c1 := Option.some.inj (e2.symm.trans e1)
  subst e
  exact pw_u a b
theorem pm_x_NO {m : Option gm_C} {s : gm_S} (a : pm_RO g E m ([], s)) (k : pm_K E s = 0) (b : pm_NO g E m) : False := by
  obtain ⟨c1, n1, e1, a⟩ := a
  exact b c1 e1 n1 s a k
end GRP
theorem sz_vT (V : Int → Int) : ∀ T : List (Int × Int × Int), sz (vT V T) = sz T := by
  intro T
  induction T with
  | nil => rfl
  | cons x A ih =>
    have tl : ∀ (l : Int) (B : List (Int × Int × Int)), ((vT V B).takeWhile (fun y => decide (l < y.2.2))).length = (B.takeWhile (fun y => decide (l < y.2.2))).length := by
      intro l B
      induction B with
      | nil => rfl
      | cons b B ihB =>
        have e : vT V (b :: B) = (b.1, V (b.1 / 10), b.2.2) :: vT V B := rfl
        rw [e, List.takeWhile_cons, List.takeWhile_cons]
        by_cases c : l < b.2.2
        · have d1 : decide (l < ((b.1, V (b.1 / 10), b.2.2) : Int × Int × Int).2.2) = true := decide_eq_true c
          have d2 : decide (l < b.2.2) = true := decide_eq_true c
          rw [if_pos d1, if_pos d2, List.length_cons, List.length_cons, ihB]
        · have d1 : ¬ decide (l < ((b.1, V (b.1 / 10), b.2.2) : Int × Int × Int).2.2) = true := fun q => c (of_decide_eq_true q)
          have d2 : ¬ decide (l < b.2.2) = true := fun q => c (of_decide_eq_true q)
          rw [if_neg d1, if_neg d2]
    show ((((vT V A).takeWhile (fun y => decide (x.2.2 < y.2.2))).length : Int) :: sz (vT V A)) = _
    rw [tl, ih]
    rfl
theorem fo_vT {V : Int → Int} {T : List (Int × Int × Int)} {D : Int} (h : fo D T) : fo D (vT V T) := by
  refine ⟨fun x hx => ?_, fun x B e => ?_⟩
  · obtain ⟨y, y1, y2⟩ := List.mem_map.mp hx
    rw [← y2]
    exact h.1 y y1
  · cases T with
    | nil => cases e
    | cons b T =>
      have e : (b.1, V (b.1 / 10), b.2.2) :: vT V T = x :: B := e
      injection e with e1 e2
      rw [← e1]
      exact h.2 b T rfl
theorem vT_get {V : Int → Int} {T : List (Int × Int × Int)} {k : Nat} {x : Int × Int × Int} (h : T[k]? = some x) : (vT V T)[k]? = some (x.1, V (x.1 / 10), x.2.2) := by
  unfold vT
  rw [List.getElem?_map, h]
  rfl
