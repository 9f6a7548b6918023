/-! PICTURES AND HEAPS: what the small machine's state says of the JVM's. N0: the heap's size when the law began; cs: where the text constants lie. -/
def sm_mv (ad : Nat → Nat) (v : Value) : Value := match v with
  | .ref k => .ref (ad k)
  | .int x => .int x
  | .long x => .long x
  | .float x => .float x
  | .double x => .double x
  | .null => .null
  | .retAddr x => .retAddr x
def sm_ad (N0 : Nat) (cs : Nat → Nat) (k : Nat) : Nat := if k < sm_C then cs k else N0 + (k - sm_C)
def sm_me (ad : Nat → Nat) (tys : List (ClassId × FieldType)) (e : sm_E) : va_E := match e with
  | .inl (t, a) => .inl ((tys.getD t (0, .int)).1, a)
  | .inr (ci, fs) => .inr (ci, fs.map (sm_mv ad))
/-- the heap holds the picture; K: the cells that were there before -/
def sm_P (D : va_G) (cl : List vw_C) (tys : List (ClassId × FieldType)) (N0 : Nat) (cs : Nat → Nat) (K : sm_H) (h : sm_H) (H : Heap) : Prop :=
  H.size + sm_C = N0 + h.length ∧ sm_C ≤ h.length ∧ (∀ k, k < sm_C → cs k < N0 ∧ h[k]? = K[k]?) ∧ ∀ (k : Nat) (e : sm_E), sm_C ≤ k → h[k]? = some e → va_at D cl (sm_ad N0 cs k, sm_me (sm_ad N0 cs) tys e) H
/-- the locals hold the picture -/
def sm_LR (ad : Nat → Nat) (ls : sm_L) (LS : Array Slot) : Prop := LS.size = ls.length ∧ lv_wf LS ∧ ∀ (i : Nat) (v : Value), ls[i]? = some (some v) → LS[i]? = some (.val (sm_mv ad v))
theorem sm_cat (ad : Nat → Nat) (v : Value) : (sm_mv ad v).category = v.category := by cases v <;> rfl
theorem sm_ad_ge {N0 : Nat} {cs : Nat → Nat} {k : Nat} (h : sm_C ≤ k) : sm_ad N0 cs k = N0 + (k - sm_C) := if_neg (by omega)
theorem sm_ad_lt {N0 : Nat} {cs : Nat → Nat} {k : Nat} (h : k < sm_C) : sm_ad N0 cs k = cs k := if_pos h
def sm_al (ad : Nat → Nat) (ls : sm_L) : List (Nat × Value) := ls.zipIdx.filterMap (fun q => q.1.map (fun v => (q.2, sm_mv ad v)))
theorem sm_al_mem {ad : Nat → Nat} {ls : sm_L} {q : Nat × Value} : q ∈ sm_al ad ls ↔ ∃ v, ls[q.1]? = some (some v) ∧ q.2 = sm_mv ad v := by
  unfold sm_al
  rw [List.mem_filterMap]
  constructor
  · rintro ⟨⟨o, i⟩, h1, h2⟩
    have h3 := List.mem_zipIdx_iff_getElem?.mp h1
    cases o with
    | none => simp at h2
    | some v =>
      simp at h2
      obtain ⟨rfl⟩ := h2
      exact ⟨v, h3, rfl⟩
  · rintro ⟨v, h1, h2⟩
    refine ⟨(some v, q.1), List.mem_zipIdx_iff_getElem?.mpr h1, ?_⟩
    simp [← h2]
theorem sm_LR.has {ad : Nat → Nat} {ls : sm_L} {LS : Array Slot} (h : sm_LR ad ls LS) : lv_has LS ls.length (sm_al ad ls) :=
  ⟨h.1, h.2.1, fun q hq => by
    obtain ⟨v, h1, h2⟩ := sm_al_mem.mp hq
    rw [h2]
    exact h.2.2 _ _ h1⟩
theorem sm_lget_at {ad : Nat → Nat} {ls : sm_L} {LS : Array Slot} (h : sm_LR ad ls LS) {i : Nat} {v : Value} (hg : sm_lget ls i = some v) : LS[i]? = some (.val (sm_mv ad v)) := by
  unfold sm_lget at hg
  split at hg
  · next w hw => cases hg; exact h.2.2 _ _ hw
  · cases hg
theorem sm_kill_len (ls : sm_L) (i : Nat) : (sm_kill ls i).length = ls.length := by
  unfold sm_kill
  cases i with
  | zero => rfl
  | succ j =>
    dsimp only
    split
    · split <;> simp
    · rfl
theorem sm_kill_at {ls : sm_L} {i j : Nat} {w : Value} (h : (sm_kill ls i)[j]? = some (some w)) : ls[j]? = some (some w) ∧ ¬ (j + 1 = i ∧ w.category = 2) := by
  unfold sm_kill at h
  cases i with
  | zero => exact ⟨h, fun z => by omega⟩
  | succ k =>
    dsimp only at h
    split at h
    · next v hv =>
      split at h
      · next hc =>
        by_cases hjk : k = j
        · subst hjk
          have hl := (List.getElem?_eq_some_iff.mp hv).1
          rw [List.getElem?_set_self hl] at h
          cases h
        · rw [List.getElem?_set_ne hjk] at h
          exact ⟨h, fun z => by omega⟩
      · next hc =>
        refine ⟨h, fun z => ?_⟩
        have e : j = k := by omega
        subst e
        rw [hv] at h
        cases h
        exact hc z.2
    · next hno =>
      refine ⟨h, fun z => ?_⟩
      have e : j = k := by omega
      subst e
      exact hno _ h
theorem sm_put1_len {ls ls' : sm_L} {i : Nat} {v : Value} (h : sm_put1 ls i v = some ls') : i < ls.length ∧ ls' = (sm_kill ls i).set i (some v) := by
  unfold sm_put1 at h
  split at h
  · next hl => cases h; exact ⟨hl, rfl⟩
  · cases h
theorem sm_put2_len {ls ls' : sm_L} {i : Nat} {v : Value} (h : sm_put2 ls i v = some ls') : i + 1 < ls.length ∧ ls' = ((sm_kill ls i).set i (some v)).set (i + 1) none := by
  unfold sm_put2 at h
  split at h
  · next hl => cases h; exact ⟨hl, rfl⟩
  · cases h
theorem sm_LR.put1 {ad : Nat → Nat} {ls ls' : sm_L} {LS LS' : Array Slot} {i : Nat} {v : Value} (hp : sm_put1 ls i v = some ls')
    (h : lv_has LS' ls.length ((i, sm_mv ad v) :: (sm_al ad ls).filter (fun q => !(q.1 == i) && !(q.1 + 1 == i && q.2.category == 2)))) : sm_LR ad ls' LS' := by
  obtain ⟨hl, rfl⟩ := sm_put1_len hp
  refine ⟨by rw [h.1, List.length_set, sm_kill_len], h.2.1, fun j w hj => ?_⟩
  by_cases hji : i = j
  · subst hji
    rw [List.getElem?_set_self (by rw [sm_kill_len]; exact hl)] at hj
    cases hj
    exact h.2.2 _ List.mem_cons_self
  · rw [List.getElem?_set_ne hji] at hj
    obtain ⟨h1, h2⟩ := sm_kill_at hj
    refine h.2.2 (j, sm_mv ad w) (List.mem_cons_of_mem _ (List.mem_filter.mpr ⟨sm_al_mem.mpr ⟨w, h1, rfl⟩, ?_⟩))
    simp only [sm_cat]
    by_cases hc : w.category = 2
    · have : ¬ j + 1 = i := fun z => h2 ⟨z, hc⟩
      simp [hc, this, Ne.symm hji]
    · simp [hc, Ne.symm hji]
theorem sm_LR.put2 {ad : Nat → Nat} {ls ls' : sm_L} {LS LS' : Array Slot} {i : Nat} {v : Value} (hp : sm_put2 ls i v = some ls')
    (h : lv_has LS' ls.length ((i, sm_mv ad v) :: (sm_al ad ls).filter (fun q => !(q.1 == i) && (!(q.1 == i + 1) && !(q.1 + 1 == i && q.2.category == 2))))) : sm_LR ad ls' LS' := by
  obtain ⟨hl, rfl⟩ := sm_put2_len hp
  refine ⟨by rw [h.1, List.length_set, List.length_set, sm_kill_len], h.2.1, fun j w hj => ?_⟩
  by_cases hj1 : i + 1 = j
  · subst hj1
    rw [List.getElem?_set_self (by rw [List.length_set, sm_kill_len]; exact hl)] at hj
    cases hj
  · rw [List.getElem?_set_ne hj1] at hj
    by_cases hji : i = j
    · subst hji
      rw [List.getElem?_set_self (by rw [sm_kill_len]; omega)] at hj
      cases hj
      exact h.2.2 _ List.mem_cons_self
    · rw [List.getElem?_set_ne hji] at hj
      obtain ⟨h1, h2⟩ := sm_kill_at hj
      refine h.2.2 (j, sm_mv ad w) (List.mem_cons_of_mem _ (List.mem_filter.mpr ⟨sm_al_mem.mpr ⟨w, h1, rfl⟩, ?_⟩))
      simp only [sm_cat]
      by_cases hc : w.category = 2
      · have : ¬ j + 1 = i := fun z => h2 ⟨z, hc⟩
        simp [hc, this, Ne.symm hji, Ne.symm hj1]
      · simp [hc, Ne.symm hji, Ne.symm hj1]
theorem sm_entry_LR {ad : Nat → Nat} {as : List Value} {n : Nat} (h : (sm_slots as).length ≤ n) : sm_LR ad (sm_entry n as) ((lg_sl (as.map (sm_mv ad)) ++ List.replicate (n - (lg_sl (as.map (sm_mv ad))).length) Slot.unset).toArray) := by
  have key : ∀ vs : List Value, (lg_sl (vs.map (sm_mv ad))).length = (sm_slots vs).length ∧ ∀ (i : Nat) (v : Value), (sm_slots vs)[i]? = some (some v) → (lg_sl (vs.map (sm_mv ad)))[i]? = some (.val (sm_mv ad v)) := by
    intro vs
    induction vs with
    | nil => exact ⟨rfl, fun i v h => by simp [sm_slots] at h⟩
    | cons w vs ih =>
      obtain ⟨h1, h2⟩ := ih
      by_cases hc : w.category = 2
      · have e1 : lg_sl ((w :: vs).map (sm_mv ad)) = .val (sm_mv ad w) :: .second :: lg_sl (vs.map (sm_mv ad)) := by simp [lg_sl, sm_cat, hc]
        have e2 : sm_slots (w :: vs) = some w :: none :: sm_slots vs := by simp [sm_slots, hc]
        rw [e1, e2]
        refine ⟨by simp [h1], fun i v hi => ?_⟩
        match i, hi with
        | 0, hi => simp at hi; subst hi; rfl
        | 1, hi => simp at hi
        | i + 2, hi => exact h2 i v hi
      · have e1 : lg_sl ((w :: vs).map (sm_mv ad)) = .val (sm_mv ad w) :: lg_sl (vs.map (sm_mv ad)) := by simp [lg_sl, sm_cat, hc]
        have e2 : sm_slots (w :: vs) = some w :: sm_slots vs := by simp [sm_slots, hc]
        rw [e1, e2]
        refine ⟨by simp [h1], fun i v hi => ?_⟩
        match i, hi with
        | 0, hi => simp at hi; subst hi; rfl
        | i + 1, hi => exact h2 i v hi
  obtain ⟨h1, h2⟩ := key as
  have hen := lv_entry (as.map (sm_mv ad)) (n := n) (by rw [h1]; exact h)
  refine ⟨by rw [hen.1]; simp [sm_entry]; omega, hen.2.1, fun i v hi => ?_⟩
  unfold sm_entry at hi
  by_cases hl : i < (sm_slots as).length
  · rw [List.getElem?_append_left hl] at hi
    rw [List.getElem?_toArray, List.getElem?_append_left (by rw [h1]; exact hl)]
    exact h2 i v hi
  · rw [List.getElem?_append_right (by omega)] at hi
    have := List.eq_of_mem_replicate (List.mem_of_getElem? hi)
    cases this
