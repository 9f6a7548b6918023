/-! WORDS AND LISTS that the tables are checked by -/
def sc_Ts : List Cond := lx_tbl.filter goodWord
theorem sc_gw : ∀ w ∈ sc_Ts, goodWord w = true := fun w h => (List.mem_filter.mp h).2
theorem sm_mem {w : Cond} (i : Nat) (h : (lx_tbl[i]?.any (fun v => decide (v = w)) && goodWord w) = true) : w ∈ sc_Ts := by
  rw [Bool.and_eq_true] at h
  obtain ⟨h1, h2⟩ := h
  rw [Option.any_eq_true_iff_get] at h1
  obtain ⟨h3, h4⟩ := h1
  have h5 : lx_tbl[i]? = some w := by
    rw [← Option.some_get h3]
    exact congrArg some (of_decide_eq_true h4)
  exact List.mem_filter.mpr ⟨List.mem_of_getElem? h5, h2⟩
theorem sm_al1 {Q : Nat → Prop} {a : Nat} (h1 : Q a) : ∀ ci ∈ [a], Q ci := fun ci h => by rw [List.mem_singleton.mp h]; exact h1
theorem sm_al2 {Q : Nat → Prop} {a b : Nat} (h1 : Q a) (h2 : Q b) : ∀ ci ∈ [a, b], Q ci := fun ci h => by
  rcases List.mem_cons.mp h with rfl | h
  · exact h1
  · exact sm_al1 h2 ci h
theorem sm_al3 {Q : Nat → Prop} {a b c : Nat} (h1 : Q a) (h2 : Q b) (h3 : Q c) : ∀ ci ∈ [a, b, c], Q ci := fun ci h => by
  rcases List.mem_cons.mp h with rfl | h
  · exact h1
  · exact sm_al2 h2 h3 ci h
theorem sm_pk1 {Q : Nat → Nat → Prop} {a x : Nat} (h1 : Q a x) : ∀ ci mi, sm_pick ci [a, x] = some mi → Q ci mi := fun ci mi h => by
  simp only [sm_pick] at h
  split at h
  · next e => cases h; subst e; exact h1
  · cases h
theorem sm_pk2 {Q : Nat → Nat → Prop} {a x b y : Nat} (h1 : Q a x) (h2 : Q b y) : ∀ ci mi, sm_pick ci [a, x, b, y] = some mi → Q ci mi := fun ci mi h => by
  rw [sm_pick] at h
  split at h
  · next e => cases h; subst e; exact h1
  · exact sm_pk1 h2 ci mi h
theorem sm_pk3 {Q : Nat → Nat → Prop} {a x b y c z : Nat} (h1 : Q a x) (h2 : Q b y) (h3 : Q c z) : ∀ ci mi, sm_pick ci [a, x, b, y, c, z] = some mi → Q ci mi := fun ci mi h => by
  rw [sm_pick] at h
  split at h
  · next e => cases h; subst e; exact h1
  · exact sm_pk2 h2 h3 ci mi h
