/-! WHAT LIES IN THE CELLS behind a store; the shape alone is asked for -/
def mx_sp1 (s : ab_S) (e : Option sm_E) : Prop := match s with
  | .inl (t, n, _, _, _) => ∃ c, e = some (.inl (t, n, c)) ∧ ((t = 1 ∧ ∃ f, c = .inr (.inl f)) ∨ (t ≠ 1 ∧ ∃ f, c = .inl f))
  | .inr (ci, fl) => ∃ fs, e = some (.inr (ci, fs)) ∧ fs.length = fl.length
def mx_Sp (sk : ab_K) (h : sm_H) : Prop := ∀ (k : Nat) (s : ab_S), sk[k]? = some (some s) → mx_sp1 s h[k]?
def mx_isF (sk : ab_K) (c : Nat) : Bool := match sk[c / 128]? with
  | some (some (.inr (_, fl))) => decide (c % 128 < fl.length)
  | _ => false
/-- an array of ints (chars, booleans); of longs -/
def mx_isA (sk : ab_K) (k : Nat) : Bool := match sk[k]? with
  | some (some (.inl (t, _, _, _, _))) => decide (t ≠ 1)
  | _ => false
def mx_isB (sk : ab_K) (k : Nat) : Bool := match sk[k]? with
  | some (some (.inl (t, _, _, _, _))) => decide (t = 1)
  | _ => false
section MXR
variable {sk : ab_K} {h : sm_H}
theorem mx_Sh_Sp (hS : ab_Sh sk h) : mx_Sp sk h := by
  intro k s hk
  have := hS k s hk
  rcases s with ⟨t, n, lo, hi, ex⟩ | ⟨ci, fl⟩
  · obtain ⟨c, e1, e2⟩ := this
    refine ⟨c, e1, ?_⟩
    rcases c with f | f | f | f | f
    · exact Or.inr ⟨e2.1, f, rfl⟩
    · exact Or.inl ⟨e2.1, f, rfl⟩
    · exact (show False from e2).elim
    · exact (show False from e2).elim
    · exact (show False from e2).elim
  · obtain ⟨fs, e1, e2, -⟩ := this
    exact ⟨fs, e1, e2⟩
theorem mx_Sp_set {k : Nat} {e' : sm_E} (hS : mx_Sp sk h) (hk : k < h.length) (he : ∀ s, sk[k]? = some (some s) → mx_sp1 s (some e')) : mx_Sp sk (h.set k e') := fun j s hj => by
  by_cases e : k = j
  · subst e
    rw [List.getElem?_set_self hk]
    exact he s hj
  · rw [List.getElem?_set_ne e]
    exact hS j s hj
theorem mx_Sp_pf {c : Nat} {v : Value} (hS : mx_Sp sk h) : mx_Sp sk (mx_pf h c v) := by
  unfold mx_pf
  split
  · next ci fs hk =>
    refine mx_Sp_set hS (List.getElem?_eq_some_iff.mp hk).1 fun s hs => ?_
    have := hS _ _ hs
    rw [hk] at this
    rcases s with ⟨t, n, lo, hi, ex⟩ | ⟨ci', fl⟩
    · obtain ⟨c, e1, -⟩ := this
      cases e1
    · obtain ⟨fs', e1, e2⟩ := this
      cases e1
      exact ⟨_, rfl, by rw [List.length_set]; exact e2⟩
  · exact hS
theorem mx_Sp_pa {k i : Nat} {x : Int32} (hS : mx_Sp sk h) : mx_Sp sk (mx_pa h k i x) := by
  unfold mx_pa
  split
  · next t n f hk =>
    refine mx_Sp_set hS (List.getElem?_eq_some_iff.mp hk).1 fun s hs => ?_
    have := hS _ _ hs
    rw [hk] at this
    rcases s with ⟨t', n', lo, hi, ex⟩ | ⟨ci', fl⟩
    · obtain ⟨c, e1, e2⟩ := this
      cases e1
      refine ⟨_, rfl, ?_⟩
      rcases e2 with ⟨-, g, e3⟩ | ⟨e3, -⟩
      · cases e3
      · exact Or.inr ⟨e3, _, rfl⟩
    · obtain ⟨fs', e1, e2⟩ := this
      cases e1
  · exact hS
theorem mx_Sp_pb {k i : Nat} {x : Int64} (hS : mx_Sp sk h) : mx_Sp sk (mx_pb h k i x) := by
  unfold mx_pb
  split
  · next t n f hk =>
    refine mx_Sp_set hS (List.getElem?_eq_some_iff.mp hk).1 fun s hs => ?_
    have := hS _ _ hs
    rw [hk] at this
    rcases s with ⟨t', n', lo, hi, ex⟩ | ⟨ci', fl⟩
    · obtain ⟨c, e1, e2⟩ := this
      cases e1
      refine ⟨_, rfl, ?_⟩
      rcases e2 with ⟨e3, -⟩ | ⟨-, g, e3⟩
      · exact Or.inl ⟨e3, _, rfl⟩
      · cases e3
    · obtain ⟨fs', e1, e2⟩ := this
      cases e1
  · exact hS
theorem mx_fld_pf {c0 c : Nat} {v : Value} (hS : mx_Sp sk h) (hk : mx_isF sk c0 = true) : ab_fld (mx_pf h c0 v) c = if c = c0 then some v else ab_fld h c := by
  unfold mx_isF at hk
  split at hk
  · next ci fl hsk =>
    rw [decide_eq_true_eq] at hk
    obtain ⟨fs, e1, e2⟩ := hS _ _ hsk
    have hlt : c0 % 128 < fs.length := by rw [e2]; exact hk
    have e : mx_pf h c0 v = h.set (c0 / 128) (.inr (ci, fs.set (c0 % 128) v)) := by
      unfold mx_pf
      rw [e1]
    have e0 : c0 / 128 * 128 + c0 % 128 = c0 := by omega
    rw [e]
    split
    · next hc =>
      subst hc
      have := ab_fld_at (h := h.set (c / 128) (.inr (ci, fs.set (c % 128) v))) (k := c / 128) (f := c % 128) (ci := ci) (fs := fs.set (c % 128) v) (by omega) (List.getElem?_set_self (List.getElem?_eq_some_iff.mp e1).1)
      rw [e0] at this
      rw [this, List.getElem?_set_self hlt]
    · next hc => exact ab_fld_ne e1 (by rw [e0]; exact hc) (by omega)
  · cases hk
theorem mx_fld_pa {k i c : Nat} {x : Int32} : ab_fld (mx_pa h k i x) c = ab_fld h c := by
  unfold mx_pa
  split
  · next hk => exact ab_fld_arr hk
  · rfl
theorem mx_fld_pb {k i c : Nat} {x : Int64} : ab_fld (mx_pb h k i x) c = ab_fld h c := by
  unfold mx_pb
  split
  · next hk => exact ab_fld_arr hk
  · rfl
theorem mx_i_pf {c0 c : Nat} {x : Int32} (hS : mx_Sp sk h) (hk : mx_isF sk c0 = true) : mx_i (mx_pf h c0 (.int x)) c = if c = c0 then x else mx_i h c := by
  unfold mx_i
  rw [mx_fld_pf hS hk]
  by_cases hc : c = c0
  · rw [if_pos hc, if_pos hc]
  · rw [if_neg hc, if_neg hc]
theorem mx_i_pl {c0 c : Nat} {x : Int64} (hS : mx_Sp sk h) (hk : mx_isF sk c0 = true) : mx_i (mx_pf h c0 (.long x)) c = if c = c0 then 0 else mx_i h c := by
  unfold mx_i
  rw [mx_fld_pf hS hk]
  by_cases hc : c = c0
  · rw [if_pos hc, if_pos hc]
  · rw [if_neg hc, if_neg hc]
theorem mx_l_pl {c0 c : Nat} {x : Int64} (hS : mx_Sp sk h) (hk : mx_isF sk c0 = true) : mx_l (mx_pf h c0 (.long x)) c = if c = c0 then x else mx_l h c := by
  unfold mx_l
  rw [mx_fld_pf hS hk]
  by_cases hc : c = c0
  · rw [if_pos hc, if_pos hc]
  · rw [if_neg hc, if_neg hc]
theorem mx_l_pf {c0 c : Nat} {x : Int32} (hS : mx_Sp sk h) (hk : mx_isF sk c0 = true) : mx_l (mx_pf h c0 (.int x)) c = if c = c0 then 0 else mx_l h c := by
  unfold mx_l
  rw [mx_fld_pf hS hk]
  by_cases hc : c = c0
  · rw [if_pos hc, if_pos hc]
  · rw [if_neg hc, if_neg hc]
theorem mx_i_pa {k i c : Nat} {x : Int32} : mx_i (mx_pa h k i x) c = mx_i h c := by unfold mx_i; rw [mx_fld_pa]
theorem mx_i_pb {k i c : Nat} {x : Int64} : mx_i (mx_pb h k i x) c = mx_i h c := by unfold mx_i; rw [mx_fld_pb]
theorem mx_l_pa {k i c : Nat} {x : Int32} : mx_l (mx_pa h k i x) c = mx_l h c := by unfold mx_l; rw [mx_fld_pa]
theorem mx_l_pb {k i c : Nat} {x : Int64} : mx_l (mx_pb h k i x) c = mx_l h c := by unfold mx_l; rw [mx_fld_pb]
theorem mx_a_pf {c k i : Nat} {v : Value} : mx_a (mx_pf h c v) k i = mx_a h k i := by
  unfold mx_pf
  split
  · next ci fs hk =>
    unfold mx_a
    by_cases e : c / 128 = k
    · subst e
      rw [List.getElem?_set_self (List.getElem?_eq_some_iff.mp hk).1, hk]
    · rw [List.getElem?_set_ne e]
  · rfl
theorem mx_b_pf {c k i : Nat} {v : Value} : mx_b (mx_pf h c v) k i = mx_b h k i := by
  unfold mx_pf
  split
  · next ci fs hk =>
    unfold mx_b
    by_cases e : c / 128 = k
    · subst e
      rw [List.getElem?_set_self (List.getElem?_eq_some_iff.mp hk).1, hk]
    · rw [List.getElem?_set_ne e]
  · rfl
theorem mx_a_pa {k0 i0 k i : Nat} {x : Int32} (hS : mx_Sp sk h) (hk : mx_isA sk k0 = true) : mx_a (mx_pa h k0 i0 x) k i = if k = k0 ∧ i = i0 then x else mx_a h k i := by
  unfold mx_isA at hk
  split at hk
  · next t n lo hi ex hsk =>
    rw [decide_eq_true_eq] at hk
    obtain ⟨c, e1, e2⟩ := hS _ _ hsk
    rcases e2 with ⟨e2, -⟩ | ⟨-, f, rfl⟩
    · exact absurd e2 hk
    · have e : mx_pa h k0 i0 x = h.set k0 (.inl (t, n, .inl (upd f i0 x))) := by
        unfold mx_pa
        rw [e1]
      rw [e]
      unfold mx_a
      by_cases ek : k0 = k
      · subst ek
        rw [List.getElem?_set_self (List.getElem?_eq_some_iff.mp e1).1, e1]
        dsimp only
        unfold upd
        by_cases ei : i = i0
        · rw [if_pos ei, if_pos ⟨rfl, ei⟩]
        · rw [if_neg ei, if_neg (fun z => ei z.2)]
      · rw [List.getElem?_set_ne ek, if_neg (fun z => ek z.1.symm)]
  · cases hk
theorem mx_b_pb {k0 i0 k i : Nat} {x : Int64} (hS : mx_Sp sk h) (hk : mx_isB sk k0 = true) : mx_b (mx_pb h k0 i0 x) k i = if k = k0 ∧ i = i0 then x else mx_b h k i := by
  unfold mx_isB at hk
  split at hk
  · next t n lo hi ex hsk =>
    rw [decide_eq_true_eq] at hk
    obtain ⟨c, e1, e2⟩ := hS _ _ hsk
    rcases e2 with ⟨-, f, rfl⟩ | ⟨e2, -⟩
    · have e : mx_pb h k0 i0 x = h.set k0 (.inl (t, n, .inr (.inl (vp_updL f i0 x)))) := by
        unfold mx_pb
        rw [e1]
      rw [e]
      unfold mx_b
      by_cases ek : k0 = k
      · subst ek
        rw [List.getElem?_set_self (List.getElem?_eq_some_iff.mp e1).1, e1]
        dsimp only
        unfold vp_updL
        by_cases ei : i = i0
        · rw [if_pos ei, if_pos ⟨rfl, ei⟩]
        · rw [if_neg ei, if_neg (fun z => ei z.2)]
      · rw [List.getElem?_set_ne ek, if_neg (fun z => ek z.1.symm)]
    · exact absurd hk e2
  · cases hk
theorem mx_a_pb {k0 i0 k i : Nat} {x : Int64} : mx_a (mx_pb h k0 i0 x) k i = mx_a h k i := by
  unfold mx_pb
  split
  · next t n f hk =>
    unfold mx_a
    by_cases e : k0 = k
    · subst e
      rw [List.getElem?_set_self (List.getElem?_eq_some_iff.mp hk).1, hk]
    · rw [List.getElem?_set_ne e]
  · rfl
theorem mx_b_pa {k0 i0 k i : Nat} {x : Int32} : mx_b (mx_pa h k0 i0 x) k i = mx_b h k i := by
  unfold mx_pa
  split
  · next t n f hk =>
    unfold mx_b
    by_cases e : k0 = k
    · subst e
      rw [List.getElem?_set_self (List.getElem?_eq_some_iff.mp hk).1, hk]
    · rw [List.getElem?_set_ne e]
  · rfl
/-- bounds of what lies in a field, in an array -/
theorem mx_i_bd {c : Nat} {lo hi : Int} (hS : ab_Sh sk h) (hd : ab_dflt sk c = some (1, lo, hi, [])) : lo ≤ (mx_i h c).toInt ∧ (mx_i h c).toInt ≤ hi := by
  obtain ⟨x, e, h1, h2, -⟩ := ab_kd1 (ab_dflt_ok (ls := []) (L0 := []) (h0 := []) hS hd) rfl
  unfold mx_i
  rw [e]
  exact ⟨h1, h2⟩
theorem mx_a_bd {k t n i : Nat} {lo hi : Int} {ex : List Int} (hS : ab_Sh sk h) (hk : sk[k]? = some (some (.inl (t, n, lo, hi, ex)))) (ht : t ≠ 1) (hi' : i < n) : lo ≤ (mx_a h k i).toInt ∧ (mx_a h k i).toInt ≤ hi := by
  obtain ⟨f, e1, e2⟩ := mx_arr hS hk ht
  unfold mx_a
  rw [e1]
  exact ⟨(e2 i hi').1, (e2 i hi').2.1⟩
end MXR
