/-! .. is the machine -/
theorem mi_ti {z : Int} (h : mi_in z) : (Int32.ofInt z).toInt = z := Int32.toInt_ofInt_of_le (by have := h.1; omega) (by have := h.2; omega)
theorem mi_inT (x : Int32) : mi_in x.toInt := ⟨by have := x.le_toInt; omega, by have := x.toInt_lt; omega⟩
theorem mi_tn {z : Int} (h : mi_in z) : (Int32.ofInt z).toNatClampNeg = z.toNat := by
  show (Int32.ofInt z).toInt.toNat = z.toNat
  rw [mi_ti h]
theorem mi_cT (x : Int32) : mi_c (.inl x.toInt) = .int x := by
  show Value.int (Int32.ofInt x.toInt) = _
  rw [Int32.ofInt_toInt]
section MIO
variable {sk : ab_K} {h : sm_H} {pc : Nat} {ls : mi_L} {st : List mi_V} {O : List mi_U}
theorem mi_okO_tl {u : mi_U} {r : List mi_U} (ho : mi_okO (u :: r)) : mi_okO r := fun v hv => ho v (List.mem_cons_of_mem _ hv)
theorem mi_ri_in (c : Nat) : ∀ O : List mi_U, mi_okO O → mi_in (mi_ri O c h) := by
  intro O
  induction O with
  | nil => intro _; exact mi_inT _
  | cons u r ih =>
    intro ho
    have ih := ih (mi_okO_tl ho)
    have h1 := ho u List.mem_cons_self
    rcases u with ⟨c0, z⟩ | ⟨c0, x⟩ | ⟨k, i, z⟩ | ⟨k, i, x⟩
    · unfold mi_ri
      split
      · exact h1
      · exact ih
    · unfold mi_ri
      split
      · exact ⟨by decide, by decide⟩
      · exact ih
    · exact ih
    · exact ih
theorem mi_ra_in (k i : Nat) : ∀ O : List mi_U, mi_okO O → mi_in (mi_ra O k i h) := by
  intro O
  induction O with
  | nil => intro _; exact mi_inT _
  | cons u r ih =>
    intro ho
    have ih := ih (mi_okO_tl ho)
    have h1 := ho u List.mem_cons_self
    rcases u with ⟨c0, z⟩ | ⟨c0, x⟩ | ⟨k0, i0, z⟩ | ⟨k0, i0, x⟩
    · exact ih
    · exact ih
    · unfold mi_ra
      split
      · split
        · exact h1
        · exact ih
      · exact ih
    · exact ih
theorem mi_ri_eq (c : Nat) : ∀ O : List mi_U, mx_ri (O.map mi_cU) c h = Int32.ofInt (mi_ri O c h) := by
  intro O
  induction O with
  | nil => exact (Int32.ofInt_toInt _).symm
  | cons u r ih =>
    rcases u with ⟨c0, z⟩ | ⟨c0, x⟩ | ⟨k, i, z⟩ | ⟨k, i, x⟩
    · show (if c = c0 then Int32.ofInt z else mx_ri (r.map mi_cU) c h) = _
      unfold mi_ri
      split
      · rfl
      · exact ih
    · show (if c = c0 then (0 : Int32) else mx_ri (r.map mi_cU) c h) = _
      unfold mi_ri
      split
      · rfl
      · exact ih
    · exact ih
    · exact ih
theorem mi_rl_eq (c : Nat) : ∀ O : List mi_U, mx_rl (O.map mi_cU) c h = mi_rl O c h := by
  intro O
  induction O with
  | nil => rfl
  | cons u r ih =>
    rcases u with ⟨c0, z⟩ | ⟨c0, x⟩ | ⟨k, i, z⟩ | ⟨k, i, x⟩
    · show (if c = c0 then (0 : Int64) else mx_rl (r.map mi_cU) c h) = _
      unfold mi_rl
      split
      · rfl
      · exact ih
    · show (if c = c0 then x else mx_rl (r.map mi_cU) c h) = _
      unfold mi_rl
      split
      · rfl
      · exact ih
    · exact ih
    · exact ih
theorem mi_ra_eq (k i : Nat) : ∀ O : List mi_U, mx_ra (O.map mi_cU) k i h = Int32.ofInt (mi_ra O k i h) := by
  intro O
  induction O with
  | nil => exact (Int32.ofInt_toInt _).symm
  | cons u r ih =>
    rcases u with ⟨c0, z⟩ | ⟨c0, x⟩ | ⟨k0, i0, z⟩ | ⟨k0, i0, x⟩
    · exact ih
    · exact ih
    · show (if k = k0 then (if i = i0 then Int32.ofInt z else mx_ra (r.map mi_cU) k i h) else mx_ra (r.map mi_cU) k i h) = _
      unfold mi_ra
      split
      · split
        · rfl
        · exact ih
      · exact ih
    · exact ih
theorem mi_rb_eq (k i : Nat) : ∀ O : List mi_U, mx_rb (O.map mi_cU) k i h = mi_rb O k i h := by
  intro O
  induction O with
  | nil => rfl
  | cons u r ih =>
    rcases u with ⟨c0, z⟩ | ⟨c0, x⟩ | ⟨k0, i0, z⟩ | ⟨k0, i0, x⟩
    · exact ih
    · exact ih
    · exact ih
    · show (if k = k0 then (if i = i0 then x else mx_rb (r.map mi_cU) k i h) else mx_rb (r.map mi_cU) k i h) = _
      unfold mi_rb
      split
      · split
        · rfl
        · exact ih
      · exact ih
theorem mi_lget_eq (i : Nat) : sm_lget (mi_cl ls) i = (mi_lget ls i).map mi_c := by
  unfold sm_lget mi_lget mi_cl
  rw [List.getElem?_map]
  cases ls[i]? with
  | none => rfl
  | some o => cases o <;> rfl
theorem mi_kill_eq (i : Nat) : sm_kill (mi_cl ls) i = mi_cl (mi_kill ls i) := by
  cases i with
  | zero => rfl
  | succ j =>
    unfold sm_kill mi_kill mi_cl
    dsimp only
    rw [List.getElem?_map]
    cases ls[j]? with
    | none => rfl
    | some o =>
      rcases o with _ | z | x | a
      · rfl
      · rfl
      · show (ls.map (Option.map mi_c)).set j none = _
        rw [List.map_set]
        rfl
      · rfl
theorem mi_put1_eq (i : Nat) (v : mi_V) : sm_put1 (mi_cl ls) i (mi_c v) = (mi_put1 ls i v).map mi_cl := by
  unfold sm_put1 mi_put1
  rw [mi_kill_eq]
  unfold mi_cl
  rw [List.length_map]
  split
  · rw [Option.map_some, List.map_set]
    rfl
  · rfl
theorem mi_put2_eq (i : Nat) (v : mi_V) : sm_put2 (mi_cl ls) i (mi_c v) = (mi_put2 ls i v).map mi_cl := by
  unfold sm_put2 mi_put2
  rw [mi_kill_eq]
  unfold mi_cl
  rw [List.length_map]
  split
  · rw [Option.map_some, List.map_set, List.map_set]
    rfl
  · rfl
theorem mi_okL_set {i : Nat} {o : Option mi_V} (hl : mi_okL ls) (ho : ∀ v, o = some v → mi_ok v) : mi_okL (ls.set i o) := fun v hv => by
  rcases List.mem_or_eq_of_mem_set hv with hv | hv
  · exact hl v hv
  · exact ho v hv.symm
theorem mi_okL_kill {i : Nat} (hl : mi_okL ls) : mi_okL (mi_kill ls i) := by
  unfold mi_kill
  split
  · exact hl
  · split
    · exact mi_okL_set hl (fun v hv => by cases hv)
    · exact hl
theorem mi_okL_put1 {i : Nat} {v : mi_V} {l : mi_L} (hl : mi_okL ls) (hv : mi_ok v) (hp : mi_put1 ls i v = some l) : mi_okL l := by
  unfold mi_put1 at hp
  split at hp
  · cases hp
    exact mi_okL_set (mi_okL_kill hl) (fun w hw => by cases hw; exact hv)
  · cases hp
theorem mi_okL_put2 {i : Nat} {v : mi_V} {l : mi_L} (hl : mi_okL ls) (hv : mi_ok v) (hp : mi_put2 ls i v = some l) : mi_okL l := by
  unfold mi_put2 at hp
  split at hp
  · cases hp
    exact mi_okL_set (mi_okL_set (mi_okL_kill hl) (fun w hw => by cases hw; exact hv)) (fun w hw => by cases hw)
  · cases hp
theorem mi_okL_get {i : Nat} {v : mi_V} (hl : mi_okL ls) (hg : mi_lget ls i = some v) : mi_ok v := by
  unfold mi_lget at hg
  split at hg
  · next w hw =>
    cases hg
    exact hl _ (List.mem_of_getElem? hw)
  · cases hg
theorem mi_okS_cons {v : mi_V} {r : List mi_V} (hv : mi_ok v) (hr : mi_okS r) : mi_okS (v :: r) := fun w hw => by
  rcases List.mem_cons.mp hw with rfl | hw
  · exact hv
  · exact hr w hw
theorem mi_okS_tl {v : mi_V} {r : List mi_V} (hs : mi_okS (v :: r)) : mi_okS r := fun w hw => hs w (List.mem_cons_of_mem _ hw)
theorem mi_okS_hd {v : mi_V} {r : List mi_V} (hs : mi_okS (v :: r)) : mi_ok v := hs v List.mem_cons_self
theorem mi_cmp_ok {c : ClassFile.Cond} {x y : Int} (hx : mi_in x) (hy : mi_in y) (hc : mi_cmp c x y) : sm_cmp c (Int32.ofInt x) (Int32.ofInt y) = true := by
  rw [ab_cmp]
  cases c <;> simp only [mi_ti hx, mi_ti hy, mi_cmp, decide_eq_true_eq, Bool.not_eq_true', decide_eq_false_iff_not, ne_eq] at hc ⊢ <;> exact hc
theorem mi_cmp_no {c : ClassFile.Cond} {x y : Int} (hx : mi_in x) (hy : mi_in y) (hc : mi_cmp (ab_neg c) x y) : sm_cmp c (Int32.ofInt x) (Int32.ofInt y) = false := by
  have := mi_cmp_ok hx hy hc
  rw [ab_cmp_neg] at this
  simpa using this
theorem mi_catv (v : mi_V) : (mi_c v).category = mi_cat v := by
  rcases v with z | x | a <;> rfl
theorem mi_none {p : Prop} (hp : p ∈ ([] : List Prop)) : p := absurd hp List.not_mem_nil
/-- what is said of one step -/
def mi_good (sk : ab_K) (q : sm_I) (pc : Nat) (ls : mi_L) (st : List mi_V) (h : sm_H) (O : List mi_U) (b : Nat) (R : mi_R) : Prop :=
  (∃ ob, mo_step sk q pc (mi_cl ls) (st.map mi_c) h (O.map mi_cU) b = some (R.1, mi_cl R.2.1, R.2.2.1.map mi_c, R.2.2.2.1.map mi_cU, ob) ∧ ∀ p ∈ ob, p) ∧ mi_okL R.2.1 ∧ mi_okS R.2.2.1 ∧ mi_okO R.2.2.2.1
theorem mi_ld_ok {q : sm_I} {b n : Nat} {R : mi_R} {v : Option mi_V} (hs : mi_ld n pc ls st O v = some R) (hl : mi_okL ls) (hst : mi_okS st) (hO : mi_okO O) (hv : ∀ w, v = some w → mi_ok w) (hm : ∀ w, v = some w → mo_step sk q pc (mi_cl ls) (st.map mi_c) h (O.map mi_cU) b = some (pc + n, mi_cl ls, mi_c w :: st.map mi_c, O.map mi_cU, [])) : mi_good sk q pc ls st h O b R := by
  unfold mi_ld at hs
  split at hs
  · next w =>
    cases hs
    exact ⟨⟨[], hm w rfl, fun p hp => mi_none hp⟩, hl, mi_okS_cons (hv w rfl) hst, hO⟩
  · cases hs
theorem mi_isI_eq {v : Option mi_V} {w : mi_V} (hv : mi_isI v = some w) : v = some w ∧ ∃ z, w = .inl z := by
  unfold mi_isI at hv
  split at hv
  · next z => cases hv; exact ⟨rfl, z, rfl⟩
  · cases hv
theorem mi_isL_eq {v : Option mi_V} {w : mi_V} (hv : mi_isL v = some w) : v = some w ∧ ∃ z, w = .inr (.inl z) := by
  unfold mi_isL at hv
  split at hv
  · next z => cases hv; exact ⟨rfl, z, rfl⟩
  · cases hv
theorem mi_isA_eq {v : Option mi_V} {w : mi_V} (hv : mi_isA v = some w) : v = some w ∧ ∃ z, w = .inr (.inr z) := by
  unfold mi_isA at hv
  split at hv
  · next z => cases hv; exact ⟨rfl, z, rfl⟩
  · cases hv
theorem mi_sto_ok {q : sm_I} {b n : Nat} {R : mi_R} {l : Option mi_L} {v : mi_V} {r : List mi_V} (hs : mi_sto n pc r O l = some R) (hst : mi_okS r) (hO : mi_okO O) (hv : ∀ w, l = some w → mi_okL w) (hm : ∀ w, l = some w → mo_step sk q pc (mi_cl ls) ((v :: r).map mi_c) h (O.map mi_cU) b = some (pc + n, mi_cl w, r.map mi_c, O.map mi_cU, [])) : mi_good sk q pc ls (v :: r) h O b R := by
  unfold mi_sto at hs
  split at hs
  · next w =>
    cases hs
    exact ⟨⟨[], hm w rfl, fun p hp => mi_none hp⟩, hv w rfl, hst, hO⟩
  · cases hs
theorem mi_bd_ok {lo hi z : Int} (hz : mi_in z) (hb : ∀ p ∈ mi_bd lo hi z, p) : lo ≤ z ∧ z ≤ hi := by
  unfold mi_bd at hb
  split at hb
  · next hc =>
    have h1 := hz.1
    have h2 := hz.2
    omega
  · exact hb _ List.mem_cons_self
theorem mi_bdL_ok {lo hi : Int} {x : Int64} (hb : ∀ p ∈ mi_bdL lo hi x, p) : lo ≤ x.toInt ∧ x.toInt ≤ hi := by
  unfold mi_bdL at hb
  split at hb
  · next hc =>
    have h1 := x.le_toInt
    have h2 := x.toInt_lt
    omega
  · exact hb _ List.mem_cons_self
theorem mi_okO_cons {u : mi_U} (hu : match u with
  | .inl (_, z) => mi_in z
  | .inr (.inr (.inl (_, _, z))) => mi_in z
  | _ => True) (ho : mi_okO O) : mi_okO (u :: O) := fun v hv => by
  rcases List.mem_cons.mp hv with rfl | hv
  · exact hu
  · exact ho v hv
end MIO
