/-! frames and shapes -/
section ABF
variable {L0 ls ls' : sm_L} {h0 h h' h'' : sm_H} {sk : ab_K} {wr wr' : List (Nat × Nat)} {st : List Value} {A : ab_A}
theorem ab_Fr.refl : ab_Fr wr h h := ⟨rfl, rfl, fun k e he => by
  rcases e with x | ⟨ci, fs⟩
  · exact fun _ => he
  · exact ⟨fs, he, fun _ _ => rfl⟩⟩
theorem ab_Fr.trans (a : ab_Fr wr h h') (b : ab_Fr wr h' h'') : ab_Fr wr h h'' := by
  refine ⟨b.1.trans a.1, b.2.1.trans a.2.1, fun k e he => ?_⟩
  have ha := a.2.2 k e he
  rcases e with x | ⟨ci, fs⟩
  · intro hn
    exact b.2.2 k _ (ha hn) hn
  · obtain ⟨fs', h1, h2⟩ := ha
    obtain ⟨fs'', h3, h4⟩ := b.2.2 k _ h1
    exact ⟨fs'', h3, fun f hf => (h4 f hf).trans (h2 f hf)⟩
theorem ab_Fr.wide (a : ab_Fr wr h h') (hw : ∀ c, ab_in wr c = true → ab_in wr' c = true) : ab_Fr wr' h h' := by
  have hn : ∀ c, ab_in wr' c = false → ab_in wr c = false := fun c hc => by
    cases e : ab_in wr c with
    | false => rfl
    | true => rw [hw c e] at hc; cases hc
  refine ⟨a.1, a.2.1, fun k e he => ?_⟩
  have ha := a.2.2 k e he
  rcases e with x | ⟨ci, fs⟩
  · exact fun hc => ha (hn _ hc)
  · obtain ⟨fs', h1, h2⟩ := ha
    exact ⟨fs', h1, fun f hf => h2 f (hn _ hf)⟩
theorem ab_Sh_set {k : Nat} {e' : sm_E} (hS : ab_Sh sk h) (hk : k < h.length) (he : ∀ s, sk[k]? = some (some s) → ab_cell s (some e')) : ab_Sh sk (h.set k e') := fun j s hj => by
  by_cases e : k = j
  · subst e
    rw [List.getElem?_set_self hk]
    exact he s hj
  · rw [List.getElem?_set_ne e]
    exact hS j s hj
theorem ab_Fr_arr {k : Nat} {x x' : Nat × vp_A} (hk : h[k]? = some (.inl x)) (hz : sm_sz (.inl x') = sm_sz (.inl x)) (hw : ab_in wr (k * 128) = true) : ab_Fr wr h (h.set k (.inl x')) := by
  refine ⟨List.length_set, sm_sl_set hz h k hk, fun j e he => ?_⟩
  by_cases ej : k = j
  · subst ej
    rw [hk] at he
    cases he
    intro hn
    rw [hw] at hn
    cases hn
  · have e1 : (h.set k (.inl x'))[j]? = some e := by rw [List.getElem?_set_ne ej]; exact he
    rcases e with x | ⟨ci, fs⟩
    · exact fun _ => e1
    · exact ⟨fs, e1, fun _ _ => rfl⟩
theorem ab_Fr_obj {k ci f : Nat} {fs : List Value} {v : Value} (hk : h[k]? = some (.inr (ci, fs))) (hw : ab_in wr (k * 128 + f) = true) : ab_Fr wr h (h.set k (.inr (ci, fs.set f v))) := by
  refine ⟨List.length_set, sm_sl_set (by simp [sm_sz]) h k hk, fun j e he => ?_⟩
  by_cases ej : k = j
  · subst ej
    rw [hk] at he
    cases he
    refine ⟨fs.set f v, List.getElem?_set_self (List.getElem?_eq_some_iff.mp hk).1, fun g hg => ?_⟩
    have : f ≠ g := fun e => by
      subst e
      rw [hw] at hg
      cases hg
    rw [List.getElem?_set_ne this]
  · have e1 : (h.set k (.inr (ci, fs.set f v)))[j]? = some e := by rw [List.getElem?_set_ne ej]; exact he
    rcases e with x | ⟨ci, fs⟩
    · exact fun _ => e1
    · exact ⟨fs, e1, fun _ _ => rfl⟩
theorem ab_fld_arr {k c : Nat} {x x' : Nat × vp_A} (hk : h[k]? = some (.inl x)) : ab_fld (h.set k (.inl x')) c = ab_fld h c := by
  unfold ab_fld
  by_cases e : k = c / 128
  · rw [← e, hk, List.getElem?_set_self (List.getElem?_eq_some_iff.mp hk).1]
  · rw [List.getElem?_set_ne e]
theorem ab_fld_at {k f ci : Nat} {fs : List Value} (hf : f < 128) (hk : h[k]? = some (.inr (ci, fs))) : ab_fld h (k * 128 + f) = fs[f]? := by
  unfold ab_fld
  have e1 : (k * 128 + f) / 128 = k := by omega
  have e2 : (k * 128 + f) % 128 = f := by omega
  rw [e1, e2, hk]
theorem ab_fld_ne {k f ci c : Nat} {fs : List Value} {v : Value} (hk : h[k]? = some (.inr (ci, fs))) (hc : c ≠ k * 128 + f) (hf : f < 128) : ab_fld (h.set k (.inr (ci, fs.set f v))) c = ab_fld h c := by
  unfold ab_fld
  by_cases e : k = c / 128
  · rw [← e, hk, List.getElem?_set_self (List.getElem?_eq_some_iff.mp hk).1]
    dsimp only
    have : f ≠ c % 128 := by omega
    rw [List.getElem?_set_ne this]
  · rw [List.getElem?_set_ne e]
/-! a move under which no tag is lost -/
theorem ab_okV_mv {a : ab_V} {v : Option Value} (hv : ab_okV ls h L0 h0 a v) (hp : ∀ t z, ab_tg ls h L0 h0 t z → ab_tg ls' h' L0 h0 t z) : ab_okV ls' h' L0 h0 a v := by
  obtain ⟨k, lo, hi, ts⟩ := a
  rcases k with _ | _ | _ | _ | k
  · trivial
  · obtain ⟨x, e, h1, h2, h3⟩ := hv
    exact ⟨x, e, h1, h2, fun t ht => hp t _ (h3 t ht)⟩
  · exact hv
  · exact hv
  · exact (show False from hv).elim
theorem ab_okSt_mv (hp : ∀ t z, ab_tg ls h L0 h0 t z → ab_tg ls' h' L0 h0 t z) : ∀ (as : List ab_V) (st : List Value), ab_okSt ls h L0 h0 as st → ab_okSt ls' h' L0 h0 as st := by
  intro as
  induction as with
  | nil => intro st hs; cases st with
    | nil => trivial
    | cons v s => exact (show False from hs).elim
  | cons a as ih => intro st hs; cases st with
    | nil => exact (show False from hs).elim
    | cons v s => exact ⟨ab_okV_mv hs.1 hp, ih s hs.2⟩
theorem ab_ok_heap (hA : ab_ok L0 h0 A ls st h) (hf : ∀ c, ab_fld h' c = ab_fld h c) : ab_ok L0 h0 A ls st h' := by
  have hp : ∀ t z, ab_tg ls h L0 h0 t z → ab_tg ls h' L0 h0 t z := fun t z ht => ⟨ht.1, fun e => by
    obtain ⟨y, h1, h2⟩ := ht.2.1 e
    exact ⟨y, by rw [hf]; exact h1, h2⟩, ht.2.2⟩
  refine ⟨⟨hA.1.1, fun j a hj => ab_okV_mv (hA.1.2 j a hj) hp⟩, ab_okSt_mv hp _ _ hA.2.1, fun e he => ?_⟩
  rw [hf]
  exact ab_okV_mv (hA.2.2 e he) hp
theorem ab_pop {a : ab_V} {r : List ab_V} (hs : ab_okSt ls h L0 h0 (a :: r) st) : ∃ v s, st = v :: s ∧ ab_okV ls h L0 h0 a (some v) ∧ ab_okSt ls h L0 h0 r s := by
  cases st with
  | nil => exact (show False from hs).elim
  | cons v s => exact ⟨v, s, rfl, hs.1, hs.2⟩
theorem ab_c1_cat {a : ab_V} {v : Value} (hv : ab_okV ls h L0 h0 a (some v)) (hc : ab_c1 a = true) : (∃ x, v = .int x) ∨ ∃ n, v = .ref n := by
  simp only [ab_c1, Bool.or_eq_true, beq_iff_eq] at hc
  rcases hc with hc | hc
  · obtain ⟨x, e, -⟩ := ab_kd1 hv hc
    cases e
    exact Or.inl ⟨x, rfl⟩
  · have e := ab_kd3 hv hc
    cases e
    exact Or.inr ⟨_, rfl⟩
theorem ab_cats_ok : ∀ (r : List ab_V) (s : List Value), ab_okSt ls h L0 h0 r s → r.all (fun a => !(a.1 == 0)) = true → (s.map fun v => v.category).sum = (r.map ab_cat).sum := by
  intro r
  induction r with
  | nil => intro s hs _; cases s with
    | nil => rfl
    | cons v s => exact (show False from hs).elim
  | cons a r ih => intro s hs hn; cases s with
    | nil => exact (show False from hs).elim
    | cons v s =>
      rw [List.all_cons, Bool.and_eq_true] at hn
      have e := ih s hs.2 hn.2
      simp only [List.map_cons, List.sum_cons, e]
      have hv := hs.1
      obtain ⟨k, lo, hi, ts⟩ := a
      rcases k with _ | _ | _ | _ | k
      · simp at hn
      · obtain ⟨x, e1, -⟩ := ab_kd1 hv rfl
        cases e1
        rfl
      · obtain ⟨x, e1, -⟩ := ab_kd2 hv rfl
        cases e1
        rfl
      · have e1 := ab_kd3 hv rfl
        cases e1
        rfl
      · exact (show False from hv).elim
theorem ab_cats_le {r : List ab_V} {s : List Value} (hs : ab_okSt ls h L0 h0 r s) (hc : ab_cats r = true) : (s.map fun v => v.category).sum ≤ 8 := by
  simp only [ab_cats, Bool.and_eq_true, decide_eq_true_eq] at hc
  rw [ab_cats_ok r s hs hc.2]
  exact hc.1
/-! branches: what is known of the numbers becomes more -/
theorem ab_cmp (c : ClassFile.Cond) (x y : Int32) : sm_cmp c x y = match c with
    | .eq => decide (x.toInt = y.toInt)
    | .ne => !decide (x.toInt = y.toInt)
    | .lt => decide (x.toInt < y.toInt)
    | .ge => decide (y.toInt ≤ x.toInt)
    | .gt => decide (y.toInt < x.toInt)
    | .le => decide (x.toInt ≤ y.toInt) := by
  cases c <;> simp only [sm_cmp, Int32.lt_iff_toInt_lt, Int32.le_iff_toInt_le, ← Int32.toInt_inj]
theorem ab_cmp_neg (c : ClassFile.Cond) (x y : Int32) : sm_cmp (ab_neg c) x y = !sm_cmp c x y := by
  rw [ab_cmp, ab_cmp]
  cases c <;> simp only [ab_neg, Bool.not_not] <;> (rw [Bool.eq_iff_iff]; simp only [Bool.not_eq_true', decide_eq_true_eq, decide_eq_false_iff_not]; omega)
theorem ab_meet_ok {a : ab_V} {v : Option Value} {lo hi : Int} (hv : ab_okV ls h L0 h0 a v) (hb : ∀ x : Int32, v = some (.int x) → lo ≤ x.toInt ∧ x.toInt ≤ hi) : ab_okV ls h L0 h0 (ab_meet lo hi a) v := by
  unfold ab_meet
  split
  · next hk =>
    obtain ⟨x, e, h1, h2, h3⟩ := ab_kd1 hv hk
    have := hb x e
    exact ⟨x, e, by show max _ _ ≤ _; omega, by show _ ≤ min _ _; omega, h3⟩
  · exact hv
theorem ab_mod_at {l : List ab_V} {f : ab_V → ab_V} {i j : Nat} {a : ab_V} (hj : (ab_mod j f l)[i]? = some a) : (i = j ∧ ∃ b, l[i]? = some b ∧ a = f b) ∨ l[i]? = some a := by
  unfold ab_mod at hj
  split at hj
  · next b hb =>
    by_cases e : j = i
    · subst e
      rw [List.getElem?_set_self (List.getElem?_eq_some_iff.mp hb).1] at hj
      cases hj
      exact Or.inl ⟨rfl, b, hb, rfl⟩
    · rw [List.getElem?_set_ne e] at hj
      exact Or.inr hj
  · exact Or.inr hj
theorem ab_mod_len {l : List ab_V} {f : ab_V → ab_V} {j : Nat} : (ab_mod j f l).length = l.length := by
  unfold ab_mod
  split
  · rw [List.length_set]
  · rfl
theorem ab_ref1_ok {t : ab_T} {lo hi z : Int} (hA : ab_ok L0 h0 A ls st h) (ht : ab_tg ls h L0 h0 t z) (h1 : lo ≤ z) (h2 : z ≤ hi) : ab_ok L0 h0 (ab_ref1 lo hi A t) ls st h := by
  unfold ab_ref1
  split
  · next e =>
    obtain ⟨y, g1, g2⟩ := ht.1 e
    refine ⟨⟨by rw [ab_mod_len]; exact hA.1.1, fun i a hi' => ?_⟩, hA.2.1, hA.2.2⟩
    rcases ab_mod_at hi' with ⟨rfl, b, hb, rfl⟩ | hb
    · refine ab_meet_ok (hA.1.2 _ b hb) fun x hx => ?_
      rw [g1] at hx
      cases hx
      omega
    · exact hA.1.2 i a hb
  · split
    · next e =>
      obtain ⟨y, g1, g2⟩ := ht.2.1 e
      refine ⟨hA.1, hA.2.1, fun e1 he1 => ?_⟩
      obtain ⟨e2, he2, rfl⟩ := List.mem_map.mp he1
      have := hA.2.2 e2 he2
      split
      · next ec =>
        refine ab_meet_ok this fun x hx => ?_
        rw [ec, g1] at hx
        cases hx
        omega
      · exact this
    · exact hA
theorem ab_refs_ok {lo hi z : Int} (h1 : lo ≤ z) (h2 : z ≤ hi) : ∀ (ts : List ab_T) (A : ab_A), ab_ok L0 h0 A ls st h → (∀ t ∈ ts, ab_tg ls h L0 h0 t z) → ab_ok L0 h0 (ab_refs ts lo hi A) ls st h := by
  intro ts
  induction ts with
  | nil => intro A hA _; exact hA
  | cons t ts ih => intro A hA ht; exact ih _ (ab_ref1_ok hA (ht t List.mem_cons_self) h1 h2) (fun u hu => ht u (List.mem_cons_of_mem _ hu))
theorem ab_cutR_ok {c : ClassFile.Cond} {x y : Int32} {xl xh yl yh : Int} (hc : sm_cmp c x y = true) (h1 : xl ≤ x.toInt) (h2 : x.toInt ≤ xh) (h3 : yl ≤ y.toInt) (h4 : y.toInt ≤ yh) :
    (ab_cutR c xl xh yl yh).1 ≤ x.toInt ∧ x.toInt ≤ (ab_cutR c xl xh yl yh).2.1 ∧ (ab_cutR c xl xh yl yh).2.2.1 ≤ y.toInt ∧ y.toInt ≤ (ab_cutR c xl xh yl yh).2.2.2 := by
  rw [ab_cmp] at hc
  cases c <;> simp only [ab_cutR, decide_eq_true_eq, Bool.not_eq_true', decide_eq_false_iff_not] at hc ⊢
  · exact ⟨by omega, by omega, by omega, by omega⟩
  · exact ⟨by split <;> omega, by split <;> omega, by split <;> omega, by split <;> omega⟩
  · exact ⟨by omega, by omega, by omega, by omega⟩
  · exact ⟨by omega, by omega, by omega, by omega⟩
  · exact ⟨by omega, by omega, by omega, by omega⟩
  · exact ⟨by omega, by omega, by omega, by omega⟩
theorem ab_br_ok {c : ClassFile.Cond} {x y : Int32} {a b : ab_V} {pc : Nat} (ka : a.1 = 1) (kb : b.1 = 1) (ha : ab_okV ls h L0 h0 a (some (.int x))) (hb : ab_okV ls h L0 h0 b (some (.int y))) (hA : ab_ok L0 h0 A ls st h) (hc : sm_cmp c x y = true) :
    ∃ A', (pc, A') ∈ ab_br c a b pc A ∧ ab_ok L0 h0 A' ls st h := by
  obtain ⟨x', e1, a1, a2, a3⟩ := ab_kd1 ha ka
  obtain ⟨y', e2, b1, b2, b3⟩ := ab_kd1 hb kb
  cases e1
  cases e2
  obtain ⟨g1, g2, g3, g4⟩ := ab_cutR_ok hc a1 a2 b1 b2
  unfold ab_br
  generalize ab_cutR c a.2.1 a.2.2.1 b.2.1 b.2.2.1 = R at g1 g2 g3 g4
  obtain ⟨r1, r2, r3, r4⟩ := R
  dsimp only at g1 g2 g3 g4 ⊢
  rw [if_pos ⟨by omega, by omega⟩]
  exact ⟨_, List.mem_singleton.mpr rfl, ab_refs_ok g3 g4 _ _ (ab_refs_ok g1 g2 _ _ hA a3) b3⟩
theorem ab_sw_ok {x : Int32} {a : ab_V} {pc : Nat} {o : Int} (ka : a.1 = 1) (ha : ab_okV ls h L0 h0 a (some (.int x))) (hA : ab_ok L0 h0 A ls st h) : ∀ (offs : List Int) (i : Int), i ≤ x.toInt → offs[(x.toInt - i).toNat]? = some o → ∃ A', (sm_jmp pc o, A') ∈ ab_sw a pc A i offs ∧ ab_ok L0 h0 A' ls st h := by
  obtain ⟨x', e1, a1, a2, a3⟩ := ab_kd1 ha ka
  cases e1
  intro offs
  induction offs with
  | nil => intro i _ ho; simp at ho
  | cons o1 r ih =>
    intro i hi ho
    unfold ab_sw
    by_cases e : x.toInt = i
    · have e2 : (x.toInt - i).toNat = 0 := by omega
      rw [e2] at ho
      simp at ho
      subst ho
      refine ⟨_, List.mem_append_left _ (by rw [if_pos ⟨by omega, by omega⟩]; exact List.mem_singleton.mpr rfl), ab_refs_ok (z := x.toInt) (by omega) (by omega) _ _ hA a3⟩
    · have e2 : (x.toInt - i).toNat = (x.toInt - (i + 1)).toNat + 1 := by omega
      rw [e2, List.getElem?_cons_succ] at ho
      obtain ⟨A', m1, m2⟩ := ih (i + 1) (by omega) ho
      exact ⟨A', List.mem_append_right _ m1, m2⟩
end ABF
