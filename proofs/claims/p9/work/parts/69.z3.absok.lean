/-! A STEP of the machine with bounds is a step -/
section ABO
variable {L0 ls ls' : sm_L} {h0 h h' : sm_H} {sk : ab_K} {wr : List (Nat × Nat)}
theorem ab_kd1 {a : ab_V} {v : Option Value} (hv : ab_okV ls h L0 h0 a v) (hk : a.1 = 1) : ∃ x : Int32, v = some (.int x) ∧ a.2.1 ≤ x.toInt ∧ x.toInt ≤ a.2.2.1 ∧ ∀ t ∈ a.2.2.2, ab_tg ls h L0 h0 t x.toInt := by
  unfold ab_okV at hv
  rw [hk] at hv
  exact hv
theorem ab_kd2 {a : ab_V} {v : Option Value} (hv : ab_okV ls h L0 h0 a v) (hk : a.1 = 2) : ∃ x : Int64, v = some (.long x) ∧ a.2.1 ≤ x.toInt ∧ x.toInt ≤ a.2.2.1 := by
  unfold ab_okV at hv
  rw [hk] at hv
  exact hv
theorem ab_kd3 {a : ab_V} {v : Option Value} (hv : ab_okV ls h L0 h0 a v) (hk : a.1 = 3) : v = some (.ref a.2.1.toNat) := by
  unfold ab_okV at hv
  rw [hk] at hv
  exact hv
theorem ab_mk1 {lo hi : Int} {ts : List ab_T} {x : Int32} (h1 : lo ≤ x.toInt) (h2 : x.toInt ≤ hi) (h3 : ∀ t ∈ ts, ab_tg ls h L0 h0 t x.toInt) : ab_okV ls h L0 h0 (1, lo, hi, ts) (some (.int x)) := ⟨x, rfl, h1, h2, h3⟩
theorem ab_mk2 {lo hi : Int} {ts : List ab_T} {x : Int64} (h1 : lo ≤ x.toInt) (h2 : x.toInt ≤ hi) : ab_okV ls h L0 h0 (2, lo, hi, ts) (some (.long x)) := ⟨x, rfl, h1, h2⟩
theorem ab_mkc (x : Int32) : ab_okV ls h L0 h0 (ab_ci x.toInt) (some (.int x)) := ⟨x, rfl, Int.le_refl _, Int.le_refl _, fun _ ht => absurd ht List.not_mem_nil⟩
theorem ab_mkcl (x : Int64) : ab_okV ls h L0 h0 (ab_cl x.toInt) (some (.long x)) := ⟨x, rfl, Int.le_refl _, Int.le_refl _⟩
theorem ab_mkt (x : Int32) : ab_okV ls h L0 h0 ab_top (some (.int x)) := ⟨x, rfl, x.le_toInt, Int.le_of_lt_add_one x.toInt_lt, fun _ ht => absurd ht List.not_mem_nil⟩
theorem ab_mktL (x : Int64) : ab_okV ls h L0 h0 ab_topL (some (.long x)) := ⟨x, rfl, x.le_toInt, Int.le_of_lt_add_one x.toInt_lt⟩
theorem ab_mk3 (n : Nat) : ab_okV ls h L0 h0 (ab_rf n) (some (.ref n)) := rfl
theorem ab_keep_ok {p : ab_T → Bool} {a : ab_V} {v : Option Value} (hv : ab_okV ls h L0 h0 a v) (hp : ∀ t z, p t = true → ab_tg ls h L0 h0 t z → ab_tg ls' h' L0 h0 t z) : ab_okV ls' h' L0 h0 (ab_keep p a) v := by
  obtain ⟨k, lo, hi, ts⟩ := a
  rcases k with _ | _ | _ | _ | k
  · trivial
  · obtain ⟨x, e, h1, h2, h3⟩ := hv
    exact ⟨x, e, h1, h2, fun t ht => hp t _ (List.mem_filter.mp ht).2 (h3 t (List.mem_filter.mp ht).1)⟩
  · exact hv
  · exact hv
  · exact (show False from hv).elim
theorem ab_keepSt {p : ab_T → Bool} (hp : ∀ t z, p t = true → ab_tg ls h L0 h0 t z → ab_tg ls' h' L0 h0 t z) : ∀ (as : List ab_V) (st : List Value), ab_okSt ls h L0 h0 as st → ab_okSt ls' h' L0 h0 (as.map (ab_keep p)) st := by
  intro as
  induction as with
  | nil => intro st hs; cases st with
    | nil => trivial
    | cons v s => exact (show False from hs).elim
  | cons a as ih => intro st hs; cases st with
    | nil => exact (show False from hs).elim
    | cons v s => exact ⟨ab_keep_ok hs.1 hp, ih s hs.2⟩
theorem ab_keepHc {p : ab_T → Bool} {hc : ab_HC} (hp : ∀ t z, p t = true → ab_tg ls h L0 h0 t z → ab_tg ls' h' L0 h0 t z) (hh : ab_okH ls h L0 h0 hc) (hf : ∀ e ∈ hc, ab_fld h' e.1 = ab_fld h e.1) : ab_okH ls' h' L0 h0 (ab_keepH p hc) := by
  intro e he
  obtain ⟨e', he', rfl⟩ := List.mem_map.mp he
  show ab_okV ls' h' L0 h0 (ab_keep p e'.2) (ab_fld h' e'.1)
  rw [hf e' he']
  exact ab_keep_ok (hh e' he') hp
theorem ab_keepL {p : ab_T → Bool} {al : List ab_V} (hp : ∀ t z, p t = true → ab_tg ls h L0 h0 t z → ab_tg ls h' L0 h0 t z) (hl : ab_okL ls h L0 h0 al) : ab_okL ls h' L0 h0 (al.map (ab_keep p)) := by
  refine ⟨by rw [List.length_map]; exact hl.1, fun j a hj => ?_⟩
  rw [List.getElem?_map] at hj
  cases ha : al[j]? with
  | none => rw [ha] at hj; cases hj
  | some b =>
    rw [ha] at hj
    cases hj
    exact ab_keep_ok (hl.2 j b ha) hp
/-! locals that are written -/
theorem ab_put1_at {k : Nat} {w : Value} (hp : sm_put1 ls k w = some ls') : sm_lget ls' k = some w := by
  obtain ⟨hl, rfl⟩ := sm_put1_len hp
  unfold sm_lget
  rw [List.getElem?_set_self (by rw [sm_kill_len]; exact hl)]
theorem ab_kill_ne {k j : Nat} : sm_lget (sm_kill ls k) j = sm_lget ls j ∨ (j + 1 = k ∧ ∃ v, sm_lget ls j = some v ∧ v.category = 2) := by
  unfold sm_kill
  cases k with
  | zero => exact Or.inl rfl
  | succ i =>
    dsimp only
    split
    · next v hv =>
      split
      · next hc =>
        by_cases e : i = j
        · subst e
          exact Or.inr ⟨rfl, v, by unfold sm_lget; rw [hv], hc⟩
        · refine Or.inl ?_
          unfold sm_lget
          rw [List.getElem?_set_ne e]
      · exact Or.inl rfl
    · exact Or.inl rfl
theorem ab_put1_ne {k j : Nat} {w : Value} (hp : sm_put1 ls k w = some ls') (hj : j ≠ k) : sm_lget ls' j = sm_lget ls j ∨ (j + 1 = k ∧ ∃ v, sm_lget ls j = some v ∧ v.category = 2) := by
  obtain ⟨hl, rfl⟩ := sm_put1_len hp
  have e : sm_lget ((sm_kill ls k).set k (some w)) j = sm_lget (sm_kill ls k) j := by
    unfold sm_lget
    rw [List.getElem?_set_ne (Ne.symm hj)]
  rw [e]
  exact ab_kill_ne
theorem ab_put2_at {k : Nat} {w : Value} (hp : sm_put2 ls k w = some ls') : sm_lget ls' k = some w := by
  obtain ⟨hl, rfl⟩ := sm_put2_len hp
  unfold sm_lget
  rw [List.getElem?_set_ne (by omega), List.getElem?_set_self (by rw [sm_kill_len]; omega)]
theorem ab_put2_ne {k j : Nat} {w : Value} (hp : sm_put2 ls k w = some ls') (hj : j ≠ k) (hj1 : j ≠ k + 1) : sm_lget ls' j = sm_lget ls j ∨ (j + 1 = k ∧ ∃ v, sm_lget ls j = some v ∧ v.category = 2) := by
  obtain ⟨hl, rfl⟩ := sm_put2_len hp
  have e : sm_lget (((sm_kill ls k).set k (some w)).set (k + 1) none) j = sm_lget (sm_kill ls k) j := by
    unfold sm_lget
    rw [List.getElem?_set_ne (Ne.symm hj1), List.getElem?_set_ne (Ne.symm hj)]
  rw [e]
  exact ab_kill_ne
theorem ab_tg_loc {t : ab_T} {z : Int} (ht : ab_tg ls h L0 h0 t z) (hk : t.1 = 0 → ∀ y : Int32, sm_lget ls t.2.1 = some (.int y) → sm_lget ls' t.2.1 = some (.int y)) : ab_tg ls' h L0 h0 t z :=
  ⟨fun e => by
    obtain ⟨y, h1, h2⟩ := ht.1 e
    exact ⟨y, hk e y h1, h2⟩, ht.2⟩
theorem ab_int_cat {y : Int32} {j k : Nat} (h1 : sm_lget ls j = some (.int y)) (h2 : sm_lget ls' j = sm_lget ls j ∨ (j + 1 = k ∧ ∃ v, sm_lget ls j = some v ∧ v.category = 2)) : sm_lget ls' j = some (.int y) := by
  rcases h2 with h2 | ⟨-, v, h3, h4⟩
  · rw [h2]; exact h1
  · rw [h1] at h3
    cases h3
    cases h4
theorem ab_brk {al : List ab_V} {k j : Nat} {a : ab_V} (hj : (ab_break al k)[j]? = some a) : a = ab_unk ∨ (al[j]? = some a ∧ ¬ (j + 1 = k ∧ a.1 = 2)) := by
  unfold ab_break at hj
  cases k with
  | zero => exact Or.inr ⟨hj, fun z => by omega⟩
  | succ i =>
    dsimp only at hj
    split at hj
    · next v hv =>
      split at hj
      · next hc =>
        by_cases e : i = j
        · subst e
          rw [List.getElem?_set_self (List.getElem?_eq_some_iff.mp hv).1] at hj
          cases hj
          exact Or.inl rfl
        · rw [List.getElem?_set_ne e] at hj
          exact Or.inr ⟨hj, fun z => by omega⟩
      · next hc =>
        refine Or.inr ⟨hj, fun z => ?_⟩
        have e : j = i := by omega
        subst e
        rw [hv] at hj
        cases hj
        exact hc z.2
    · next hv => exact Or.inr ⟨hj, fun z => by
        have e : j = i := by omega
        subst e
        rw [hv] at hj
        cases hj⟩
theorem ab_brk_len {al : List ab_V} {k : Nat} : (ab_break al k).length = al.length := by
  unfold ab_break
  cases k with
  | zero => rfl
  | succ i =>
    dsimp only
    split
    · split
      · rw [List.length_set]
      · rfl
    · rfl
/-- a value whose local is broken was a long -/
theorem ab_brk_ok {a : ab_V} {j k : Nat} (hv : ab_okV ls h L0 h0 a (sm_lget ls j)) (hb : ¬ (j + 1 = k ∧ a.1 = 2)) (h2 : sm_lget ls' j = sm_lget ls j ∨ (j + 1 = k ∧ ∃ v, sm_lget ls j = some v ∧ v.category = 2)) : ab_okV ls h L0 h0 a (sm_lget ls' j) := by
  rcases h2 with h2 | ⟨e, v, h3, h4⟩
  · rw [h2]; exact hv
  · obtain ⟨kd, lo, hi, ts⟩ := a
    rcases kd with _ | _ | _ | _ | kd
    · trivial
    · obtain ⟨x, e1, -⟩ := hv
      rw [h3] at e1
      cases e1
      cases h4
    · exact absurd ⟨e, rfl⟩ hb
    · have e1 : sm_lget ls j = some (.ref lo.toNat) := hv
      rw [h3] at e1
      cases e1
      cases h4
    · exact (show False from hv).elim
theorem ab_set1 {A : ab_A} {k : Nat} {a : ab_V} {w : Value} {st : List Value} (hA : ab_ok L0 h0 A ls st h) (ha : ab_okV ls h L0 h0 a (some w)) (hp : sm_put1 ls k w = some ls') : ab_ok L0 h0 (ab_setA k a A) ls' st h := by
  have hmv : ∀ t z, ab_nl k t = true → ab_tg ls h L0 h0 t z → ab_tg ls' h L0 h0 t z := fun t z hn ht => ab_tg_loc ht fun e y hy => by
    have hne : t.2.1 ≠ k := fun e2 => by
      unfold ab_nl at hn
      rw [e, e2] at hn
      simp at hn
    exact ab_int_cat hy (ab_put1_ne hp hne)
  refine ⟨⟨?_, fun j b hj => ?_⟩, ab_keepSt hmv _ _ hA.2.1, ab_keepHc hmv hA.2.2 (fun _ _ => rfl)⟩
  · obtain ⟨hl, rfl⟩ := sm_put1_len hp
    show (ab_setl k a A.1).length = _
    unfold ab_setl
    rw [List.length_set, ab_brk_len, List.length_map, List.length_set, sm_kill_len]
    exact hA.1.1
  · have hj' : ((ab_break (A.1.map (ab_keep (ab_nl k))) k).set k (ab_keep (ab_nl k) a))[j]? = some b := hj
    by_cases e : k = j
    · subst e
      have hlt : k < (ab_break (A.1.map (ab_keep (ab_nl k))) k).length := by
        rw [ab_brk_len, List.length_map, hA.1.1]
        exact (sm_put1_len hp).1
      rw [List.getElem?_set_self hlt] at hj'
      cases hj'
      rw [ab_put1_at hp]
      exact ab_keep_ok ha hmv
    · rw [List.getElem?_set_ne e] at hj'
      rcases ab_brk hj' with rfl | ⟨h1, h2⟩
      · trivial
      · rw [List.getElem?_map] at h1
        cases hb : A.1[j]? with
        | none => rw [hb] at h1; cases h1
        | some c =>
          rw [hb] at h1
          cases h1
          exact ab_keep_ok (ab_brk_ok (hA.1.2 j c hb) h2 (ab_put1_ne hp (Ne.symm e))) hmv
theorem ab_set2 {A : ab_A} {k : Nat} {lo hi : Int} {w : Value} {st : List Value} (hA : ab_ok L0 h0 A ls st h) (ha : ab_okV ls h L0 h0 (2, lo, hi, []) (some w)) (hp : sm_put2 ls k w = some ls') : ab_ok L0 h0 (ab_setA2 k (2, lo, hi, []) A) ls' st h := by
  have hmv : ∀ t z, ab_nl2 k t = true → ab_tg ls h L0 h0 t z → ab_tg ls' h L0 h0 t z := fun t z hn ht => ab_tg_loc ht fun e y hy => by
    have hne : t.2.1 ≠ k ∧ t.2.1 ≠ k + 1 := by
      unfold ab_nl2 at hn
      rw [e] at hn
      simp at hn
      exact hn
    exact ab_int_cat hy (ab_put2_ne hp hne.1 hne.2)
  refine ⟨⟨?_, fun j b hj => ?_⟩, ab_keepSt hmv _ _ hA.2.1, ab_keepHc hmv hA.2.2 (fun _ _ => rfl)⟩
  · obtain ⟨hl, rfl⟩ := sm_put2_len hp
    show (((ab_break (A.1.map (ab_keep (ab_nl2 k))) k).set k (2, lo, hi, [])).set (k + 1) ab_unk).length = _
    rw [List.length_set, List.length_set, ab_brk_len, List.length_map, List.length_set, List.length_set, sm_kill_len]
    exact hA.1.1
  · have hj' : (((ab_break (A.1.map (ab_keep (ab_nl2 k))) k).set k (2, lo, hi, [])).set (k + 1) ab_unk)[j]? = some b := hj
    by_cases e1 : k + 1 = j
    · subst e1
      have := List.mem_of_getElem? hj'
      have hlt : k + 1 < ((ab_break (A.1.map (ab_keep (ab_nl2 k))) k).set k (2, lo, hi, [])).length := by
        rw [List.length_set, ab_brk_len, List.length_map, hA.1.1]
        exact (sm_put2_len hp).1
      rw [List.getElem?_set_self hlt] at hj'
      cases hj'
      trivial
    · rw [List.getElem?_set_ne e1] at hj'
      by_cases e : k = j
      · subst e
        have hlt : k < (ab_break (A.1.map (ab_keep (ab_nl2 k))) k).length := by
          rw [ab_brk_len, List.length_map, hA.1.1]
          have := (sm_put2_len hp).1
          omega
        rw [List.getElem?_set_self hlt] at hj'
        cases hj'
        rw [ab_put2_at hp]
        obtain ⟨x, e2, g1, g2⟩ := ha
        exact ⟨x, e2, g1, g2⟩
      · rw [List.getElem?_set_ne e] at hj'
        rcases ab_brk hj' with rfl | ⟨h1, h2⟩
        · trivial
        · rw [List.getElem?_map] at h1
          cases hb : A.1[j]? with
          | none => rw [hb] at h1; cases h1
          | some c =>
            rw [hb] at h1
            cases h1
            exact ab_keep_ok (ab_brk_ok (hA.1.2 j c hb) h2 (ab_put2_ne hp (Ne.symm e) (Ne.symm e1))) hmv
/-! numbers -/
theorem ab_bm {z : Int} (h1 : -2147483648 ≤ z) (h2 : z ≤ 2147483647) : z.bmod (2 ^ 32) = z := Int.bmod_eq_of_le (by omega) (by omega)
theorem ab_tg_shift {t : ab_T} {z c : Int} (ht : ab_tg ls h L0 h0 t z) : ab_tg ls h L0 h0 (t.1, t.2.1, t.2.2 + c) (z + c) :=
  ⟨fun e => by obtain ⟨y, h1, h2⟩ := ht.1 e; exact ⟨y, h1, by dsimp only; omega⟩, fun e => by obtain ⟨y, h1, h2⟩ := ht.2.1 e; exact ⟨y, h1, by dsimp only; omega⟩,
   fun e => by obtain ⟨y, h1, h2⟩ := ht.2.2.1 e; exact ⟨y, h1, by dsimp only; omega⟩, fun e => by obtain ⟨y, h1, h2⟩ := ht.2.2.2 e; exact ⟨y, h1, by dsimp only; omega⟩⟩
theorem ab_tgs_shift {ts : List ab_T} {z c : Int} (ht : ∀ t ∈ ts, ab_tg ls h L0 h0 t z) : ∀ t ∈ ab_shift c ts, ab_tg ls h L0 h0 t (z + c) := by
  intro t hm
  obtain ⟨t', h1, rfl⟩ := List.mem_map.mp hm
  exact ab_tg_shift (ht t' h1)
theorem ab_add_ok {a b : ab_V} {x y : Int32} (ka : a.1 = 1) (kb : b.1 = 1) (ha : ab_okV ls h L0 h0 a (some (.int x))) (hb : ab_okV ls h L0 h0 b (some (.int y))) : ab_okV ls h L0 h0 (ab_add a b) (some (.int (x + y))) := by
  obtain ⟨x', e1, a1, a2, a3⟩ := ab_kd1 ha ka
  obtain ⟨y', e2, b1, b2, b3⟩ := ab_kd1 hb kb
  cases e1
  cases e2
  unfold ab_add
  split
  · next hc =>
    simp only [ab_inI, decide_eq_true_eq] at hc
    have e : (x + y).toInt = x.toInt + y.toInt := by rw [Int32.toInt_add]; exact ab_bm (by omega) (by omega)
    refine ab_mk1 (by rw [e]; omega) (by rw [e]; omega) ?_
    rw [e]
    split
    · next hy =>
      simp only [ab_cst, decide_eq_true_eq] at hy
      have e3 : y.toInt = b.2.1 := by omega
      rw [e3]
      exact ab_tgs_shift a3
    · split
      · next hx =>
        simp only [ab_cst, decide_eq_true_eq] at hx
        have e3 : x.toInt = a.2.1 := by omega
        rw [e3, Int.add_comm]
        exact ab_tgs_shift b3
      · exact fun _ ht => absurd ht List.not_mem_nil
  · exact ab_mkt _
theorem ab_sub_ok {a b : ab_V} {x y : Int32} (ka : a.1 = 1) (kb : b.1 = 1) (ha : ab_okV ls h L0 h0 a (some (.int x))) (hb : ab_okV ls h L0 h0 b (some (.int y))) : ab_okV ls h L0 h0 (ab_sub a b) (some (.int (x - y))) := by
  obtain ⟨x', e1, a1, a2, a3⟩ := ab_kd1 ha ka
  obtain ⟨y', e2, b1, b2, b3⟩ := ab_kd1 hb kb
  cases e1
  cases e2
  unfold ab_sub
  split
  · next hc =>
    simp only [ab_inI, decide_eq_true_eq] at hc
    have e : (x - y).toInt = x.toInt - y.toInt := by rw [Int32.toInt_sub]; exact ab_bm (by omega) (by omega)
    refine ab_mk1 (by rw [e]; omega) (by rw [e]; omega) ?_
    rw [e]
    split
    · next hy =>
      simp only [ab_cst, decide_eq_true_eq] at hy
      have e3 : x.toInt - y.toInt = x.toInt + -b.2.1 := by omega
      rw [e3]
      exact ab_tgs_shift a3
    · exact fun _ ht => absurd ht List.not_mem_nil
  · exact ab_mkt _
theorem ab_cst1 {a : ab_V} {x : Int32} (hc : ab_cst a = true) (h1 : a.2.1 ≤ x.toInt) (h2 : x.toInt ≤ a.2.2.1) : Int32.ofInt a.2.1 = x := by
  simp only [ab_cst, decide_eq_true_eq] at hc
  have e : a.2.1 = x.toInt := by omega
  rw [e, Int32.ofInt_toInt]
theorem ab_cst2 {a : ab_V} {x : Int64} (hc : ab_cst a = true) (h1 : a.2.1 ≤ x.toInt) (h2 : x.toInt ≤ a.2.2.1) : Int64.ofInt a.2.1 = x := by
  simp only [ab_cst, decide_eq_true_eq] at hc
  have e : a.2.1 = x.toInt := by omega
  rw [e, Int64.ofInt_toInt]
theorem ab_fold_ok {f : Int32 → Int32 → Int32} {a b : ab_V} {x y : Int32} (ka : a.1 = 1) (kb : b.1 = 1) (ha : ab_okV ls h L0 h0 a (some (.int x))) (hb : ab_okV ls h L0 h0 b (some (.int y))) : ab_okV ls h L0 h0 (ab_fold f a b) (some (.int (f x y))) := by
  obtain ⟨x', e1, a1, a2, -⟩ := ab_kd1 ha ka
  obtain ⟨y', e2, b1, b2, -⟩ := ab_kd1 hb kb
  cases e1
  cases e2
  unfold ab_fold
  split
  · next hc =>
    rw [Bool.and_eq_true] at hc
    rw [ab_cst1 hc.1 a1 a2, ab_cst1 hc.2 b1 b2]
    exact ab_mkc _
  · exact ab_mkt _
theorem ab_and_le {x y : Int32} (hy : 0 ≤ y.toInt) : 0 ≤ (x &&& y).toInt ∧ (x &&& y).toInt ≤ y.toInt := by
  have hb : y.toInt = (y.toBitVec.toNat : Int) := by
    have := BitVec.toInt_eq_toNat_cond y.toBitVec
    have e : y.toInt = y.toBitVec.toInt := rfl
    rw [e] at hy ⊢
    rw [this] at hy ⊢
    split at hy
    · next hc => rw [if_pos hc]
    · next hc =>
      have := y.toBitVec.isLt
      omega
  have e : (x &&& y).toInt = (x.toBitVec &&& y.toBitVec).toInt := rfl
  have h1 : (x.toBitVec &&& y.toBitVec).toNat ≤ y.toBitVec.toNat := by rw [BitVec.toNat_and]; exact Nat.and_le_right
  have h2 := BitVec.toInt_eq_toNat_cond (x.toBitVec &&& y.toBitVec)
  have h3 : y.toInt < 2 ^ 31 := y.toInt_lt
  rw [e, h2, if_pos (by omega), hb]
  exact ⟨by omega, by omega⟩
theorem ab_and_ok {a b : ab_V} {x y : Int32} (ka : a.1 = 1) (kb : b.1 = 1) (ha : ab_okV ls h L0 h0 a (some (.int x))) (hb : ab_okV ls h L0 h0 b (some (.int y))) : ab_okV ls h L0 h0 (ab_and a b) (some (.int (x &&& y))) := by
  obtain ⟨x', e1, a1, a2, -⟩ := ab_kd1 ha ka
  obtain ⟨y', e2, b1, b2, -⟩ := ab_kd1 hb kb
  cases e1
  cases e2
  unfold ab_and
  split
  · next hc =>
    rw [Bool.and_eq_true] at hc
    rw [ab_cst1 hc.1 a1 a2, ab_cst1 hc.2 b1 b2]
    exact ab_mkc _
  · split
    · next hc =>
      simp only [Bool.and_eq_true, decide_eq_true_eq, ab_cst] at hc
      have := ab_and_le (x := x) (y := y) (by omega)
      exact ab_mk1 this.1 (by omega) (fun _ ht => absurd ht List.not_mem_nil)
    · split
      · next hc =>
        simp only [Bool.and_eq_true, decide_eq_true_eq, ab_cst] at hc
        have := ab_and_le (x := y) (y := x) (by omega)
        have e : x &&& y = y &&& x := Int32.and_comm x y
        rw [e]
        exact ab_mk1 this.1 (by omega) (fun _ ht => absurd ht List.not_mem_nil)
      · exact ab_mkt _
theorem ab_foldL_ok {f : Int64 → Int64 → Int64} {a b : ab_V} {x y : Int64} (ka : a.1 = 2) (kb : b.1 = 2) (ha : ab_okV ls h L0 h0 a (some (.long x))) (hb : ab_okV ls h L0 h0 b (some (.long y))) : ab_okV ls h L0 h0 (ab_foldL f a b) (some (.long (f x y))) := by
  obtain ⟨x', e1, a1, a2⟩ := ab_kd2 ha ka
  obtain ⟨y', e2, b1, b2⟩ := ab_kd2 hb kb
  cases e1
  cases e2
  unfold ab_foldL
  split
  · next hc =>
    rw [Bool.and_eq_true] at hc
    rw [ab_cst2 hc.1 a1 a2, ab_cst2 hc.2 b1 b2]
    exact ab_mkcl _
  · exact ab_mktL _
theorem ab_foldS_ok {f : Int64 → Int32 → Int64} {a b : ab_V} {x : Int64} {y : Int32} (ka : a.1 = 2) (kb : b.1 = 1) (ha : ab_okV ls h L0 h0 a (some (.long x))) (hb : ab_okV ls h L0 h0 b (some (.int y))) : ab_okV ls h L0 h0 (ab_foldS f a b) (some (.long (f x y))) := by
  obtain ⟨x', e1, a1, a2⟩ := ab_kd2 ha ka
  obtain ⟨y', e2, b1, b2, -⟩ := ab_kd1 hb kb
  cases e1
  cases e2
  unfold ab_foldS
  split
  · next hc =>
    rw [Bool.and_eq_true] at hc
    rw [ab_cst2 hc.1 a1 a2, ab_cst1 hc.2 b1 b2]
    exact ab_mkcl _
  · exact ab_mktL _
theorem ab_lcmp_ok {a b : ab_V} {x y : Int64} (ka : a.1 = 2) (kb : b.1 = 2) (ha : ab_okV ls h L0 h0 a (some (.long x))) (hb : ab_okV ls h L0 h0 b (some (.long y))) : ab_okV ls h L0 h0 (ab_lcmp a b) (some (.int (lg_cmp x y))) := by
  obtain ⟨x', e1, a1, a2⟩ := ab_kd2 ha ka
  obtain ⟨y', e2, b1, b2⟩ := ab_kd2 hb kb
  cases e1
  cases e2
  unfold ab_lcmp
  split
  · next hc =>
    rw [Bool.and_eq_true] at hc
    rw [ab_cst2 hc.1 a1 a2, ab_cst2 hc.2 b1 b2]
    exact ab_mkc _
  · unfold lg_cmp
    split
    · exact ab_mk1 (by decide) (by decide) (fun _ ht => absurd ht List.not_mem_nil)
    · split
      · exact ab_mk1 (by decide) (by decide) (fun _ ht => absurd ht List.not_mem_nil)
      · exact ab_mk1 (by decide) (by decide) (fun _ ht => absurd ht List.not_mem_nil)
theorem ab_chr_eq (x : Int32) : (sm_chr x).toInt = x.toInt % 65536 := by
  unfold sm_chr
  have h1 : x.toUInt32.toNat = (x.toInt % 4294967296).toNat := by
    have e : x.toUInt32.toNat = x.toBitVec.toNat := rfl
    have e2 : x.toInt = x.toBitVec.toInt := rfl
    rw [e, e2, BitVec.toInt_eq_toNat_cond]
    have := x.toBitVec.isLt
    split <;> omega
  have h2 : (x.toUInt32 % 65536).toNat = x.toUInt32.toNat % 65536 := by
    rw [UInt32.toNat_mod]
    rfl
  have h3 : (x.toUInt32 % 65536).toInt32.toInt = ((x.toUInt32 % 65536).toNat : Int) := by
    have e : (x.toUInt32 % 65536).toInt32.toInt = (x.toUInt32 % 65536).toBitVec.toInt := rfl
    rw [e, BitVec.toInt_eq_toNat_cond]
    have e3 : (x.toUInt32 % 65536).toBitVec.toNat = (x.toUInt32 % 65536).toNat := rfl
    rw [e3, h2]
    rw [if_pos (by omega)]
  rw [h3, h2, h1]
  omega
theorem ab_chr_ok {a : ab_V} {x : Int32} (ka : a.1 = 1) (ha : ab_okV ls h L0 h0 a (some (.int x))) : ab_okV ls h L0 h0 (ab_chr a) (some (.int (sm_chr x))) := by
  obtain ⟨x', e1, a1, a2, a3⟩ := ab_kd1 ha ka
  cases e1
  have e := ab_chr_eq x
  unfold ab_chr
  split
  · next hc =>
    simp only [decide_eq_true_eq] at hc
    have e2 : sm_chr x = x := by
      apply Int32.toInt_inj.mp
      rw [e]
      omega
    rw [e2]
    exact ha
  · exact ab_mk1 (by rw [e]; omega) (by rw [e]; omega) (fun _ ht => absurd ht List.not_mem_nil)
theorem ab_mm_ok {k : Nat} {a b : ab_V} {x y : Int32} (ka : a.1 = 1) (kb : b.1 = 1) (ha : ab_okV ls h L0 h0 a (some (.int x))) (hb : ab_okV ls h L0 h0 b (some (.int y))) : ab_okV ls h L0 h0 (ab_mm k a b) (some (.int (if k = 0 then (if x < y then y else x) else (if y < x then y else x)))) := by
  obtain ⟨x', e1, a1, a2, -⟩ := ab_kd1 ha ka
  obtain ⟨y', e2, b1, b2, -⟩ := ab_kd1 hb kb
  cases e1
  cases e2
  unfold ab_mm
  split
  · split
    · next hl =>
      rw [Int32.lt_iff_toInt_lt] at hl
      exact ab_mk1 (by omega) (by omega) (fun _ ht => absurd ht List.not_mem_nil)
    · next hl =>
      rw [Int32.lt_iff_toInt_lt] at hl
      exact ab_mk1 (by omega) (by omega) (fun _ ht => absurd ht List.not_mem_nil)
  · split
    · next hl =>
      rw [Int32.lt_iff_toInt_lt] at hl
      exact ab_mk1 (by omega) (by omega) (fun _ ht => absurd ht List.not_mem_nil)
    · next hl =>
      rw [Int32.lt_iff_toInt_lt] at hl
      exact ab_mk1 (by omega) (by omega) (fun _ ht => absurd ht List.not_mem_nil)
end ABO
