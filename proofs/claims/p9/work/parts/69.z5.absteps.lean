/-! a step leads to one of the states that are told -/
def ab_to (sk : ab_K) (wr : List (Nat × Nat)) (L0 : sm_L) (h0 : sm_H) (outs : List (Nat × ab_A)) (h : sm_H) (r : Option sm_R) : Prop :=
  ∃ o ∈ outs, ∃ (ls' : sm_L) (st' : List Value) (h' : sm_H), r = some (.inl (o.1, ls', st', h')) ∧ ab_ok L0 h0 o.2 ls' st' h' ∧ ab_Sh sk h' ∧ ab_Fr wr h h'
section ABG
variable {L0 ls : sm_L} {h0 h : sm_H} {sk : ab_K} {wr : List (Nat × Nat)} {st : List Value} {A : ab_A} {outs : List (Nat × ab_A)} {pc len k : Nat}
theorem ab_to_same {pc' : Nat} {A' : ab_A} {st' : List Value} (hA : ab_ok L0 h0 A' ls st' h) (hS : ab_Sh sk h) : ab_to sk wr L0 h0 [(pc', A')] h (some (.inl (pc', ls, st', h))) :=
  ⟨_, List.mem_singleton.mpr rfl, ls, st', h, rfl, hA, hS, ab_Fr.refl⟩
theorem ab_push_ok {a : ab_V} {v : Value} (hs : ab_push pc a A = some outs) (hA : ab_ok L0 h0 A ls st h) (hS : ab_Sh sk h) (hv : ab_okV ls h L0 h0 a (some v)) : ab_to sk wr L0 h0 outs h (some (.inl (pc, ls, v :: st, h))) := by
  unfold ab_push at hs
  cases hs
  exact ab_to_same ⟨hA.1, ⟨hv, hA.2.1⟩, hA.2.2⟩ hS
theorem ab_load1_ok (hs : ab_load 1 k len pc A = some outs) (hA : ab_ok L0 h0 A ls st h) (hS : ab_Sh sk h) : ab_to sk wr L0 h0 outs h (sm_loadK sm_isI len k pc ls st h) := by
  unfold ab_load at hs
  split at hs
  · next v hv =>
    split at hs
    · next hk =>
      obtain ⟨x, e, h1, h2, h3⟩ := ab_kd1 (hA.1.2 k v hv) hk
      unfold sm_loadK
      rw [e]
      refine ab_push_ok (v := .int x) hs hA hS ?_
      rw [if_pos rfl]
      refine ab_mk1 h1 h2 fun t ht => ?_
      rcases List.mem_cons.mp ht with rfl | ht
      · exact ⟨fun _ => ⟨x, e, by dsimp only; omega⟩, fun z => (by cases z), fun z => (by cases z), fun z => (by cases z)⟩
      · exact h3 t ht
    · cases hs
  · cases hs
theorem ab_load2_ok (hs : ab_load 2 k len pc A = some outs) (hA : ab_ok L0 h0 A ls st h) (hS : ab_Sh sk h) : ab_to sk wr L0 h0 outs h (sm_loadK sm_isL len k pc ls st h) := by
  unfold ab_load at hs
  split at hs
  · next v hv =>
    split at hs
    · next hk =>
      have hx := hA.1.2 k v hv
      obtain ⟨x, e, h1, h2⟩ := ab_kd2 hx hk
      unfold sm_loadK
      rw [e] at hx ⊢
      refine ab_push_ok (v := .long x) hs hA hS ?_
      rw [if_neg (by decide)]
      exact hx
    · cases hs
  · cases hs
theorem ab_load3_ok (hs : ab_load 3 k len pc A = some outs) (hA : ab_ok L0 h0 A ls st h) (hS : ab_Sh sk h) : ab_to sk wr L0 h0 outs h (sm_loadK sm_isA len k pc ls st h) := by
  unfold ab_load at hs
  split at hs
  · next v hv =>
    split at hs
    · next hk =>
      have hx := hA.1.2 k v hv
      have e := ab_kd3 hx hk
      unfold sm_loadK
      rw [e] at hx ⊢
      refine ab_push_ok (v := .ref v.2.1.toNat) hs hA hS ?_
      rw [if_neg (by decide)]
      exact hx
    · cases hs
  · cases hs
theorem ab_put1_some {w : Value} (hk : k < ls.length) : sm_put1 ls k w = some ((sm_kill ls k).set k (some w)) := if_pos hk
theorem ab_store1_ok (hs : ab_store 1 k len pc A = some outs) (hA : ab_ok L0 h0 A ls st h) (hS : ab_Sh sk h) : ab_to sk wr L0 h0 outs h (sm_store1 sm_isI len k pc ls st h) := by
  obtain ⟨al, as, hc⟩ := A
  cases as with
  | nil => cases hs
  | cons a r =>
    simp only [ab_store] at hs
    split at hs
    · next hk =>
      obtain ⟨v, s, rfl, hv, hr⟩ := ab_pop hA.2.1
      obtain ⟨x, e, -⟩ := ab_kd1 hv hk.1
      cases e
      have hp := ab_put1_some (ls := ls) (k := k) (w := .int x) (by rw [← hA.1.1]; exact hk.2)
      cases hs
      simp only [sm_store1, sm_isI, if_true]
      rw [hp]
      exact ⟨_, List.mem_singleton.mpr rfl, _, s, h, rfl, ab_set1 (A := (al, r, hc)) ⟨hA.1, hr, hA.2.2⟩ hv hp, hS, ab_Fr.refl⟩
    · cases hs
theorem ab_store3_ok (hs : ab_store 3 k len pc A = some outs) (hA : ab_ok L0 h0 A ls st h) (hS : ab_Sh sk h) : ab_to sk wr L0 h0 outs h (sm_store1 sm_isA len k pc ls st h) := by
  obtain ⟨al, as, hc⟩ := A
  cases as with
  | nil => cases hs
  | cons a r =>
    simp only [ab_store] at hs
    split at hs
    · next hk =>
      obtain ⟨v, s, rfl, hv, hr⟩ := ab_pop hA.2.1
      have e := ab_kd3 hv hk.1
      cases e
      have hp := ab_put1_some (ls := ls) (k := k) (w := .ref a.2.1.toNat) (by rw [← hA.1.1]; exact hk.2)
      cases hs
      simp only [sm_store1, sm_isA, if_true]
      rw [hp]
      exact ⟨_, List.mem_singleton.mpr rfl, _, s, h, rfl, ab_set1 (A := (al, r, hc)) ⟨hA.1, hr, hA.2.2⟩ hv hp, hS, ab_Fr.refl⟩
    · cases hs
theorem ab_store2_ok (hs : ab_storeL k len pc A = some outs) (hA : ab_ok L0 h0 A ls st h) (hS : ab_Sh sk h) : ab_to sk wr L0 h0 outs h (sm_store2 len k pc ls st h) := by
  obtain ⟨al, as, hc⟩ := A
  cases as with
  | nil => cases hs
  | cons a r =>
    simp only [ab_storeL] at hs
    split at hs
    · next hk =>
      obtain ⟨v, s, rfl, hv, hr⟩ := ab_pop hA.2.1
      obtain ⟨x, e, g1, g2⟩ := ab_kd2 hv hk.1
      cases e
      have hp : sm_put2 ls k (.long x) = some (((sm_kill ls k).set k (some (.long x))).set (k + 1) none) := if_pos (by rw [← hA.1.1]; exact hk.2)
      cases hs
      simp only [sm_store2]
      rw [hp]
      exact ⟨_, List.mem_singleton.mpr rfl, _, s, h, rfl, ab_set2 (A := (al, r, hc)) ⟨hA.1, hr, hA.2.2⟩ (ab_mk2 g1 g2) hp, hS, ab_Fr.refl⟩
    · cases hs
theorem ab_bin_ok {f : Int32 → Int32 → Int32} {g : ab_V → ab_V → ab_V} (hg : ∀ (a b : ab_V) (x y : Int32), a.1 = 1 → b.1 = 1 → ab_okV ls h L0 h0 a (some (.int x)) → ab_okV ls h L0 h0 b (some (.int y)) → ab_okV ls h L0 h0 (g a b) (some (.int (f x y))))
    (hs : ab_bin g pc A = some outs) (hA : ab_ok L0 h0 A ls st h) (hS : ab_Sh sk h) : ab_to sk wr L0 h0 outs h (sm_bin f pc ls st h) := by
  obtain ⟨al, as, hc⟩ := A
  rcases as with _ | ⟨b, _ | ⟨a, r⟩⟩
  · cases hs
  · cases hs
  · simp only [ab_bin] at hs
    split at hs
    · next hk =>
      obtain ⟨v, s1, rfl, hv, hr1⟩ := ab_pop hA.2.1
      obtain ⟨w, s, rfl, hw, hr⟩ := ab_pop hr1
      obtain ⟨y, e, -⟩ := ab_kd1 hv hk.1
      cases e
      obtain ⟨x, e, -⟩ := ab_kd1 hw hk.2
      cases e
      cases hs
      exact ab_to_same ⟨hA.1, ⟨hg a b x y hk.2 hk.1 hw hv, hr⟩, hA.2.2⟩ hS
    · cases hs
theorem ab_binL_ok {f : Int64 → Int64 → Int64} {g : ab_V → ab_V → ab_V} (hg : ∀ (a b : ab_V) (x y : Int64), a.1 = 2 → b.1 = 2 → ab_okV ls h L0 h0 a (some (.long x)) → ab_okV ls h L0 h0 b (some (.long y)) → ab_okV ls h L0 h0 (g a b) (some (.long (f x y))))
    (hs : ab_binL g pc A = some outs) (hA : ab_ok L0 h0 A ls st h) (hS : ab_Sh sk h) : ab_to sk wr L0 h0 outs h (sm_binL f pc ls st h) := by
  obtain ⟨al, as, hc⟩ := A
  rcases as with _ | ⟨b, _ | ⟨a, r⟩⟩
  · cases hs
  · cases hs
  · simp only [ab_binL] at hs
    split at hs
    · next hk =>
      obtain ⟨v, s1, rfl, hv, hr1⟩ := ab_pop hA.2.1
      obtain ⟨w, s, rfl, hw, hr⟩ := ab_pop hr1
      obtain ⟨y, e, -⟩ := ab_kd2 hv hk.1
      cases e
      obtain ⟨x, e, -⟩ := ab_kd2 hw hk.2
      cases e
      cases hs
      exact ab_to_same ⟨hA.1, ⟨hg a b x y hk.2 hk.1 hw hv, hr⟩, hA.2.2⟩ hS
    · cases hs
/-- two numbers on the stack: what they are -/
theorem ab_two {kd kd' : Nat} {al r : List ab_V} {a b : ab_V} {hc : ab_HC} (hA : ab_ok L0 h0 (al, b :: a :: r, hc) ls st h) : ∃ v w s, st = v :: w :: s ∧ ab_okV ls h L0 h0 b (some v) ∧ ab_okV ls h L0 h0 a (some w) ∧ ab_okSt ls h L0 h0 r s := by
  obtain ⟨v, s1, rfl, hv, hr1⟩ := ab_pop hA.2.1
  obtain ⟨w, s, rfl, hw, hr⟩ := ab_pop hr1
  exact ⟨v, w, s, rfl, hv, hw, hr⟩
theorem ab_n0d_ok {y : Int32} {b : ab_V} (hn : ab_n0d b = true) (h1 : b.2.1 ≤ y.toInt) (h2 : y.toInt ≤ b.2.2.1) : y ≠ 0 := fun e => by
  simp only [ab_n0d, decide_eq_true_eq] at hn
  subst e
  have e : (0 : Int32).toInt = 0 := rfl
  omega
theorem ab_n0dL_ok {y : Int64} {b : ab_V} (hn : ab_n0d b = true) (h1 : b.2.1 ≤ y.toInt) (h2 : y.toInt ≤ b.2.2.1) : y ≠ 0 := fun e => by
  simp only [ab_n0d, decide_eq_true_eq] at hn
  subst e
  have e : (0 : Int64).toInt = 0 := rfl
  omega
theorem ab_if_ok {c : ClassFile.Cond} {x y : Int32} {a b : ab_V} {off : Int} (hs : ab_if c a b pc off A = some outs) (ha : ab_okV ls h L0 h0 a (some (.int x))) (hb : ab_okV ls h L0 h0 b (some (.int y))) (hA : ab_ok L0 h0 A ls st h) (hS : ab_Sh sk h) :
    ab_to sk wr L0 h0 outs h (sm_if (sm_cmp c x y) pc off ls st h) := by
  unfold ab_if at hs
  split at hs
  · next hk =>
    cases hs
    cases hcm : sm_cmp c x y with
    | true =>
      obtain ⟨A', m1, m2⟩ := ab_br_ok (pc := sm_jmp pc off) hk.1 hk.2 ha hb hA hcm
      exact ⟨_, List.mem_append_left _ m1, ls, st, h, rfl, m2, hS, ab_Fr.refl⟩
    | false =>
      obtain ⟨A', m1, m2⟩ := ab_br_ok (pc := pc + 3) hk.1 hk.2 ha hb hA (by rw [ab_cmp_neg, hcm]; rfl : sm_cmp (ab_neg c) x y = true)
      exact ⟨_, List.mem_append_right _ m1, ls, st, h, rfl, m2, hS, ab_Fr.refl⟩
  · cases hs
theorem ab_ix {x : Int32} {n : Nat} {a : ab_V} (hi : ab_ixok a n = true) (h1 : a.2.1 ≤ x.toInt) (h2 : x.toInt ≤ a.2.2.1) : sm_ix x n = true ∧ x.toNatClampNeg < n ∧ (x.toNatClampNeg : Int) = x.toInt := by
  simp only [ab_ixok, decide_eq_true_eq] at hi
  have e : x.toNatClampNeg = x.toInt.toNat := rfl
  have hlt : x.toNatClampNeg < n := by rw [e]; omega
  refine ⟨?_, hlt, by rw [e]; omega⟩
  simp only [sm_ix, decide_eq_true_eq]
  refine ⟨fun hn => ?_, hlt⟩
  rw [Int32.lt_iff_toInt_lt] at hn
  have e2 : (0 : Int32).toInt = 0 := rfl
  omega
theorem ab_ald_ok {t : Nat} (hs : ab_ald t sk pc A = some outs) (hA : ab_ok L0 h0 A ls st h) (hS : ab_Sh sk h) : ab_to sk wr L0 h0 outs h (sm_ald t pc ls st h) := by
  obtain ⟨al, as, hc⟩ := A
  rcases as with _ | ⟨i, _ | ⟨a, r⟩⟩
  · cases hs
  · cases hs
  · simp only [ab_ald] at hs
    split at hs
    · next ka =>
      split at hs
      · next t' n lo hi ex hk =>
        split at hs
        · next hc1 =>
          obtain ⟨rfl, ht, hi1, hC⟩ := hc1
          obtain ⟨v, w, s, rfl, hv, hw, hr⟩ := ab_two (kd := 0) (kd' := 0) hA
          have ew := ab_kd3 hw ka
          cases ew
          have ki : i.1 = 1 := by simp only [ab_ixok, decide_eq_true_eq] at hi1; exact hi1.1
          obtain ⟨x, e, g1, g2, -⟩ := ab_kd1 hv ki
          cases e
          obtain ⟨k1, k2, k3⟩ := ab_ix hi1 g1 g2
          obtain ⟨c, e1, e2⟩ := hS _ _ hk
          have ⟨f, ef⟩ : ∃ f, c = .inl f := by
            rcases c with f | f | f | f | f
            · exact ⟨f, rfl⟩
            · exact absurd e2.1 ht
            · exact (show False from e2).elim
            · exact (show False from e2).elim
            · exact (show False from e2).elim
          subst ef
          have hstep : sm_ald t' pc ls (.int x :: .ref a.2.1.toNat :: s) h = some (.inl (pc + 1, ls, .int (f x.toNatClampNeg) :: s, h)) := by
            simp only [sm_ald]
            rw [e1]
            dsimp only
            rw [if_pos ⟨rfl, k1, hC⟩]
            rfl
          cases hs
          rw [hstep]
          obtain ⟨f1, f2, f3⟩ := e2.2 _ k2
          refine ab_to_same ⟨hA.1, ⟨?_, hr⟩, hA.2.2⟩ hS
          have hdef : ab_okV ls h L0 h0 (1, lo, hi, []) (some (.int (f x.toNatClampNeg))) := ab_mk1 f1 f2 (fun _ ht => absurd ht List.not_mem_nil)
          split
          · next hcs =>
            split
            · next z hz =>
              simp only [ab_cst, decide_eq_true_eq] at hcs
              have e5 : i.2.1.toNat = x.toNatClampNeg := by
                have : x.toNatClampNeg = x.toInt.toNat := rfl
                rw [this]
                omega
              rw [e5] at hz
              rw [← f3 z hz]
              exact ab_mkc _
            · exact hdef
          · exact hdef
        · cases hs
      · cases hs
    · cases hs
theorem ab_aldL_ok (hs : ab_aldL sk pc A = some outs) (hA : ab_ok L0 h0 A ls st h) (hS : ab_Sh sk h) : ab_to sk wr L0 h0 outs h (sm_aldL pc ls st h) := by
  obtain ⟨al, as, hc⟩ := A
  rcases as with _ | ⟨i, _ | ⟨a, r⟩⟩
  · cases hs
  · cases hs
  · simp only [ab_aldL] at hs
    split at hs
    · next ka =>
      split at hs
      · next t' n lo hi ex hk =>
        split at hs
        · next hc1 =>
          obtain ⟨rfl, hi1, hC⟩ := hc1
          obtain ⟨v, w, s, rfl, hv, hw, hr⟩ := ab_two (kd := 0) (kd' := 0) hA
          have ew := ab_kd3 hw ka
          cases ew
          have ki : i.1 = 1 := by simp only [ab_ixok, decide_eq_true_eq] at hi1; exact hi1.1
          obtain ⟨x, e, g1, g2, -⟩ := ab_kd1 hv ki
          cases e
          obtain ⟨k1, k2, k3⟩ := ab_ix hi1 g1 g2
          obtain ⟨c, e1, e2⟩ := hS _ _ hk
          have ⟨f, ef⟩ : ∃ f, c = .inr (.inl f) := by
            rcases c with f | f | f | f | f
            · exact absurd rfl e2.1
            · exact ⟨f, rfl⟩
            · exact (show False from e2).elim
            · exact (show False from e2).elim
            · exact (show False from e2).elim
          subst ef
          cases hs
          simp only [sm_aldL]
          rw [e1]
          dsimp only
          rw [if_pos ⟨rfl, k1, hC⟩]
          obtain ⟨f1, f2⟩ := e2.2 _ k2
          exact ab_to_same ⟨hA.1, ⟨ab_mk2 f1 f2, hr⟩, hA.2.2⟩ hS
        · cases hs
      · cases hs
    · cases hs
theorem ab_ast_ok {t : Nat} {g : Int32 → Int32} (hg : ∀ (a : ab_V) (x : Int32), a.1 = 1 → ab_okV ls h L0 h0 a (some (.int x)) → (ab_gv t a).1 = 1 ∧ ab_okV ls h L0 h0 (ab_gv t a) (some (.int (g x)))) (hs : ab_ast t sk wr pc A = some outs) (hA : ab_ok L0 h0 A ls st h) (hS : ab_Sh sk h) : ab_to sk wr L0 h0 outs h (sm_ast t g pc ls st h) := by
  obtain ⟨al, as, hc⟩ := A
  rcases as with _ | ⟨y, _ | ⟨i, _ | ⟨a, r⟩⟩⟩
  · cases hs
  · cases hs
  · cases hs
  · simp only [ab_ast] at hs
    split at hs
    · next ka =>
      split at hs
      · next t' n lo hi ex hk =>
        split at hs
        · next hc1 =>
          obtain ⟨rfl, ht, hi1, hC, rfl, l1, l2, hw1⟩ := hc1
          obtain ⟨u, s1, rfl, hu, hr1⟩ := ab_pop hA.2.1
          obtain ⟨v, s2, rfl, hv, hr2⟩ := ab_pop hr1
          obtain ⟨w, s, rfl, hw, hr⟩ := ab_pop hr2
          have ew := ab_kd3 hw ka.1
          cases ew
          have ki : i.1 = 1 := by simp only [ab_ixok, decide_eq_true_eq] at hi1; exact hi1.1
          obtain ⟨x, e, g1, g2, -⟩ := ab_kd1 hv ki
          cases e
          obtain ⟨z, e, -⟩ := ab_kd1 hu ka.2
          cases e
          obtain ⟨k1, k2, k3⟩ := ab_ix hi1 g1 g2
          obtain ⟨c, e1, e2⟩ := hS _ _ hk
          have ⟨f, ef⟩ : ∃ f, c = .inl f := by
            rcases c with f | f | f | f | f
            · exact ⟨f, rfl⟩
            · exact absurd e2.1 ht
            · exact (show False from e2).elim
            · exact (show False from e2).elim
            · exact (show False from e2).elim
          subst ef
          cases hs
          simp only [sm_ast]
          rw [e1]
          dsimp only
          rw [if_pos ⟨rfl, k1, hC⟩]
          obtain ⟨q1, q2⟩ := hg y z ka.2 hu
          obtain ⟨z', e5, m1, m2, -⟩ := ab_kd1 q2 q1
          cases e5
          refine ⟨_, List.mem_singleton.mpr rfl, ls, s, _, rfl, ab_ok_heap (A := (al, r, hc)) ⟨hA.1, hr, hA.2.2⟩ (fun c => ab_fld_arr e1), ab_Sh_set hS (List.getElem?_eq_some_iff.mp e1).1 (fun s hs => ?_), ab_Fr_arr e1 rfl hw1⟩
          rw [hk] at hs
          cases hs
          refine ⟨_, rfl, ht, fun j hj => ?_⟩
          obtain ⟨f1, f2, f3⟩ := e2.2 j hj
          refine ⟨?_, ?_, f3 |> fun _ => by intro z hz; simp at hz⟩
          · unfold upd
            split
            · exact Int.le_trans l1 m1
            · exact f1
          · unfold upd
            split
            · exact Int.le_trans m2 l2
            · exact f2
        · cases hs
      · cases hs
    · cases hs
theorem ab_astL_ok (hs : ab_astL sk wr pc A = some outs) (hA : ab_ok L0 h0 A ls st h) (hS : ab_Sh sk h) : ab_to sk wr L0 h0 outs h (sm_astL pc ls st h) := by
  obtain ⟨al, as, hc⟩ := A
  rcases as with _ | ⟨y, _ | ⟨i, _ | ⟨a, r⟩⟩⟩
  · cases hs
  · cases hs
  · cases hs
  · simp only [ab_astL] at hs
    split at hs
    · next ka =>
      split at hs
      · next t' n lo hi ex hk =>
        split at hs
        · next hc1 =>
          obtain ⟨rfl, hi1, hC, l1, l2, hw1⟩ := hc1
          obtain ⟨u, s1, rfl, hu, hr1⟩ := ab_pop hA.2.1
          obtain ⟨v, s2, rfl, hv, hr2⟩ := ab_pop hr1
          obtain ⟨w, s, rfl, hw, hr⟩ := ab_pop hr2
          have ew := ab_kd3 hw ka.1
          cases ew
          have ki : i.1 = 1 := by simp only [ab_ixok, decide_eq_true_eq] at hi1; exact hi1.1
          obtain ⟨x, e, g1, g2, -⟩ := ab_kd1 hv ki
          cases e
          obtain ⟨z, e, m1, m2⟩ := ab_kd2 hu ka.2
          cases e
          obtain ⟨k1, k2, k3⟩ := ab_ix hi1 g1 g2
          obtain ⟨c, e1, e2⟩ := hS _ _ hk
          have ⟨f, ef⟩ : ∃ f, c = .inr (.inl f) := by
            rcases c with f | f | f | f | f
            · exact absurd rfl e2.1
            · exact ⟨f, rfl⟩
            · exact (show False from e2).elim
            · exact (show False from e2).elim
            · exact (show False from e2).elim
          subst ef
          cases hs
          simp only [sm_astL]
          rw [e1]
          dsimp only
          rw [if_pos ⟨rfl, k1, hC⟩]
          refine ⟨_, List.mem_singleton.mpr rfl, ls, s, _, rfl, ab_ok_heap (A := (al, r, hc)) ⟨hA.1, hr, hA.2.2⟩ (fun c => ab_fld_arr e1), ab_Sh_set hS (List.getElem?_eq_some_iff.mp e1).1 (fun s hs => ?_), ab_Fr_arr e1 rfl hw1⟩
          rw [hk] at hs
          cases hs
          refine ⟨_, rfl, rfl, fun j hj => ?_⟩
          obtain ⟨f1, f2⟩ := e2.2 j hj
          refine ⟨?_, ?_⟩
          · unfold vp_updL
            split
            · exact Int.le_trans l1 m1
            · exact f1
          · unfold vp_updL
            split
            · exact Int.le_trans m2 l2
            · exact f2
        · cases hs
      · cases hs
    · cases hs
theorem ab_alen_ok {rs : List Nat} (hs : ab_alen sk pc A = some outs) (hA : ab_ok L0 h0 A ls st h) (hS : ab_Sh sk h) : ab_to sk wr L0 h0 outs h (sm_step (.arraylength, len, rs) pc ls st h) := by
  obtain ⟨al, as, hc⟩ := A
  rcases as with _ | ⟨a, r⟩
  · cases hs
  · simp only [ab_alen] at hs
    split at hs
    · next ka =>
      split at hs
      · next t n lo hi ex hk =>
        split at hs
        · next hc1 =>
          obtain ⟨w, s, rfl, hw, hr⟩ := ab_pop hA.2.1
          have ew := ab_kd3 hw ka
          cases ew
          obtain ⟨c, e1, e2⟩ := hS _ _ hk
          cases hs
          simp only [sm_step]
          rw [e1]
          dsimp only
          rw [if_pos hc1.1]
          have e3 : (Int32.ofNat n).toInt = (n : Int) := by
            have e4 : Int32.ofNat n = Int32.ofInt (n : Int) := rfl
            rw [e4]
            exact Int32.toInt_ofInt_of_le (by omega) (by have := hc1.2; omega)
          refine ab_to_same ⟨hA.1, ⟨?_, hr⟩, hA.2.2⟩ hS
          rw [← e3]
          exact ab_mkc _
        · cases hs
      · cases hs
    · cases hs
theorem ab_hget_mem : ∀ (hc : ab_HC) (c : Nat) (v : ab_V), ab_hget hc c = some v → (c, v) ∈ hc := by
  intro hc
  induction hc with
  | nil => intro c v hv; simp [ab_hget] at hv
  | cons e r ih =>
    intro c v hv
    simp only [ab_hget] at hv
    split at hv
    · next he =>
      cases hv
      rw [← he]
      exact List.mem_cons_self
    · exact List.mem_cons_of_mem _ (ih c v hv)
theorem ab_getf_ok {rs : List Nat} (hs : ab_getf sk rs pc A = some outs) (hA : ab_ok L0 h0 A ls st h) (hS : ab_Sh sk h) : ab_to sk wr L0 h0 outs h (sm_getf rs pc ls st h) := by
  obtain ⟨al, as, hc⟩ := A
  rcases as with _ | ⟨a, r⟩
  · cases hs
  rcases rs with _ | ⟨k, _ | ⟨z, cs⟩⟩
  · cases hs
  · cases hs
  · simp only [ab_getf] at hs
    split at hs
    · next ka =>
      split at hs
      · next ci fl hk =>
        split at hs
        · next hc1 =>
          obtain ⟨g1, g2, g3⟩ := hc1
          obtain ⟨w, s, rfl, hw, hr⟩ := ab_pop hA.2.1
          have ew := ab_kd3 hw ka
          cases ew
          obtain ⟨fs, e1, e2, e3⟩ := hS _ _ hk
          split at hs
          · next t lo hi hf =>
            have hlt : k < fs.length := by rw [e2]; exact (List.getElem?_eq_some_iff.mp hf).1
            have hv : fs[k]? = some fs[k] := List.getElem?_eq_getElem hlt
            have hfv := e3 k _ _ hf hv
            have hfld : ab_fld h (a.2.1.toNat * 128 + k) = some fs[k] := by rw [ab_fld_at g2 e1]; exact hv
            simp only [sm_getf]
            rw [e1]
            dsimp only
            rw [if_pos ⟨g1, g3⟩, hv]
            dsimp only
            split at hs
            · next ht =>
              subst ht
              obtain ⟨x, ex, b1, b2⟩ := hfv
              rw [ex] at hfld ⊢
              have htag : ab_tg ls h L0 h0 (1, a.2.1.toNat * 128 + k, 0) x.toInt := ⟨fun z => (by cases z), fun _ => ⟨x, hfld, by dsimp only; omega⟩, fun z => (by cases z), fun z => (by cases z)⟩
              split at hs
              · next v hv2 =>
                split at hs
                · next kv =>
                  cases hs
                  have hin := hA.2.2 _ (ab_hget_mem _ _ _ hv2)
                  obtain ⟨x2, ex2, c1, c2, c3⟩ := ab_kd1 hin kv
                  rw [hfld] at ex2
                  cases ex2
                  refine ab_to_same ⟨hA.1, ⟨ab_mk1 c1 c2 fun t ht => ?_, hr⟩, hA.2.2⟩ hS
                  rcases List.mem_cons.mp ht with rfl | ht
                  · exact htag
                  · exact c3 t ht
                · cases hs
              · cases hs
                refine ab_to_same ⟨hA.1, ⟨ab_mk1 b1 b2 fun t ht => ?_, hr⟩, fun e he => ?_⟩ hS
                · rw [List.mem_singleton.mp ht]
                  exact htag
                · rcases List.mem_cons.mp he with rfl | he
                  · show ab_okV ls h L0 h0 (1, lo, hi, []) (ab_fld h (a.2.1.toNat * 128 + k))
                    rw [hfld]
                    exact ab_mk1 b1 b2 (fun _ ht => absurd ht List.not_mem_nil)
                  · exact hA.2.2 e he
            · split at hs
              · next ht =>
                subst ht
                obtain ⟨x, ex, b1, b2⟩ := hfv
                rw [ex] at hfld ⊢
                split at hs
                · next v hv2 =>
                  split at hs
                  · next kv =>
                    cases hs
                    have hin := hA.2.2 _ (ab_hget_mem _ _ _ hv2)
                    dsimp only at hin
                    rw [hfld] at hin
                    exact ab_to_same ⟨hA.1, ⟨hin, hr⟩, hA.2.2⟩ hS
                  · cases hs
                · cases hs
                  exact ab_to_same ⟨hA.1, ⟨ab_mk2 b1 b2, hr⟩, hA.2.2⟩ hS
              · next ht0 ht1 =>
                cases hs
                have ex : fs[k] = .ref lo.toNat := by
                  rcases t with _ | _ | t
                  · exact absurd rfl ht0
                  · exact absurd rfl ht1
                  · exact hfv
                rw [ex]
                exact ab_to_same ⟨hA.1, ⟨rfl, hr⟩, hA.2.2⟩ hS
          · cases hs
        · cases hs
      · cases hs
    · cases hs
theorem ab_fits_ok {t : Nat} {a : ab_V} {v : Value} (hf : ab_fits t a = true) (hv : ab_okV ls h L0 h0 a (some v)) : sm_fit t v = true := by
  simp only [ab_fits, decide_eq_true_eq] at hf
  rcases hf with ⟨rfl, hk⟩ | ⟨rfl, hk⟩ | ⟨rfl, hk, l1, l2⟩ | ⟨rfl, hk, l1, l2⟩
  · obtain ⟨x, e, -⟩ := ab_kd1 hv hk
    cases e
    rfl
  · obtain ⟨x, e, -⟩ := ab_kd2 hv hk
    cases e
    rfl
  · obtain ⟨x, e, g1, g2, -⟩ := ab_kd1 hv hk
    cases e
    simp only [sm_fit, decide_eq_true_eq, ← Int32.toInt_inj]
    have e0 : (0 : Int32).toInt = 0 := rfl
    have e1 : (1 : Int32).toInt = 1 := rfl
    omega
  · obtain ⟨x, e, g1, g2, -⟩ := ab_kd1 hv hk
    cases e
    simp only [sm_fit, decide_eq_true_eq, Int32.le_iff_toInt_le]
    have e0 : (0 : Int32).toInt = 0 := rfl
    have e1 : (65535 : Int32).toInt = 65535 := rfl
    omega
theorem ab_putf_ok {rs : List Nat} (hs : ab_putf sk wr rs pc A = some outs) (hA : ab_ok L0 h0 A ls st h) (hS : ab_Sh sk h) : ab_to sk wr L0 h0 outs h (sm_putf rs pc ls st h) := by
  obtain ⟨al, as, hc⟩ := A
  rcases as with _ | ⟨y, _ | ⟨a, r⟩⟩
  · cases hs
  · cases hs
  rcases rs with _ | ⟨k, _ | ⟨t, _ | ⟨fin, cs⟩⟩⟩
  · cases hs
  · cases hs
  · cases hs
  · simp only [ab_putf] at hs
    split at hs
    · next ka =>
      split at hs
      · next ci fl hk =>
        split at hs
        · next hc1 =>
          obtain ⟨g1, g2, g3, g4, g5⟩ := hc1
          split at hs
          · next t' lo hi hf =>
            split at hs
            · next hc2 =>
              obtain ⟨k1, k2, k3⟩ := hc2
              obtain ⟨v, s1, rfl, hv, hr1⟩ := ab_pop hA.2.1
              obtain ⟨w, s, rfl, hw, hr⟩ := ab_pop hr1
              have ew := ab_kd3 hw ka
              cases ew
              obtain ⟨fs, e1, e2, e3⟩ := hS _ _ hk
              have hlt : k < fs.length := by rw [e2]; exact (List.getElem?_eq_some_iff.mp hf).1
              have hcl := (List.getElem?_eq_some_iff.mp e1).1
              cases hs
              simp only [sm_putf]
              rw [e1]
              dsimp only
              rw [if_pos ⟨g1, hlt, ab_fits_ok g5 hv, g3⟩]
              have hne : ∀ c, c ≠ a.2.1.toNat * 128 + k → ab_fld (h.set a.2.1.toNat (.inr (ci, fs.set k v))) c = ab_fld h c := fun c hcn => ab_fld_ne e1 hcn g2
              have heq : ab_fld (h.set a.2.1.toNat (.inr (ci, fs.set k v))) (a.2.1.toNat * 128 + k) = some v := by
                rw [ab_fld_at (ci := ci) (fs := fs.set k v) g2 (List.getElem?_set_self hcl), List.getElem?_set_self hlt]
              have hmv : ∀ t z, ab_nf (a.2.1.toNat * 128 + k) t = true → ab_tg ls h L0 h0 t z → ab_tg ls (h.set a.2.1.toNat (.inr (ci, fs.set k v))) L0 h0 t z := fun t z hn ht => ⟨ht.1, fun e => by
                obtain ⟨y, h1, h2⟩ := ht.2.1 e
                refine ⟨y, ?_, h2⟩
                rw [hne _ (fun e2 => by
                  unfold ab_nf at hn
                  rw [e, e2] at hn
                  simp at hn)]
                exact h1, ht.2.2⟩
              refine ⟨_, List.mem_singleton.mpr rfl, ls, s, _, rfl, ⟨ab_keepL hmv hA.1, ab_keepSt hmv _ _ hr, fun e he => ?_⟩, ab_Sh_set hS hcl (fun sh hsh => ?_), ab_Fr_obj e1 g4⟩
              · rcases List.mem_cons.mp he with rfl | he
                · dsimp only
                  rw [heq]
                  exact ab_keep_ok (ab_keep_ok hv (fun _ _ _ z => z)) hmv
                · refine ab_keepHc hmv (hc := hc.filter (fun e => !(e.1 == a.2.1.toNat * 128 + k))) (fun e he => hA.2.2 e (List.mem_filter.mp he).1) (fun e he => hne _ ?_) e he
                  have := (List.mem_filter.mp he).2
                  simpa using this
              · rw [hk] at hsh
                cases hsh
                refine ⟨fs.set k v, rfl, by rw [List.length_set]; exact e2, fun i x u hx hu => ?_⟩
                by_cases ei : k = i
                · subst ei
                  rw [List.getElem?_set_self hlt] at hu
                  cases hu
                  rw [hf] at hx
                  cases hx
                  rcases k1 with ⟨rfl, kv⟩ | ⟨rfl, kv⟩
                  · obtain ⟨x, e, b1, b2, -⟩ := ab_kd1 hv kv
                    cases e
                    exact ⟨x, rfl, Int.le_trans k2 b1, Int.le_trans b2 k3⟩
                  · obtain ⟨x, e, b1, b2⟩ := ab_kd2 hv kv
                    cases e
                    exact ⟨x, rfl, Int.le_trans k2 b1, Int.le_trans b2 k3⟩
                · rw [List.getElem?_set_ne ei] at hu
                  exact e3 i x u hx hu
            · cases hs
          · cases hs
        · cases hs
      · cases hs
    · cases hs
end ABG
