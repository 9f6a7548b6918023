/-! CHECKING the tables of methods with handlers, of the law, of throws, by computation -/
theorem sm_find_mem {pc x hp : Nat} : ∀ (al : List (Nat × Nat × Nat × Nat × Nat)), sm_find pc x al = some hp → x ∈ al.map (fun q => q.2.2.2.2) := by
  intro al
  induction al with
  | nil => intro h; simp [sm_find] at h
  | cons q al ih =>
    obtain ⟨a, b, c, k, z⟩ := q
    intro h
    simp only [sm_find] at h
    rw [List.map_cons]
    split at h
    · split at h
      · next hz => subst hz; exact List.mem_cons_self
      · exact List.mem_cons_of_mem _ (ih h)
    · exact List.mem_cons_of_mem _ (ih h)
/-- in a method with handlers the only calls are virtual ones of one method -/
def sm_ckW (idx n m : Nat) (tab : List (Option sm_I)) : Bool := tab.all (fun o => match o with
  | some (.invokevirtual ix, _, rs) => decide (ix = idx ∧ rs = [0, n, 0, m])
  | some (.invokestatic _, _, _) => false
  | some (.invokespecial _, _, _) => false
  | _ => true)
theorem sm_okW_of {Ts : List Cond} {sx : List (String × Nat × String × Nat)} {zx : List (String × String × String × Nat)} {oc : (List (Nat × Nat × String × String × String × Value) × List (String × Nat × MethodName × String) × List MethodName)} {K : sm_H} {cl : List vw_C} {nc : List (Nat × Nat)} {Y YW : Nat → sm_Y} {mi idx0 n0 m0 : Nat} {M : sm_MW} {pool : List ((Nat × Nat) × List Nat)} (y : sm_Y) (hy : YW mi = y)
    (h1 : Cond.codeWith y.1 y.2.1 M.1.1 y.2.2 (M.2.map fun q => (q.1, q.2.1, q.2.2.1, q.2.2.2.1)) ∈ Ts) (h2 : plainName y.1.cls = true) (h3 : sm_nmh y.1.cls) (h4 : M.1.1 ≤ 45) (h5 : sm_rk M.1.2.1 y.2.2) (h6 : sm_ck pool y.2.1 0 M.1.2.2 = true) (h7 : sm_poolOk Ts sx zx oc K cl Y y.1.cls y.1.name pool)
    (h8 : sm_ckW idx0 n0 m0 M.1.2.2 = true) (h9 : ∃ (C : String) (T : u_T) (N : Nat), cl[0]? = some (C, T, N) ∧ Cond.instanceMethod (Y m0).1 ∈ Ts ∧ Cond.initialized (Y m0).1.cls ∈ Ts ∧ Cond.methodLink y.1.cls idx0 (Y m0).1 ∈ Ts ∧ Cond.selects C (Y m0).1 (Y m0).1 ∈ Ts ∧ sm_par (Y m0).1.desc = some n0)
    (h10 : ∀ x ∈ M.2.map (fun q => q.2.2.2.2), (∃ X T, cl[x]? = some (X, T, 0)) ∧ ∀ z ∈ M.2, sm_okH Ts cl nc y.1.cls x z) : sm_okW Ts sx zx oc K cl nc Y YW mi M := by
  subst hy
  refine ⟨h1, h2, h3, h4, h5, fun pc q hq => ?_⟩
  obtain ⟨g1, g2, g3, g4⟩ := sm_ck_ok _ _ h6 pc q hq
  rw [Nat.zero_add] at g1 g3
  have hk : sm_okI Ts sx zx oc K cl (YW mi).1.cls (YW mi).1.name pc q.1 q.2.2 ∧ sm_okC Ts oc cl Y (YW mi).1.cls q.1 q.2.2 := by
    cases hp : sm_poolI q.1 with
    | true => exact h7 _ (g4 hp) pc q.1 rfl
    | false => exact sm_okI_of g3 hp
  have hall := List.all_eq_true.mp h8 _ (List.mem_of_getElem? hq)
  obtain ⟨i, len, rs⟩ := q
  refine ⟨g1, g2, hk.1, hk.2, ?_, fun x hp hf => ⟨(h10 x (sm_find_mem _ hf)).1, fun z hz _ => (h10 x (sm_find_mem _ hf)).2 z hz⟩, fun _ => ⟨?_, ?_⟩⟩
  · intro ix k n ps ci m1 e1 e2 e3
    dsimp only at e1 e2
    subst e1
    dsimp only at hall
    obtain ⟨z1, z2⟩ := of_decide_eq_true hall
    subst z1
    rw [z2] at e2
    simp only [List.cons.injEq] at e2
    obtain ⟨rfl, rfl, e2⟩ := e2
    rw [← e2] at e3
    simp only [sm_pick] at e3
    split at e3
    · next hc => cases e3; subst hc; exact h9
    · cases e3
  · intro ix e1
    dsimp only at e1
    subst e1
    cases hall
  · intro ix e1
    dsimp only at e1
    subst e1
    cases hall
/-- what the law's table must hold of a call -/
def sm_okQ (Ts : List Cond) (oc : (List (Nat × Nat × String × String × String × Value) × List (String × Nat × MethodName × String) × List MethodName)) (cl : List vw_C) (Y YW : Nat → sm_Y) (PW : Nat → Option sm_MW) (own : String) (i : Instr) (rs : List Nat) : Prop :=
  (∀ k mi n, rs = [k, mi, n] → (PW mi).isSome → ∃ idx, i = .invokestatic idx ∧ Cond.static (YW mi).1 ∈ Ts ∧ Cond.initialized (YW mi).1.cls ∈ Ts ∧ sm_par (YW mi).1.desc = some n ∧ Cond.methodLink own idx (YW mi).1 ∈ Ts) ∧
  (∀ idx k n ps ci mi, i = .invokevirtual idx → rs = k :: n :: ps → sm_pick ci ps = some mi → PW mi = none) ∧
  ((∀ k mi n, rs = [k, mi, n] → PW mi = none) → sm_okC Ts oc cl Y own i rs)
theorem sm_pick_mem {ci mi : Nat} : ∀ (k : Nat) (ps : List Nat), ps.length ≤ k → sm_pick ci ps = some mi → mi ∈ ps := by
  intro k
  induction k with
  | zero => intro ps hl h; have : ps = [] := List.length_eq_zero_iff.mp (by omega); subst this; simp [sm_pick] at h
  | succ k ih =>
    intro ps hl h
    match ps, hl, h with
    | [], _, h => simp [sm_pick] at h
    | [_], _, h => simp [sm_pick] at h
    | c :: m :: r, hl, h =>
      simp only [sm_pick] at h
      split at h
      · cases h; simp
      · have := ih r (by simp at hl; omega) h
        simp [this]
theorem sm_okQ_of {Ts : List Cond} {oc : (List (Nat × Nat × String × String × String × Value) × List (String × Nat × MethodName × String) × List MethodName)} {cl : List vw_C} {Y YW : Nat → sm_Y} {PW : Nat → Option sm_MW} {own : String} {i : Instr} {rs : List Nat} (hPW : ∀ m, m < 2000 → PW m = none) (hrs : (decide (rs.length < 3) || rs.all (fun m => decide (m < 2000))) = true) (hc : sm_okC Ts oc cl Y own i rs) : sm_okQ Ts oc cl Y YW PW own i rs := by
  have key : ∀ m ∈ rs, 3 ≤ rs.length → PW m = none := fun m hm hl => by
    rw [Bool.or_eq_true, decide_eq_true_eq, List.all_eq_true] at hrs
    rcases hrs with h | h
    · omega
    · exact hPW m (of_decide_eq_true (h m hm))
  refine ⟨fun k mi n e h => ?_, fun idx k n ps ci mi _ e h => ?_, fun _ => hc⟩
  · rw [key mi (by rw [e]; simp) (by rw [e]; simp)] at h
    cases h
  · have hm := sm_pick_mem _ ps (Nat.le_refl _) h
    have hl : 0 < ps.length := List.length_pos_of_mem hm
    exact key mi (by rw [e]; simp [hm]) (by rw [e]; simp; omega)
/-- the law's pool -/
def sm_poolQ (Ts : List Cond) (sx : List (String × Nat × String × Nat)) (zx : List (String × String × String × Nat)) (oc : (List (Nat × Nat × String × String × String × Value) × List (String × Nat × MethodName × String) × List MethodName)) (K : sm_H) (cl : List vw_C) (Y YW : Nat → sm_Y) (PW : Nat → Option sm_MW) (own mn : String) (pool : List ((Nat × Nat) × List Nat)) : Prop := ∀ e ∈ pool, ∀ (pc : Nat) (i : Instr), sm_key i = e.1 → sm_okI Ts sx zx oc K cl own mn pc i e.2 ∧ sm_okQ Ts oc cl Y YW PW own i e.2
theorem sm_okL_of {Ts : List Cond} {sx : List (String × Nat × String × Nat)} {zx : List (String × String × String × Nat)} {oc : (List (Nat × Nat × String × String × String × Value) × List (String × Nat × MethodName × String) × List MethodName)} {K : sm_H} {cl : List vw_C} {Y YW : Nat → sm_Y} {P : Nat → Option sm_M} {PW : Nat → Option sm_MW} {own mn : String} {bytes : ByteArray} {tab : List (Option sm_I)} {pool : List ((Nat × Nat) × List Nat)} (hPW : ∀ m, m < 2000 → PW m = none)
    (h6 : sm_ck pool bytes 0 tab = true) (h7 : sm_poolQ Ts sx zx oc K cl Y YW PW own mn pool) (h8 : tab.all (fun o => match o with
      | some (i, _, rs) => sm_poolI i || decide (rs = [])
      | none => true) = true) : sm_okL Ts sx zx oc K cl Y YW P PW own mn bytes tab := by
  intro pc q hq
  obtain ⟨g1, g2, g3, g4⟩ := sm_ck_ok _ _ h6 pc q hq
  rw [Nat.zero_add] at g1 g3
  have hall := List.all_eq_true.mp h8 _ (List.mem_of_getElem? hq)
  obtain ⟨i, len, rs⟩ := q
  have hk : sm_okI Ts sx zx oc K cl own mn pc i rs ∧ sm_okQ Ts oc cl Y YW PW own i rs := by
    cases hp : sm_poolI i with
    | true => exact h7 _ (g4 hp) pc i rfl
    | false =>
      dsimp only at hall
      rw [hp, Bool.false_or, decide_eq_true_eq] at hall
      subst hall
      have := sm_okI_of (Ts := Ts) (sx := sx) (zx := zx) (oc := oc) (K := K) (cl := cl) (Y := Y) (own := own) (mn := mn) (rs := []) g3 hp
      exact ⟨this.1, sm_okQ_of hPW rfl this.2⟩
  exact ⟨g1, g2, hk.1, hk.2⟩
/-- methods in a list, one by one -/
theorem sm_lst {α : Type} {Q : Nat → α → Prop} {b : Nat} {x : α} {l : List α} (h : Q b x) (hl : ∀ i M, l[i]? = some M → Q (b + 1 + i) M) : ∀ i M, (x :: l)[i]? = some M → Q (b + i) M := fun i M hi => by
  cases i with
  | zero => simp at hi; subst hi; exact h
  | succ i => have := hl i M (by simpa using hi); rw [show b + 1 + i = b + (i + 1) by omega] at this; exact this
theorem sm_lst0 {α : Type} {Q : Nat → α → Prop} {b : Nat} : ∀ i M, ([] : List α)[i]? = some M → Q (b + i) M := fun i M hi => by simp at hi
theorem sm_lstA {α : Type} {Q : Nat → α → Prop} {b n : Nat} {l1 l2 : List α} (hn : l1.length = n) (h1 : ∀ i M, l1[i]? = some M → Q (b + i) M) (h2 : ∀ i M, l2[i]? = some M → Q (b + n + i) M) : ∀ i M, (l1 ++ l2)[i]? = some M → Q (b + i) M := fun i M hi => by
  by_cases hl : i < l1.length
  · rw [List.getElem?_append_left hl] at hi; exact h1 i M hi
  · rw [List.getElem?_append_right (by omega)] at hi
    have := h2 _ M hi
    rw [show b + n + (i - l1.length) = b + i by omega] at this
    exact this
theorem sm_orMem {as ex : List Cond} (is : List Nat) (hl : as.length = is.length) (h : (as.zip is).all (fun p => (lx_tbl[p.2]?.any (fun v => decide (v = p.1)) && goodWord p.1) || ex.any (fun v => decide (v = p.1))) = true) : ∀ a ∈ as, a ∈ sc_Ts ∨ a ∈ ex := by
  intro w hw
  obtain ⟨k, hk⟩ := List.getElem?_of_mem hw
  have hkl : k < is.length := by rw [← hl]; exact (List.getElem?_eq_some_iff.mp hk).1
  have hz : (as.zip is)[k]? = some (w, is[k]) := by
    rw [List.getElem?_zip_eq_some]
    exact ⟨hk, List.getElem?_eq_getElem hkl⟩
  have h2 := List.all_eq_true.mp h _ (List.mem_of_getElem? hz)
  rw [Bool.or_eq_true] at h2
  rcases h2 with h2 | h2
  · exact Or.inl (sm_mem is[k] h2)
  · obtain ⟨v, hv, he⟩ := List.any_eq_true.mp h2
    have he2 : v = w := of_decide_eq_true he
    exact Or.inr (he2 ▸ hv)
/-- all places of throws in the methods' tables, forty to a list -/
def sm_thrs (mss : List (List sm_M)) : List (Nat × Nat × Nat) := mss.zipIdx.flatMap (fun y => y.1.zipIdx.flatMap (fun z => z.1.2.2.zipIdx.filterMap (fun o => o.1.bind (fun q => (sm_thr q).map (fun x => (40 * y.2 + z.2, o.2, x))))))
theorem sm_thrs_mem {mss : List (List sm_M)} {ms : List sm_M} {a b pc x : Nat} {M : sm_M} {q : sm_I} (h0 : mss[a]? = some ms) (h1 : ms[b]? = some M) (h2 : M.2.2[pc]? = some (some q)) (h3 : sm_thr q = some x) : (40 * a + b, pc, x) ∈ sm_thrs mss :=
  List.mem_flatMap.mpr ⟨(ms, a), List.mem_zipIdx_iff_getElem?.mpr h0, List.mem_flatMap.mpr ⟨(M, b), List.mem_zipIdx_iff_getElem?.mpr h1, List.mem_filterMap.mpr ⟨(some q, pc), List.mem_zipIdx_iff_getElem?.mpr h2, by simp [h3]⟩⟩⟩
