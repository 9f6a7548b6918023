/-! CHECKING a method's table by computation -/
def sm_poolI (i : Instr) : Bool := match i with
  | .getfield _ | .putfield _ | .getstatic _ | .new _ | .newarray _ | .ldc _ | .ldc_w _ | .ldc2_w _ | .invokestatic _ | .invokespecial _ | .invokevirtual _ => true
  | _ => false
def sm_jumpOk (pc : Nat) (i : Instr) : Bool := match i with
  | .if_icmp _ off => decide (0 ≤ (pc : Int) + off)
  | .ifCond _ off => decide (0 ≤ (pc : Int) + off)
  | .goto off => decide (0 ≤ (pc : Int) + off)
  | .tableswitch d _ _ offs => decide (0 ≤ (pc : Int) + d) && offs.toList.all (fun o => decide (0 ≤ (pc : Int) + o))
  | _ => true
/-- an instruction with an operand in the pool, as two numbers -/
def sm_key (i : Instr) : Nat × Nat := match i with
  | .getfield n => (1, n)
  | .putfield n => (2, n)
  | .getstatic n => (3, n)
  | .new n => (4, n)
  | .newarray .boolean => (5, 4)
  | .newarray .char => (5, 5)
  | .newarray .int => (5, 10)
  | .newarray .long => (5, 11)
  | .ldc n => (6, n)
  | .ldc_w n => (7, n)
  | .ldc2_w n => (8, n)
  | .invokestatic n => (9, n)
  | .invokespecial n => (10, n)
  | .invokevirtual n => (11, n)
  | _ => (0, 0)
theorem sm_k1 {i : Instr} {n : Nat} (h : sm_key i = (1, n)) : i = .getfield n := by unfold sm_key at h; split at h <;> simp_all
theorem sm_k2 {i : Instr} {n : Nat} (h : sm_key i = (2, n)) : i = .putfield n := by unfold sm_key at h; split at h <;> simp_all
theorem sm_k3 {i : Instr} {n : Nat} (h : sm_key i = (3, n)) : i = .getstatic n := by unfold sm_key at h; split at h <;> simp_all
theorem sm_k4 {i : Instr} {n : Nat} (h : sm_key i = (4, n)) : i = .new n := by unfold sm_key at h; split at h <;> simp_all
theorem sm_k5b {i : Instr} (h : sm_key i = (5, 4)) : i = .newarray .boolean := by unfold sm_key at h; split at h <;> simp_all
theorem sm_k5c {i : Instr} (h : sm_key i = (5, 5)) : i = .newarray .char := by unfold sm_key at h; split at h <;> simp_all
theorem sm_k5i {i : Instr} (h : sm_key i = (5, 10)) : i = .newarray .int := by unfold sm_key at h; split at h <;> simp_all
theorem sm_k5l {i : Instr} (h : sm_key i = (5, 11)) : i = .newarray .long := by unfold sm_key at h; split at h <;> simp_all
theorem sm_k6 {i : Instr} {n : Nat} (h : sm_key i = (6, n)) : i = .ldc n := by unfold sm_key at h; split at h <;> simp_all
theorem sm_k7 {i : Instr} {n : Nat} (h : sm_key i = (7, n)) : i = .ldc_w n := by unfold sm_key at h; split at h <;> simp_all
theorem sm_k8 {i : Instr} {n : Nat} (h : sm_key i = (8, n)) : i = .ldc2_w n := by unfold sm_key at h; split at h <;> simp_all
theorem sm_k9 {i : Instr} {n : Nat} (h : sm_key i = (9, n)) : i = .invokestatic n := by unfold sm_key at h; split at h <;> simp_all
theorem sm_k10 {i : Instr} {n : Nat} (h : sm_key i = (10, n)) : i = .invokespecial n := by unfold sm_key at h; split at h <;> simp_all
theorem sm_k11 {i : Instr} {n : Nat} (h : sm_key i = (11, n)) : i = .invokevirtual n := by unfold sm_key at h; split at h <;> simp_all
def sm_ck (pool : List ((Nat × Nat) × List Nat)) (bytes : ByteArray) : Nat → List (Option sm_I) → Bool
  | _, [] => true
  | pc, none :: r => sm_ck pool bytes (pc + 1) r
  | pc, some q :: r => decide (decode bytes pc = .ok (q.1, q.2.1)) && sm_lenOk q.1 q.2.1 && sm_jumpOk pc q.1 && (!sm_poolI q.1 || decide ((sm_key q.1, q.2.2) ∈ pool)) && sm_ck pool bytes (pc + 1) r
theorem sm_ck_ok {pool : List ((Nat × Nat) × List Nat)} {bytes : ByteArray} : ∀ (tab : List (Option sm_I)) (pc0 : Nat), sm_ck pool bytes pc0 tab = true → ∀ (pc : Nat) (q : sm_I), tab[pc]? = some (some q) → decode bytes (pc0 + pc) = .ok (q.1, q.2.1) ∧ sm_lenOk q.1 q.2.1 = true ∧ sm_jumpOk (pc0 + pc) q.1 = true ∧ (sm_poolI q.1 = true → (sm_key q.1, q.2.2) ∈ pool) := by
  intro tab
  induction tab with
  | nil => intro pc0 _ pc q hq; simp at hq
  | cons o tab ih =>
    intro pc0 h pc q hq
    cases pc with
    | zero =>
      simp at hq
      subst hq
      simp only [sm_ck, Bool.and_eq_true, Bool.or_eq_true, Bool.not_eq_true', decide_eq_true_eq] at h
      obtain ⟨⟨⟨⟨h1, h2⟩, h3⟩, h4⟩, -⟩ := h
      refine ⟨h1, h2, h3, fun hp => ?_⟩
      rcases h4 with h4 | h4
      · rw [hp] at h4; cases h4
      · exact h4
    | succ pc =>
      have h2 : sm_ck pool bytes (pc0 + 1) tab = true := by
        cases o with
        | none => exact h
        | some q0 =>
          simp only [sm_ck, Bool.and_eq_true] at h
          exact h.2
      have := ih (pc0 + 1) h2 pc q (by simpa using hq)
      rw [show pc0 + 1 + pc = pc0 + (pc + 1) by omega] at this
      exact this
theorem sm_okI_of {Ts : List Cond} {sx : List (String × Nat × String × Nat)} {zx : List (String × String × String × Nat)} {oc : (List (Nat × Nat × String × String × String × Value) × List (String × Nat × MethodName × String) × List MethodName)} {K : sm_H} {cl : List vw_C} {Y : Nat → sm_Y} {own mn : String} {pc : Nat} {i : Instr} {rs : List Nat} (hj : sm_jumpOk pc i = true) (hp : sm_poolI i = false) : sm_okI Ts sx zx oc K cl own mn pc i rs ∧ sm_okC Ts oc cl Y own i rs := by
  cases i with
  | if_icmp c off =>
    have h0 : 0 ≤ (pc : Int) + off := by simpa [sm_jumpOk] using hj
    exact ⟨h0, trivial⟩
  | ifCond c off =>
    have h0 : 0 ≤ (pc : Int) + off := by simpa [sm_jumpOk] using hj
    exact ⟨h0, trivial⟩
  | goto off =>
    have h0 : 0 ≤ (pc : Int) + off := by simpa [sm_jumpOk] using hj
    exact ⟨h0, trivial⟩
  | tableswitch d lo hi offs =>
    simp only [sm_jumpOk, Bool.and_eq_true, decide_eq_true_eq, List.all_eq_true] at hj
    exact ⟨hj, trivial⟩
  | getfield _ | putfield _ | getstatic _ | new _ | newarray _ | ldc _ | ldc_w _ | ldc2_w _ | invokestatic _ | invokespecial _ | invokevirtual _ => simp [sm_poolI] at hp
  | _ => exact ⟨trivial, trivial⟩
/-- the pool entries of a class are right -/
def sm_poolOk (Ts : List Cond) (sx : List (String × Nat × String × Nat)) (zx : List (String × String × String × Nat)) (oc : (List (Nat × Nat × String × String × String × Value) × List (String × Nat × MethodName × String) × List MethodName)) (K : sm_H) (cl : List vw_C) (Y : Nat → sm_Y) (own mn : String) (pool : List ((Nat × Nat) × List Nat)) : Prop := ∀ e ∈ pool, ∀ (pc : Nat) (i : Instr), sm_key i = e.1 → sm_okI Ts sx zx oc K cl own mn pc i e.2 ∧ sm_okC Ts oc cl Y own i e.2
theorem sm_okM_of {Ts : List Cond} {sx : List (String × Nat × String × Nat)} {zx : List (String × String × String × Nat)} {oc : (List (Nat × Nat × String × String × String × Value) × List (String × Nat × MethodName × String) × List MethodName)} {K : sm_H} {cl : List vw_C} {Y : Nat → sm_Y} {mi : Nat} {M : sm_M} {pool : List ((Nat × Nat) × List Nat)} (y : sm_Y) (hy : Y mi = y)
    (h1 : Cond.code y.1 y.2.1 M.1 y.2.2 ∈ Ts) (h2 : plainName y.1.cls = true) (h3 : sm_nmh y.1.cls) (h4 : M.1 ≤ 45) (h5 : sm_rk M.2.1 y.2.2) (h6 : sm_ck pool y.2.1 0 M.2.2 = true) (h7 : sm_poolOk Ts sx zx oc K cl Y y.1.cls y.1.name pool) : sm_okM Ts sx zx oc K cl Y mi M := by
  subst hy
  refine ⟨h1, h2, h3, h4, h5, fun pc q hq => ?_⟩
  obtain ⟨g1, g2, g3, g4⟩ := sm_ck_ok _ _ h6 pc q hq
  rw [Nat.zero_add] at g1 g3
  cases hp : sm_poolI q.1 with
  | true => obtain ⟨k1, k2⟩ := h7 _ (g4 hp) pc q.1 rfl; exact ⟨g1, g2, k1, k2⟩
  | false => obtain ⟨k1, k2⟩ := sm_okI_of (Ts := Ts) (sx := sx) (zx := zx) (oc := oc) (K := K) (cl := cl) (Y := Y) (own := (Y mi).1.cls) (mn := (Y mi).1.name) (rs := q.2.2) g3 hp; exact ⟨g1, g2, k1, k2⟩
