/-! the class's small methods exactly: Tree.drop, parent, node, isName, set, keep, type, clear -/
theorem tw_sp {α : Type} (p : α → Bool) : ∀ A : List α, (A.takeWhile p).length ≤ A.length ∧ (∀ i : Nat, i < (A.takeWhile p).length → ∃ y, A[i]? = some y ∧ p y = true) ∧ ((A.takeWhile p).length < A.length → ∃ y, A[(A.takeWhile p).length]? = some y ∧ p y = false) := by
  intro A
  induction A with
  | nil => exact ⟨Nat.le_refl _, fun i hi => absurd hi (Nat.not_lt_zero i), fun q => absurd q (Nat.not_lt_zero _)⟩
  | cons a A ih =>
    obtain ⟨i1, i2, i3⟩ := ih
    cases hp : p a with
    | true =>
      have e : (a :: A).takeWhile p = a :: A.takeWhile p := by rw [List.takeWhile_cons, hp]; rfl
      rw [e]
      refine ⟨by simp only [List.length_cons]; omega, fun i hi => ?_, fun q => ?_⟩
      · cases i with
        | zero => exact ⟨a, rfl, hp⟩
        | succ i => exact i2 i (by simp only [List.length_cons] at hi; omega)
      · exact i3 (by simp only [List.length_cons] at q; omega)
    | false =>
      have e : (a :: A).takeWhile p = [] := by rw [List.takeWhile_cons, hp]; rfl
      rw [e]
      exact ⟨Nat.zero_le _, fun i hi => absurd hi (Nat.not_lt_zero i), fun _ => ⟨a, rfl, hp⟩⟩
theorem lvl_s (x : Int × Int × Int) (A : List (Int × Int × Int)) (i : Nat) : lvl (x :: A) (i + 1) = lvl A i := rfl
theorem sz_nd : ∀ (T : List (Int × Int × Int)) (k : Nat) (m : Int), (sz T)[k]? = some m → nd_s T k m := by
  intro T
  induction T with
  | nil => intro k m h; exact absurd h (by simp [sz])
  | cons x A ih =>
    intro k m h
    cases k with
    | zero =>
      have h : some ((A.takeWhile (fun y => decide (x.2.2 < y.2.2))).length : Int) = some m := h
      have em := Option.some.inj h
      obtain ⟨t1, t2, t3⟩ := tw_sp (fun y : Int × Int × Int => decide (x.2.2 < y.2.2)) A
      generalize (A.takeWhile (fun y => decide (x.2.2 < y.2.2))).length = n at em t1 t2 t3
      subst em
      have l0 : lvl (x :: A) 0 = x.2.2 := rfl
      refine ⟨by omega, by simp only [List.length_cons]; omega, fun i i0 i1 => ?_, fun q => ?_⟩
      · cases i with
        | zero => omega
        | succ i =>
          obtain ⟨y, y1, y2⟩ := t2 i (by omega)
          rw [lvl_s, l0]
          unfold lvl
          rw [y1]
          exact of_decide_eq_true y2
      · obtain ⟨y, y1, y2⟩ := t3 (by simp only [List.length_cons] at q; omega)
        have e : (((0 : Nat) : Int) + (n : Int) + 1).toNat = n + 1 := by omega
        rw [e, lvl_s, l0]
        unfold lvl
        rw [y1]
        have := of_decide_eq_false y2
        show y.2.2 ≤ x.2.2
        omega
    | succ k =>
      have h : (sz A)[k]? = some m := h
      obtain ⟨a1, a2, a3, a4⟩ := ih k m h
      refine ⟨a1, by simp only [List.length_cons]; omega, fun i i0 i1 => ?_, fun q => ?_⟩
      · cases i with
        | zero => omega
        | succ i =>
          rw [lvl_s, lvl_s]
          exact a3 i (by omega) (by omega)
      · have q2 := a4 (by simp only [List.length_cons] at q; omega)
        have e : (((k + 1 : Nat) : Int) + m + 1).toNat = ((k : Int) + m + 1).toNat + 1 := by omega
        rw [e, lvl_s, lvl_s]
        exact q2
section NODC
variable {d : Nat} {h : sm_H} {T : List (Int × Int × Int)}
theorem gc_nd (hT : gc_S h T) {k : Nat} (hk : k < T.length) : nd_s T k (mi_a h 97 k) := sz_nd T k _ (hT.2.2 k hk)
theorem me_parentc {zk : Int} (hS : ab_Sh sx_sk h) (hT : gc_S h T) (hl : T.length ≤ 100) (k0 : 0 ≤ zk) (k1 : zk < (T.length : Int)) : me_E (d + 1) 161 0 [some (.inr (.inr 94)), some (.inl zk), none] [] h (fun w h' => h' = h ∧ ∃ z, w = some (.inl z) ∧ nd_p T zk.toNat z) := by
  have ok : mi_in zk := ⟨by omega, by omega⟩
  have lp : ∀ (N : Nat) (zj : Int), zj < (N : Int) → -1 ≤ zj → zj < zk → (∀ i : Nat, zj < (i : Int) → i < zk.toNat → lvl T zk.toNat ≤ lvl T i) → me_E (d + 1) 161 4 [some (.inr (.inr 94)), some (.inl zk), some (.inl zj)] [] h (fun w h' => h' = h ∧ ∃ z, w = some (.inl z) ∧ nd_p T zk.toNat z) := by
    intro N
    induction N with
    | zero =>
      intro zj j0 j1 j2 hi
      refine mt_kpaB hS ok ⟨by omega, by omega⟩ ?_ ?_ ?_ ?_ ?_
      · intro c h2 s1 s2
        exact ⟨me_nil s2, -1, rfl, by omega, by omega, fun i i0 i1 => hi i (by omega) i1, fun q => by omega⟩
      · intro c; omega
      · intro c; omega
      · intro c; omega
      · intro c; omega
    | succ N ih =>
      intro zj j0 j1 j2 hi
      refine mt_kpaB hS ok ⟨by omega, by omega⟩ ?_ ?_ ?_ ?_ ?_
      · intro c h2 s1 s2
        exact ⟨me_nil s2, -1, rfl, by omega, by omega, fun i i0 i1 => hi i (by omega) i1, fun q => by omega⟩
      · intro c1 c2; omega
      · intro c1 c2; omega
      · intro c1 c2 c3
        obtain ⟨n1, n2, n3, n4⟩ := gc_nd hT (k := zj.toNat) (by omega)
        generalize mi_a h 97 zj.toNat = m at c3 n1 n2 n3 n4 ⊢
        refine ⟨by omega, fun h2 s1 s2 => ?_⟩
        have e := me_nil s2
        subst e
        refine ih (zj + (-1)) (by omega) (by omega) (by omega) (fun i i0 i1 => ?_)
        by_cases q : (i : Int) = zj
        · have q2 : i = zj.toNat := by omega
          subst q2
          have p4 := n4 (by omega)
          by_cases q3 : (zj.toNat : Int) + m + 1 = zk
          · have e3 : ((zj.toNat : Int) + m + 1).toNat = zk.toNat := by omega
            rw [e3] at p4
            exact p4
          · have p5 := hi ((zj.toNat : Int) + m + 1).toNat (by omega) (by omega)
            omega
        · exact hi i (by omega) i1
      · intro c1 c2 c3
        obtain ⟨n1, n2, n3, n4⟩ := gc_nd hT (k := zj.toNat) (by omega)
        generalize mi_a h 97 zj.toNat = m at c3 n1 n2 n3 n4 ⊢
        refine ⟨by omega, fun h2 s1 s2 => ?_⟩
        exact ⟨me_nil s2, zj, rfl, j1, by omega, hi, fun _ => n3 zk.toNat (by omega) (by omega)⟩
  refine mt_kpaA hS ok ⟨by omega, fun h1 g1 g2 => ?_⟩
  have e := me_nil g2
  subst e
  exact lp zk.toNat (zk - 1) (by omega) (by omega) (by omega) (fun i i0 i1 => by omega)
def ndc_Q (h : sm_H) (T : List (Int × Int × Int)) (zk zw : Int) (w : Option mi_V) (h' : sm_H) : Prop := h' = h ∧ 0 ≤ zk ∧ zk < (T.length : Int) ∧ 0 ≤ zw ∧ zw ≤ 3 ∧ ∃ y : Int64, w = some (.inr (.inl y)) ∧ nd_v T zk.toNat zw y.toInt
def ndc_T (h : sm_H) (T : List (Int × Int × Int)) (zk zw : Int) (x : Nat) (h' : sm_H) : Prop := h' = h ++ [sm_exc x] ∧ ((x = 16 ∧ (zk < 0 ∨ (T.length : Int) ≤ zk)) ∨ (x = 13 ∧ 0 ≤ zk ∧ zk < (T.length : Int) ∧ (zw < 0 ∨ 3 < zw)))
theorem me_nodec {zk zw : Int} (hS : ab_Sh sx_sk h) (ok : mi_in zk) (ow : mi_in zw) (hT : gc_S h T) (hl : T.length ≤ 100) : mg_E (ndc_T h T zk zw) (d + 2) 160 0 [some (.inr (.inr 51)), some (.inl zk), some (.inl zw)] [] h (ndc_Q h T zk zw) := by
  have e0 := hT.1.1
  have t16 : (zk < 0 ∨ (T.length : Int) ≤ zk) → ∀ h1, ab_Sh sx_sk h1 → ab_Fr [] h h1 → mg_E (ndc_T h T zk zw) (d + 2) 160 15 [some (.inr (.inr 51)), some (.inl zk), some (.inl zw)] [] h1 (ndc_Q h T zk zw) := fun c h1 g1 g2 => by
    have e := me_nil g2
    subst e
    exact mg_thr (M := (3, 2, sb_160)) (x := 16) rfl rfl rfl ⟨rfl, Or.inl ⟨rfl, c⟩⟩
  have bk : 0 ≤ zk → zk < mi_f h 12032 → ∃ l q, T[zk.toNat]? = some (mi_a h 95 zk.toNat + 10 * q, mi_a h 96 zk.toNat, l) ∧ 0 ≤ mi_a h 95 zk.toNat ∧ mi_a h 95 zk.toNat < 10 := fun a b => hT.1.2 zk.toNat (by omega)
  refine mt_kndA hS ok ow ?_ ?_ ?_ ?_ ?_ ?_ ?_ ?_ ?_ ?_
  · intro c; exact t16 (Or.inl c)
  · intro b c1 c2 c3 c4; omega
  · intro b c1 c2 c3 c4
    obtain ⟨l, q, x1, x2, x3⟩ := bk c1 c2
    refine ⟨by omega, fun h1 g1 g2 => ⟨me_nil g2, c1, by omega, by omega, by omega, _, rfl, Or.inl ⟨by omega, _, x1, ?_⟩⟩⟩
    rw [i2l_v ⟨by omega, by omega⟩]
    show _ = (_ + _) % 10
    omega
  · intro b c1 c2 c3 c4; omega
  · intro b c1 c2 c3 c4
    obtain ⟨l, q, x1, x2, x3⟩ := bk c1 c2
    refine ⟨by omega, fun h1 g1 g2 => ⟨me_nil g2, c1, by omega, by omega, by omega, _, rfl, Or.inr (Or.inl ⟨by omega, _, x1, ?_⟩)⟩⟩
    exact i2l_v (mi_inT _)
  · intro b c1 c2 c3 h1 g1 g2
    have e := me_nil g2
    subst e
    refine ⟨_, me_parentc (d := d) hS hT hl c1 (by omega), fun w h2 oww hq => ?_⟩
    obtain ⟨e, z, rfl, hz⟩ := hq
    subst e
    have hz2 := hz
    obtain ⟨z1, z2, -⟩ := hz2
    refine mt_kndB g1 ok ow ⟨by omega, by omega⟩ (fun h3 r1 r2 => ⟨me_nil r2, c1, by omega, by omega, by omega, _, rfl, Or.inr (Or.inr (Or.inl ⟨by omega, ?_⟩))⟩)
    rw [i2l_v ⟨by omega, by omega⟩]
    exact hz
  · intro b c1 c2 c3 c4; omega
  · intro b c1 c2 c3 c4
    refine ⟨by omega, fun h1 g1 g2 => ⟨me_nil g2, c1, by omega, by omega, by omega, _, rfl, Or.inr (Or.inr (Or.inr ⟨by omega, ?_⟩))⟩⟩
    rw [i2l_v (z := mi_a h 97 zk.toNat) (mi_inT _)]
    exact gc_nd hT (by omega)
  · intro b c1 c2 c3 h1 g1 g2
    have e := me_nil g2
    subst e
    exact mg_thr (M := (3, 2, sb_160)) (x := 13) rfl rfl rfl ⟨rfl, Or.inr ⟨rfl, c1, by omega, c3⟩⟩
  · intro b c1 c2; exact t16 (Or.inr (by omega))
/-- isName -/
theorem lg_ush5 {x : Int64} (h : 0 ≤ x.toInt) : ((x.toUInt64 >>> ((Int32.ofInt ((5 : Int))).toInt64.toUInt64 &&& Int64.toUInt64 63)).toInt64).toInt = x.toInt / 32 := by
  have e : ((Int32.ofInt ((5 : Int))).toInt64.toUInt64 &&& Int64.toUInt64 63) = 5 := by decide
  rw [e]
  have toN : (x.toUInt64.toNat : Int) = x.toInt := by
    have e2 : x.toBitVec.toInt = x.toInt := rfl
    have e3 := BitVec.toInt_eq_toNat_cond x.toBitVec
    have e4 := x.toBitVec.isLt
    show (x.toBitVec.toNat : Int) = x.toInt
    split at e3 <;> omega
  have hn : (x.toUInt64 >>> 5).toNat = x.toUInt64.toNat / 32 := by
    rw [UInt64.toNat_shiftRight]
    have h2 : (5 : UInt64).toNat % 64 = 5 := by decide
    rw [h2, Nat.shiftRight_eq_div_pow]
  have h1 : x.toUInt64.toNat < 2 ^ 64 := x.toUInt64.toNat_lt
  have h2 : ((x.toUInt64 >>> 5).toInt64).toInt = ((x.toUInt64 >>> 5).toNat : Int) := by
    show (x.toUInt64 >>> 5).toBitVec.toInt = _
    exact BitVec.toInt_eq_toNat_of_lt (by show 2 * (x.toUInt64 >>> 5).toNat < 2 ^ 64; omega)
  omega
def in_C (n : Nat) (zw : Int) (h : sm_H) (w : Option mi_V) (h' : sm_H) : Prop := h' = h ∧ ((w = some (.inl 1) ∧ lgd n zw) ∨ (w = some (.inl 0) ∧ ¬ lgd n zw))
theorem me_isNamec {zv : Int64} (hS : ab_Sh sx_sk h) : me_E d 163 0 [some (.inr (.inl zv)), none, none, none, none, none, none] [] h (fun w h' => h' = h ∧ ((w = some (.inl 1) ∧ 0 < zv.toInt ∧ zv.toInt < 1073741824 ∧ lgd 6 zv.toInt) ∨ (w = some (.inl 0) ∧ ¬ (0 < zv.toInt ∧ zv.toInt < 1073741824 ∧ lgd 6 zv.toInt)))) := by
  have c0 : (Int64.ofNat 0).toInt = 0 := by decide
  have c1 : (Int64.ofNat 1).toInt = 1 := by decide
  have c26 : (Int64.ofNat 26).toInt = 26 := by decide
  have c30 : (Int64.ofNat 1073741824).toInt = 1073741824 := by decide
  have lp : ∀ (n : Nat) (zn : Int) (zr : Int64) (q5 : Option mi_V), (∀ v, q5 = some v → mi_ok v) → zn + n = 6 → 0 ≤ zn → 0 ≤ zr.toInt → zr.toInt < 32 ^ n → me_E d 163 21 [some (.inr (.inl zv)), none, some (.inr (.inl zr)), none, some (.inl zn), q5, none] [] h (in_C n zr.toInt h) := by
    intro n
    induction n with
    | zero =>
      intro zn zr q5 o5 hn n0 w0 w1
      have w1 : zr.toInt < 1 := w1
      refine mt_kinB hS ⟨by omega, by omega⟩ o5 ?_ ?_ ?_ ?_ ?_
      · intro c h1 g1 g2
        exact ⟨me_nil g2, Or.inl ⟨rfl, show zr.toInt = 0 by omega⟩⟩
      · intro c; omega
      · intro c; omega
      · intro c; omega
      · intro c; omega
    | succ n ih =>
      intro zn zr q5 o5 hn n0 w0 w1
      have t0 := lgt9 zr (Int64.ofNat 0)
      have e31 := lg_n31 w0
      have t1 := lgt9 (zr &&& (Int64.ofNat 31)) (Int64.ofNat 1)
      have t2 := lgt9 (zr &&& (Int64.ofNat 31)) (Int64.ofNat 26)
      rw [e31] at t1 t2
      rw [c0] at t0
      rw [c1] at t1
      rw [c26] at t2
      refine mt_kinB hS ⟨by omega, by omega⟩ o5 ?_ ?_ ?_ ?_ ?_
      · intro c; omega
      · intro k1 k2 h1 g1 g2
        exact ⟨me_nil g2, Or.inl ⟨rfl, Or.inl (by omega)⟩⟩
      · intro k1 k2 k3 h1 g1 g2
        refine ⟨me_nil g2, Or.inr ⟨rfl, fun q => ?_⟩⟩
        rcases q with q | q
        · omega
        · omega
      · intro k1 k2 k3 k4
        refine ⟨by omega, fun h1 g1 g2 => ?_⟩
        have e := me_nil g2
        subst e
        have sh := lg_ush5 w0
        have p5 : (32 : Int) ^ (n + 1) = 32 ^ n * 32 := Int.pow_succ ..
        refine (ih (zn + 1) _ (some (.inr (.inl (zr &&& (Int64.ofNat 31))))) (fun v hv => by cases hv; trivial) (by omega) (by omega) (by rw [sh]; omega) (by rw [sh]; omega)).imp (fun w h' hq => ?_)
        obtain ⟨r1, r2⟩ := hq
        refine ⟨r1, ?_⟩
        rw [sh] at r2
        rcases r2 with ⟨r2, r3⟩ | ⟨r2, r3⟩
        · exact Or.inl ⟨r2, Or.inr ⟨by omega, by omega, r3⟩⟩
        · refine Or.inr ⟨r2, fun q => r3 ?_⟩
          rcases q with q | q
          · omega
          · exact q.2.2
      · intro k1 k2 k3 k4 h1 g1 g2
        refine ⟨me_nil g2, Or.inr ⟨rfl, fun q => ?_⟩⟩
        rcases q with q | q
        · omega
        · omega
  have ta := lgt9 zv (Int64.ofNat 0)
  have tb := lgt9 zv (Int64.ofNat 1073741824)
  rw [c0] at ta
  rw [c30] at tb
  refine mt_kinA hS ?_ ?_ ?_
  · intro c h1 g1 g2
    exact ⟨me_nil g2, Or.inr ⟨rfl, fun q => by omega⟩⟩
  · intro k1 k2 h1 g1 g2
    have e := me_nil g2
    subst e
    have p6 : (32 : Int) ^ 6 = 1073741824 := by decide
    refine (lp 6 0 zv none (fun v hv => by cases hv) (by omega) (by omega) (by omega) (by omega)).imp (fun w h' hq => ?_)
    obtain ⟨r1, r2⟩ := hq
    refine ⟨r1, ?_⟩
    rcases r2 with ⟨r2, r3⟩ | ⟨r2, r3⟩
    · exact Or.inl ⟨r2, by omega, by omega, r3⟩
    · exact Or.inr ⟨r2, fun q => r3 q.2.2⟩
  · intro k1 k2 h1 g1 g2
    exact ⟨me_nil g2, Or.inr ⟨rfl, fun q => by omega⟩⟩
theorem l2i_v {x : Int64} (o : mi_in x.toInt) : x.toInt32.toInt = x.toInt := by
  rw [Int64.toInt_toInt32]
  have o1 : -2147483648 ≤ x.toInt := o.1
  have o2 : x.toInt ≤ 2147483647 := o.2
  exact Int.bmod_eq_of_le (by omega) (by omega)
def cst_Q (h : sm_H) (T : List (Int × Int × Int)) (zk : Int) (zv : Int64) (w : Option mi_V) (h' : sm_H) : Prop := ab_Sh sx_sk h' ∧ 0 ≤ zk ∧ zk < (T.length : Int) ∧ ∃ x, T[zk.toNat]? = some x ∧ ((st9_f (mi_f h 7698) (mi_a h 75) x zv.toInt ∧ w = some (.inl 1) ∧ ab_Fr [(12288, 12289)] h h' ∧ ∀ i, mi_a h' 96 i = if i = zk.toNat then zv.toInt else mi_a h 96 i) ∨ (¬ st9_f (mi_f h 7698) (mi_a h 75) x zv.toInt ∧ w = some (.inl 0) ∧ h' = h))
def cst_T (h : sm_H) (T : List (Int × Int × Int)) (zk : Int) (x : Nat) (h' : sm_H) : Prop := h' = h ++ [sm_exc x] ∧ x = 16 ∧ (zk < 0 ∨ (T.length : Int) ≤ zk)
theorem me_setc {zk : Int} {zv : Int64} (hS : ab_Sh sx_sk h) (ok : mi_in zk) (hn : mi_f h 7698 ≤ 20) (hT : gc_S h T) (hl : T.length ≤ 100) : mg_E (cst_T h T zk) (d + 2) 162 0 [some (.inr (.inr 51)), some (.inl zk), some (.inr (.inl zv)), none, none, none] [] h (cst_Q h T zk zv) := by
  have e0 := hT.1.1
  have c0 : (Int64.ofNat 0).toInt = 0 := by decide
  have c4 : (Int64.ofNat 10000).toInt = 10000 := by decide
  have t0 := lgt9 zv (Int64.ofNat 0)
  have t4 := lgt9 zv (Int64.ofNat 10000)
  rw [c0] at t0
  rw [c4] at t4
  have t16 : (zk < 0 ∨ (T.length : Int) ≤ zk) → ∀ h1, ab_Sh sx_sk h1 → ab_Fr [] h h1 → mg_E (cst_T h T zk) (d + 2) 162 15 [some (.inr (.inr 51)), some (.inl zk), some (.inr (.inl zv)), none, none, none] [] h1 (cst_Q h T zk zv) := fun c h1 g1 g2 => by
    have e := me_nil g2
    subst e
    exact mg_thr (M := (6, 4, sb_162)) (x := 16) rfl rfl rfl ⟨rfl, rfl, c⟩
  refine mt_kstA hS ok ?_ ?_ ?_ ?_
  · intro c; exact t16 (Or.inl c)
  · intro b c1 c2 c3; omega
  · intro b c1 c2 c3
    refine ⟨by omega, fun h1 g1 g2 => ?_⟩
    have e := me_nil g2
    subst e
    obtain ⟨l, q, x1, x2, x3⟩ := hT.1.2 zk.toNat (by omega)
    have xk : (mi_a h1 95 zk.toNat + 10 * q) % 10 = mi_a h1 95 zk.toNat := by omega
    generalize mi_a h1 95 zk.toNat = zd at x1 x2 x3 xk
    have od : mi_in zd := ⟨by omega, by omega⟩
    have no : ¬ st9_f (mi_f h1 7698) (mi_a h1 75) (zd + 10 * q, mi_a h1 96 zk.toNat, l) zv.toInt → ∀ h2, ab_Sh sx_sk h2 → ab_Fr [] h1 h2 → mg_E (cst_T h1 T zk) (d + 2) 162 88 [some (.inr (.inr 51)), some (.inl zk), some (.inr (.inl zv)), none, some (.inl zd), none] [] h2 (cst_Q h1 T zk zv) := fun nf h2 s1 s2 => by
      have e := me_nil s2
      subst e
      exact mt_kstG s1 ok od (fun h3 r1 r2 => ⟨r1, c1, by omega, _, x1, Or.inr ⟨nf, rfl, me_nil r2⟩⟩)
    have yes : st9_f (mi_f h1 7698) (mi_a h1 75) (zd + 10 * q, mi_a h1 96 zk.toNat, l) zv.toInt → ∀ h2, ab_Sh sx_sk h2 → ab_Fr [] h1 h2 → mg_E (cst_T h1 T zk) (d + 2) 162 84 [some (.inr (.inr 51)), some (.inl zk), some (.inr (.inl zv)), none, some (.inl zd), none] [] h2 (cst_Q h1 T zk zv) := fun yf h2 s1 s2 => by
      have e := me_nil s2
      subst e
      have rng : mi_in zv.toInt := by
        rcases yf with ⟨-, y1, y2⟩ | ⟨-, y1, y2, -⟩ <;> exact ⟨by omega, by omega⟩
      refine mt_kstF s1 ok od ?_ ?_ ?_
      · intro c; omega
      · intro c c'; omega
      · intro c c'
        refine ⟨by omega, fun h3 r1 r2 r3 => ⟨r1, c1, by omega, _, x1, Or.inl ⟨yf, rfl, r3, fun i => ?_⟩⟩⟩
        rw [r2, l2i_v rng]
    have name : zd = 3 → ∀ h2, ab_Sh sx_sk h2 → ab_Fr [] h1 h2 → mg_E (cst_T h1 T zk) (d + 2) 162 64 [some (.inr (.inr 51)), some (.inl zk), some (.inr (.inl zv)), none, some (.inl zd), none] [] h2 (cst_Q h1 T zk zv) := fun k3 h2 s1 s2 => by
      have e := me_nil s2
      subst e
      refine mt_kstC s1 ok od (fun h3 r1 r2 => ?_)
      have e := me_nil r2
      subst e
      refine ⟨_, me_isNamec (d := d + 1) r1, fun w h4 oww hq => ?_⟩
      obtain ⟨e, hq⟩ := hq
      subst e
      rcases hq with ⟨rfl, v0, v1, v2⟩ | ⟨rfl, hv⟩
      · refine mt_kstD r1 ok od ⟨by omega, by omega⟩ ?_ ?_
        · intro c; omega
        · intro c h5 u1 u2
          have e := me_nil u2
          subst e
          have rng : mi_in zv.toInt := ⟨by omega, by omega⟩
          rw [l2i_v rng]
          refine ⟨_, me_gliteral (d := d) u1 rng hn, fun w h6 oww2 hq2 => ?_⟩
          obtain ⟨e, z, rfl, hz⟩ := hq2
          subst e
          rcases hz with ⟨z0, z1, z2, -⟩ | ⟨rfl, hz⟩
          · refine mt_kstE u1 ok od ⟨by omega, by omega⟩ ?_ ?_
            · intro c
              refine no ?_
              rintro (⟨p, -⟩ | ⟨-, -, -, -, p⟩)
              · have p : (zd + 10 * q) % 10 = 2 := p
                omega
              · exact p z.toNat (by omega) z2
            · intro c; omega
          · refine mt_kstE u1 ok od ⟨by decide, by decide⟩ ?_ ?_
            · intro c; exact absurd rfl c
            · intro c
              refine yes (Or.inr ⟨?_, v0, v1, v2, hz⟩)
              show (zd + 10 * q) % 10 = 3
              omega
      · refine mt_kstD r1 ok od ⟨by omega, by omega⟩ ?_ ?_
        · intro c
          refine no ?_
          rintro (⟨p, -⟩ | ⟨-, p1, p2, p3, -⟩)
          · have p : (zd + 10 * q) % 10 = 2 := p
            omega
          · exact hv ⟨p1, p2, p3⟩
        · intro c; omega
    refine mt_kstB g1 ok od ?_ ?_ ?_ ?_ ?_ ?_ ?_
    · intro k1 k2
      refine no ?_
      rintro (⟨p, -⟩ | ⟨p, -⟩)
      · have p : (zd + 10 * q) % 10 = 2 := p
        omega
      · have p : (zd + 10 * q) % 10 = 3 := p
        omega
    · intro k1 k2; exact name k2
    · intro k1 k2 k3
      refine no ?_
      rintro (⟨-, p, -⟩ | ⟨p, -⟩)
      · omega
      · have p : (zd + 10 * q) % 10 = 3 := p
        omega
    · intro k1 k2 k3; omega
    · intro k1 k2 k3
      refine yes (Or.inl ⟨?_, by omega, by omega⟩)
      show (zd + 10 * q) % 10 = 2
      omega
    · intro k1 k2 k3 k4
      refine no ?_
      rintro (⟨-, -, p⟩ | ⟨p, -⟩)
      · omega
      · have p : (zd + 10 * q) % 10 = 3 := p
        omega
    · intro k1 k2 k3 k4; omega
  · intro b c1 c2; exact t16 (Or.inr (by omega))
/-- keep -/
def ck_W : List (Nat × Nat) := [(12544, 12545), (12672, 12673), (12800, 12801), (12928, 12929)]
theorem me_ktake (hS : ab_Sh sx_sk h) (n0 : 0 ≤ mi_f h 12032) (n1 : mi_f h 12032 ≤ 100) : me_E (d + 2) 93 0 [some (.inr (.inr 98)), some (.inr (.inr 94)), none] [] h (fun w h' => w = none ∧ ab_Sh sx_sk h' ∧ ab_Fr ck_W h h' ∧ mi_f h' 12544 = mi_f h 12032 ∧ ∀ i : Nat, (i : Int) < mi_f h 12032 → mi_a h' 99 i = mi_a h 95 i ∧ mi_a h' 100 i = mi_a h 96 i) := by
  have lp : ∀ (N : Nat) (zk : Int) (h1 : sm_H), mi_f h 12032 - zk < (N : Int) → 0 ≤ zk → zk ≤ mi_f h 12032 → ab_Sh sx_sk h1 → ab_Fr ck_W h h1 → mi_f h1 12544 = mi_f h 12032 → (∀ i : Nat, (i : Int) < zk → mi_a h1 99 i = mi_a h 95 i ∧ mi_a h1 100 i = mi_a h 96 i) → me_E (d + 2) 93 10 [some (.inr (.inr 98)), some (.inr (.inr 94)), some (.inl zk)] [] h1 (fun w h' => w = none ∧ ab_Sh sx_sk h' ∧ ab_Fr ck_W h h' ∧ mi_f h' 12544 = mi_f h 12032 ∧ ∀ i : Nat, (i : Int) < mi_f h 12032 → mi_a h' 99 i = mi_a h 95 i ∧ mi_a h' 100 i = mi_a h 96 i) := by
    intro N
    induction N with
    | zero => intro zk h1 n k0 k1; omega
    | succ N ih =>
      intro zk h1 n k0 k1 g1 g2 g3 hi
      have a5 : ∀ i, mi_a h1 95 i = mi_a h 95 i := fun i => me_a (k := 95) g2 hS rfl rfl
      have a6 : ∀ i, mi_a h1 96 i = mi_a h 96 i := fun i => me_a (k := 96) g2 hS rfl rfl
      refine mt_kttB g1 ⟨by omega, by omega⟩ ?_ ?_ ?_ ?_
      · intro b c h2 s1 s2
        have e := me_nil s2
        subst e
        exact ⟨rfl, g1, g2, g3, fun i i1 => hi i (by omega)⟩
      · intro b c1 c2; omega
      · intro b c1 c2 c3; omega
      · intro b c1 c2 c3
        refine ⟨by omega, fun h2 s1 s2 s3 s4 s5 => ih (zk + 1) h2 (by omega) (by omega) (by omega) s1 (g2.trans (s5.wide (fun c hc => ab_swr_ok (by decide) hc))) ?_ (fun i i1 => ?_)⟩
        · rw [me_f (c := 12544) s5 g1 rfl rfl, g3]
        · rw [s2, s3]
          by_cases q : i = zk.toNat
          · rw [if_pos q, if_pos q, a5, a6, q]
            exact ⟨rfl, rfl⟩
          · rw [if_neg q, if_neg q]
            exact hi i (by omega)
  refine mt_kttA hS (fun h1 g1 g2 g3 => ?_)
  exact lp ((mi_f h 12032).toNat + 1) 0 h1 (by omega) (by omega) n0 g1 (g3.wide (fun c hc => ab_swr_ok (by decide) hc)) g2 (fun i i1 => by omega)
def ck_Qk (h : sm_H) (w : Option mi_V) (h' : sm_H) : Prop := ab_Sh sx_sk h' ∧ ((mi_f h 12032 = 0 ∧ w = some (.inl 0) ∧ h' = h) ∨ (mi_f h 12032 ≠ 0 ∧ w = some (.inl 1) ∧ ab_Fr ck_W h h' ∧ mi_f h' 12544 = mi_f h 12032 ∧ ∀ i : Nat, (i : Int) < mi_f h 12032 → mi_a h' 99 i = mi_a h 95 i ∧ mi_a h' 100 i = mi_a h 96 i))
theorem me_keepc (hS : ab_Sh sx_sk h) (n0 : 0 ≤ mi_f h 12032) (n1 : mi_f h 12032 ≤ 100) : me_E (d + 3) 92 0 [some (.inr (.inr 51))] [] h (ck_Qk h) := by
  refine mt_kkeA hS ?_ ?_
  · intro b c h1 g1 g2
    have e := me_nil g2
    subst e
    refine ⟨_, me_ktake (d := d) hS n0 n1, fun w h2 oww hq => ?_⟩
    obtain ⟨rfl, q1, q2, q3, q4⟩ := hq
    refine mt_kkeB q1 (fun h3 r1 r2 => ?_)
    have e := me_nil r2
    subst e
    exact ⟨q1, Or.inr ⟨c, rfl, q2, q3, q4⟩⟩
  · intro b c h1 g1 g2
    exact ⟨g1, Or.inl ⟨c, rfl, me_nil g2⟩⟩

end NODC
