/-! the class's small methods exactly: Tree.drop, parent, node, isName, set, keep, type, clear -/
theorem tw_sp {α : Type} (p : α → Bool) : ∀ A : List α, (A.takeWhile p).length ≤ A.length ∧ (∀ i : Nat, i < (A.takeWhile p).length → ∃ y, A[i]? = some y ∧ p y = true) ∧ ((A.takeWhile p).length < A.length → ∃ y, A[(A.takeWhile p).length]? = some y ∧ p y = false) := by
  intro A
  induction A with
  | nil => exact ⟨Nat.le_refl _, fun i hi => absurd hi (Nat.not_lt_zero i), fun q => absurd q (Nat.not_lt_zero _)⟩
  | cons a A ih =>
    obtain ⟨i1, i2, i3⟩ := ih
    cases hp : p a with
    | true =>
      have e : (a :: A).takeWhile p = a :: A.takeWhile p := by rw [List.takeWhile_cons, hp]; rfl
      rw [e]
      refine ⟨by simp only [List.length_cons]; omega, fun i hi => ?_, fun q => ?_⟩
      · cases i with
        | zero => exact ⟨a, rfl, hp⟩
        | succ i => exact i2 i (by simp only [List.length_cons] at hi; omega)
      · exact i3 (by simp only [List.length_cons] at q; omega)
    | false =>
      have e : (a :: A).takeWhile p = [] := by rw [List.takeWhile_cons, hp]; rfl
      rw [e]
      exact ⟨Nat.zero_le _, fun i hi => absurd hi (Nat.not_lt_zero i), fun _ => ⟨a, rfl, hp⟩⟩
theorem lvl_s (x : Int × Int × Int) (A : List (Int × Int × Int)) (i : Nat) : lvl (x :: A) (i + 1) = lvl A i := rfl
theorem sz_nd : ∀ (T : List (Int × Int × Int)) (k : Nat) (m : Int), (sz T)[k]? = some m → nd_s T k m := by
  intro T
  induction T with
  | nil => intro k m h; exact absurd h (by simp [sz])
  | cons x A ih =>
    intro k m h
    cases k with
    | zero =>
      have h : some ((A.takeWhile (fun y => decide (x.2.2 < y.2.2))).length : Int) = some m := h
      have em := Option.some.inj h
      obtain ⟨t1, t2, t3⟩ := tw_sp (fun y : Int × Int × Int => decide (x.2.2 < y.2.2)) A
      generalize (A.takeWhile (fun y => decide (x.2.2 < y.2.2))).length = n at em t1 t2 t3
      subst em
      have l0 : lvl (x :: A) 0 = x.2.2 := rfl
      refine ⟨by omega, by simp only [List.length_cons]; omega, fun i i0 i1 => ?_, fun q => ?_⟩
      · cases i with
        | zero => omega
        | succ i =>
          obtain ⟨y, y1, y2⟩ := t2 i (by omega)
          rw [lvl_s, l0]
          unfold lvl
          rw [y1]
          exact of_decide_eq_true y2
      · obtain ⟨y, y1, y2⟩ := t3 (by simp only [List.length_cons] at q; omega)
        have e : (((0 : Nat) : Int) + (n : Int) + 1).toNat = n + 1 := by omega
        rw [e, lvl_s, l0]
        unfold lvl
        rw [y1]
        have := of_decide_eq_false y2
        show y.2.2 ≤ x.2.2
        omega
    | succ k =>
      have h : (sz A)[k]? = some m := h
      obtain ⟨a1, a2, a3, a4⟩ := ih k m h
      refine ⟨a1, by simp only [List.length_cons]; omega, fun i i0 i1 => ?_, fun q => ?_⟩
      · cases i with
        | zero => omega
        | succ i =>
          rw [lvl_s, lvl_s]
          exact a3 i (by omega) (by omega)
      · have q2 := a4 (by simp only [List.length_cons] at q; omega)
        have e : (((k + 1 : Nat) : Int) + m + 1).toNat = ((k : Int) + m + 1).toNat + 1 := by omega
        rw [e, lvl_s, lvl_s]
        exact q2
section NODC
variable {d : Nat} {h : sm_H} {T : List (Int × Int × Int)}
theorem gc_nd (hT : gc_S h T) {k : Nat} (hk : k < T.length) : nd_s T k (mi_a h 97 k) := sz_nd T k _ (hT.2.2 k hk)
theorem me_parentc {zk : Int} (hS : ab_Sh sx_sk h) (hT : gc_S h T) (hl : T.length ≤ 100) (k0 : 0 ≤ zk) (k1 : zk < (T.length : Int)) : me_E (d + 1) 161 0 [some (.inr (.inr 94)), some (.inl zk), none] [] h (fun w h' => h' = h ∧ ∃ z, w = some (.inl z) ∧ nd_p T zk.toNat z) := by
  have ok : mi_in zk := ⟨by omega, by omega⟩
  have lp : ∀ (N : Nat) (zj : Int), zj < (N : Int) → -1 ≤ zj → zj < zk → (∀ i : Nat, zj < (i : Int) → i < zk.toNat → lvl T zk.toNat ≤ lvl T i) → me_E (d + 1) 161 4 [some (.inr (.inr 94)), some (.inl zk), some (.inl zj)] [] h (fun w h' => h' = h ∧ ∃ z, w = some (.inl z) ∧ nd_p T zk.toNat z) := by
    intro N
    induction N with
    | zero =>
      intro zj j0 j1 j2 hi
      refine mt_kpaB hS ok ⟨by omega, by omega⟩ ?_ ?_ ?_ ?_ ?_
      · intro c h2 s1 s2
        exact ⟨me_nil s2, -1, rfl, by omega, by omega, fun i i0 i1 => hi i (by omega) i1, fun q => by omega⟩
      · intro c; omega
      · intro c; omega
      · intro c; omega
      · intro c; omega
    | succ N ih =>
      intro zj j0 j1 j2 hi
      refine mt_kpaB hS ok ⟨by omega, by omega⟩ ?_ ?_ ?_ ?_ ?_
      · intro c h2 s1 s2
        exact ⟨me_nil s2, -1, rfl, by omega, by omega, fun i i0 i1 => hi i (by omega) i1, fun q => by omega⟩
      · intro c1 c2; omega
      · intro c1 c2; omega
      · intro c1 c2 c3
        obtain ⟨n1, n2, n3, n4⟩ := gc_nd hT (k := zj.toNat) (by omega)
        generalize mi_a h 97 zj.toNat = m at c3 n1 n2 n3 n4 ⊢
        refine ⟨by omega, fun h2 s1 s2 => ?_⟩
        have e := me_nil s2
        subst e
        refine ih (zj + (-1)) (by omega) (by omega) (by omega) (fun i i0 i1 => ?_)
        by_cases q : (i : Int) = zj
        · have q2 : i = zj.toNat := by omega
          subst q2
          have p4 := n4 (by omega)
          by_cases q3 : (zj.toNat : Int) + m + 1 = zk
          · have e3 : ((zj.toNat : Int) + m + 1).toNat = zk.toNat := by omega
            rw [e3] at p4
            exact p4
          · have p5 := hi ((zj.toNat : Int) + m + 1).toNat (by omega) (by omega)
            omega
        · exact hi i (by omega) i1
      · intro c1 c2 c3
        obtain ⟨n1, n2, n3, n4⟩ := gc_nd hT (k := zj.toNat) (by omega)
        generalize mi_a h 97 zj.toNat = m at c3 n1 n2 n3 n4 ⊢
        refine ⟨by omega, fun h2 s1 s2 => ?_⟩
        exact ⟨me_nil s2, zj, rfl, j1, by omega, hi, fun _ => n3 zk.toNat (by omega) (by omega)⟩
  refine mt_kpaA hS ok ⟨by omega, fun h1 g1 g2 => ?_⟩
  have e := me_nil g2
  subst e
  exact lp zk.toNat (zk - 1) (by omega) (by omega) (by omega) (fun i i0 i1 => by omega)
def ndc_Q (h : sm_H) (T : List (Int × Int × Int)) (zk zw : Int) (w : Option mi_V) (h' : sm_H) : Prop := h' = h ∧ 0 ≤ zk ∧ zk < (T.length : Int) ∧ 0 ≤ zw ∧ zw ≤ 3 ∧ ∃ y : Int64, w = some (.inr (.inl y)) ∧ nd_v T zk.toNat zw y.toInt
def ndc_T (h : sm_H) (T : List (Int × Int × Int)) (zk zw : Int) (x : Nat) (h' : sm_H) : Prop := h' = h ++ [sm_exc x] ∧ ((x = 16 ∧ (zk < 0 ∨ (T.length : Int) ≤ zk)) ∨ (x = 13 ∧ 0 ≤ zk ∧ zk < (T.length : Int) ∧ (zw < 0 ∨ 3 < zw)))
theorem me_nodec {zk zw : Int} (hS : ab_Sh sx_sk h) (ok : mi_in zk) (ow : mi_in zw) (hT : gc_S h T) (hl : T.length ≤ 100) : mg_E (ndc_T h T zk zw) (d + 2) 160 0 [some (.inr (.inr 51)), some (.inl zk), some (.inl zw)] [] h (ndc_Q h T zk zw) := by
  have e0 := hT.1.1
  have t16 : (zk < 0 ∨ (T.length : Int) ≤ zk) → ∀ h1, ab_Sh sx_sk h1 → ab_Fr [] h h1 → mg_E (ndc_T h T zk zw) (d + 2) 160 15 [some (.inr (.inr 51)), some (.inl zk), some (.inl zw)] [] h1 (ndc_Q h T zk zw) := fun c h1 g1 g2 => by
    have e := me_nil g2
    subst e
    exact mg_thr (M := (3, 2, sb_160)) (x := 16) rfl rfl rfl ⟨rfl, Or.inl ⟨rfl, c⟩⟩
  have bk : 0 ≤ zk → zk < mi_f h 12032 → ∃ l q, T[zk.toNat]? = some (mi_a h 95 zk.toNat + 10 * q, mi_a h 96 zk.toNat, l) ∧ 0 ≤ mi_a h 95 zk.toNat ∧ mi_a h 95 zk.toNat < 10 := fun a b => hT.1.2 zk.toNat (by omega)
  refine mt_kndA hS ok ow ?_ ?_ ?_ ?_ ?_ ?_ ?_ ?_ ?_ ?_
  · intro c; exact t16 (Or.inl c)
  · intro b c1 c2 c3 c4; omega
  · intro b c1 c2 c3 c4
    obtain ⟨l, q, x1, x2, x3⟩ := bk c1 c2
    refine ⟨by omega, fun h1 g1 g2 => ⟨me_nil g2, c1, by omega, by omega, by omega, _, rfl, Or.inl ⟨by omega, _, x1, ?_⟩⟩⟩
    rw [i2l_v ⟨by omega, by omega⟩]
    show _ = (_ + _) % 10
    omega
  · intro b c1 c2 c3 c4; omega
  · intro b c1 c2 c3 c4
    obtain ⟨l, q, x1, x2, x3⟩ := bk c1 c2
    refine ⟨by omega, fun h1 g1 g2 => ⟨me_nil g2, c1, by omega, by omega, by omega, _, rfl, Or.inr (Or.inl ⟨by omega, _, x1, ?_⟩)⟩⟩
    exact i2l_v (mi_inT _)
  · intro b c1 c2 c3 h1 g1 g2
    have e := me_nil g2
    subst e
    refine ⟨_, me_parentc (d := d) hS hT hl c1 (by omega), fun w h2 oww hq => ?_⟩
    obtain ⟨e, z, rfl, hz⟩ := hq
    subst e
    have hz2 := hz
    obtain ⟨z1, z2, -⟩ := hz2
    refine mt_kndB g1 ok ow ⟨by omega, by omega⟩ (fun h3 r1 r2 => ⟨me_nil r2, c1, by omega, by omega, by omega, _, rfl, Or.inr (Or.inr (Or.inl ⟨by omega, ?_⟩))⟩)
    rw [i2l_v ⟨by omega, by omega⟩]
    exact hz
  · intro b c1 c2 c3 c4; omega
  · intro b c1 c2 c3 c4
    refine ⟨by omega, fun h1 g1 g2 => ⟨me_nil g2, c1, by omega, by omega, by omega, _, rfl, Or.inr (Or.inr (Or.inr ⟨by omega, ?_⟩))⟩⟩
    rw [i2l_v (z := mi_a h 97 zk.toNat) (mi_inT _)]
    exact gc_nd hT (by omega)
  · intro b c1 c2 c3 h1 g1 g2
    have e := me_nil g2
    subst e
    exact mg_thr (M := (3, 2, sb_160)) (x := 13) rfl rfl rfl ⟨rfl, Or.inr ⟨rfl, c1, by omega, c3⟩⟩
  · intro b c1 c2; exact t16 (Or.inr (by omega))
/-- isName -/
theorem lg_ush5 {x : Int64} (h : 0 ≤ x.toInt) : ((x.toUInt64 >>> ((Int32.ofInt ((5 : Int))).toInt64.toUInt64 &&& Int64.toUInt64 63)).toInt64).toInt = x.toInt / 32 := by
  have e : ((Int32.ofInt ((5 : Int))).toInt64.toUInt64 &&& Int64.toUInt64 63) = 5 := by decide
  rw [e]
  have toN : (x.toUInt64.toNat : Int) = x.toInt := by
    have e2 : x.toBitVec.toInt = x.toInt := rfl
    have e3 := BitVec.toInt_eq_toNat_cond x.toBitVec
    have e4 := x.toBitVec.isLt
    show (x.toBitVec.toNat : Int) = x.toInt
    split at e3 <;> omega
  have hn : (x.toUInt64 >>> 5).toNat = x.toUInt64.toNat / 32 := by
    rw [UInt64.toNat_shiftRight]
    have h2 : (5 : UInt64).toNat % 64 = 5 := by decide
    rw [h2, Nat.shiftRight_eq_div_pow]
  have h1 : x.toUInt64.toNat < 2 ^ 64 := x.toUInt64.toNat_lt
  have h2 : ((x.toUInt64 >>> 5).toInt64).toInt = ((x.toUInt64 >>> 5).toNat : Int) := by
    show (x.toUInt64 >>> 5).toBitVec.toInt = _
    exact BitVec.toInt_eq_toNat_of_lt (by show 2 * (x.toUInt64 >>> 5).toNat < 2 ^ 64; omega)
  omega
def in_C (n : Nat) (zw : Int) (h : sm_H) (w : Option mi_V) (h' : sm_H) : Prop := h' = h ∧ ((w = some (.inl 1) ∧ lgd n zw) ∨ (w = some (.inl 0) ∧ ¬ lgd n zw))
theorem me_isNamec {zv : Int64} (hS : ab_Sh sx_sk h) : me_E d 163 0 [some (.inr (.inl zv)), none, none, none, none, none, none] [] h (fun w h' => h' = h ∧ ((w = some (.inl 1) ∧ 0 < zv.toInt ∧ zv.toInt < 1073741824 ∧ lgd 6 zv.toInt) ∨ (w = some (.inl 0) ∧ ¬ (0 < zv.toInt ∧ zv.toInt < 1073741824 ∧ lgd 6 zv.toInt)))) := by
  have c0 : (Int64.ofNat 0).toInt = 0 := by decide
  have c1 : (Int64.ofNat 1).toInt = 1 := by decide
  have c26 : (Int64.ofNat 26).toInt = 26 := by decide
  have c30 : (Int64.ofNat 1073741824).toInt = 1073741824 := by decide
  have lp : ∀ (n : Nat) (zn : Int) (zr : Int64) (q5 : Option mi_V), (∀ v, q5 = some v → mi_ok v) → zn + n = 6 → 0 ≤ zn → 0 ≤ zr.toInt → zr.toInt < 32 ^ n → me_E d 163 21 [some (.inr (.inl zv)), none, some (.inr (.inl zr)), none, some (.inl zn), q5, none] [] h (in_C n zr.toInt h) := by
    intro n
    induction n with
    | zero =>
      intro zn zr q5 o5 hn n0 w0 w1
      have w1 : zr.toInt < 1 := w1
      refine mt_kinB hS ⟨by omega, by omega⟩ o5 ?_ ?_ ?_ ?_ ?_
      · intro c h1 g1 g2
        exact ⟨me_nil g2, Or.inl ⟨rfl, show zr.toInt = 0 by omega⟩⟩
      · intro c; omega
      · intro c; omega
      · intro c; omega
      · intro c; omega
    | succ n ih =>
      intro zn zr q5 o5 hn n0 w0 w1
      have t0 := lgt9 zr (Int64.ofNat 0)
      have e31 := lg_n31 w0
      have t1 := lgt9 (zr &&& (Int64.ofNat 31)) (Int64.ofNat 1)
      have t2 := lgt9 (zr &&& (Int64.ofNat 31)) (Int64.ofNat 26)
      rw [e31] at t1 t2
      rw [c0] at t0
      rw [c1] at t1
      rw [c26] at t2
      refine mt_kinB hS ⟨by omega, by omega⟩ o5 ?_ ?_ ?_ ?_ ?_
      · intro c; omega
      · intro k1 k2 h1 g1 g2
        exact ⟨me_nil g2, Or.inl ⟨rfl, Or.inl (by omega)⟩⟩
      · intro k1 k2 k3 h1 g1 g2
        refine ⟨me_nil g2, Or.inr ⟨rfl, fun q => ?_⟩⟩
        rcases q with q | q
        · omega
        · omega
      · intro k1 k2 k3 k4
        refine ⟨by omega, fun h1 g1 g2 => ?_⟩
        have e := me_nil g2
        subst e
        have sh := lg_ush5 w0
        have p5 : (32 : Int) ^ (n + 1) = 32 ^ n * 32 := Int.pow_succ ..
        refine (ih (zn + 1) _ (some (.inr (.inl (zr &&& (Int64.ofNat 31))))) (fun v hv => by cases hv; trivial) (by omega) (by omega) (by rw [sh]; omega) (by rw [sh]; omega)).imp (fun w h' hq => ?_)
        obtain ⟨r1, r2⟩ := hq
        refine ⟨r1, ?_⟩
        rw [sh] at r2
        rcases r2 with ⟨r2, r3⟩ | ⟨r2, r3⟩
        · exact Or.inl ⟨r2, Or.inr ⟨by omega, by omega, r3⟩⟩
        · refine Or.inr ⟨r2, fun q => r3 ?_⟩
          rcases q with q | q
          · omega
          · exact q.2.2
      · intro k1 k2 k3 k4 h1 g1 g2
        refine ⟨me_nil g2, Or.inr ⟨rfl, fun q => ?_⟩⟩
        rcases q with q | q
        · omega
        · omega
  have ta := lgt9 zv (Int64.ofNat 0)
  have tb := lgt9 zv (Int64.ofNat 1073741824)
  rw [c0] at ta
  rw [c30] at tb
  refine mt_kinA hS ?_ ?_ ?_
  · intro c h1 g1 g2
    exact ⟨me_nil g2, Or.inr ⟨rfl, fun q => by omega⟩⟩
  · intro k1 k2 h1 g1 g2
    have e := me_nil g2
    subst e
    have p6 : (32 : Int) ^ 6 = 1073741824 := by decide
    refine (lp 6 0 zv none (fun v hv => by cases hv) (by omega) (by omega) (by omega) (by omega)).imp (fun w h' hq => ?_)
    obtain ⟨r1, r2⟩ := hq
    refine ⟨r1, ?_⟩
    rcases r2 with ⟨r2, r3⟩ | ⟨r2, r3⟩
    · exact Or.inl ⟨r2, by omega, by omega, r3⟩
    · exact Or.inr ⟨r2, fun q => r3 q.2.2⟩
  · intro k1 k2 h1 g1 g2
    exact ⟨me_nil g2, Or.inr ⟨rfl, fun q => by omega⟩⟩
theorem l2i_v {x : Int64} (o : mi_in x.toInt) : x.toInt32.toInt = x.toInt := by
  rw [Int64.toInt_toInt32]
  have o1 : -2147483648 ≤ x.toInt := o.1
  have o2 : x.toInt ≤ 2147483647 := o.2
  exact Int.bmod_eq_of_le (by omega) (by omega)
def cst_Q (h : sm_H) (T : List (Int × Int × Int)) (zk : Int) (zv : Int64) (w : Option mi_V) (h' : sm_H) : Prop := ab_Sh sx_sk h' ∧ 0 ≤ zk ∧ zk < (T.length : Int) ∧ ∃ x, T[zk.toNat]? = some x ∧ ((st9_f (mi_f h 7698) (mi_a h 75) x zv.toInt ∧ w = some (.inl 1) ∧ ab_Fr [(12288, 12289)] h h' ∧ ∀ i, mi_a h' 96 i = if i = zk.toNat then zv.toInt else mi_a h 96 i) ∨ (¬ st9_f (mi_f h 7698) (mi_a h 75) x zv.toInt ∧ w = some (.inl 0) ∧ h' = h))
def cst_T (h : sm_H) (T : List (Int × Int × Int)) (zk : Int) (x : Nat) (h' : sm_H) : Prop := h' = h ++ [sm_exc x] ∧ x = 16 ∧ (zk < 0 ∨ (T.length : Int) ≤ zk)
theorem me_setc {zk : Int} {zv : Int64} (hS : ab_Sh sx_sk h) (ok : mi_in zk) (hn : mi_f h 7698 ≤ 20) (hT : gc_S h T) (hl : T.length ≤ 100) : mg_E (cst_T h T zk) (d + 2) 162 0 [some (.inr (.inr 51)), some (.inl zk), some (.inr (.inl zv)), none, none, none] [] h (cst_Q h T zk zv) := by
  have e0 := hT.1.1
  have c0 : (Int64.ofNat 0).toInt = 0 := by decide
  have c4 : (Int64.ofNat 10000).toInt = 10000 := by decide
  have t0 := lgt9 zv (Int64.ofNat 0)
  have t4 := lgt9 zv (Int64.ofNat 10000)
  rw [c0] at t0
  rw [c4] at t4
  have t16 : (zk < 0 ∨ (T.length : Int) ≤ zk) → ∀ h1, ab_Sh sx_sk h1 → ab_Fr [] h h1 → mg_E (cst_T h T zk) (d + 2) 162 15 [some (.inr (.inr 51)), some (.inl zk), some (.inr (.inl zv)), none, none, none] [] h1 (cst_Q h T zk zv) := fun c h1 g1 g2 => by
    have e := me_nil g2
    subst e
    exact mg_thr (M := (6, 4, sb_162)) (x := 16) rfl rfl rfl ⟨rfl, rfl, c⟩
  refine mt_kstA hS ok ?_ ?_ ?_ ?_
  · intro c; exact t16 (Or.inl c)
  · intro b c1 c2 c3; omega
  · intro b c1 c2 c3
    refine ⟨by omega, fun h1 g1 g2 => ?_⟩
    have e := me_nil g2
    subst e
    obtain ⟨l, q, x1, x2, x3⟩ := hT.1.2 zk.toNat (by omega)
    have xk : (mi_a h1 95 zk.toNat + 10 * q) % 10 = mi_a h1 95 zk.toNat := by omega
    generalize mi_a h1 95 zk.toNat = zd at x1 x2 x3 xk
    have od : mi_in zd := ⟨by omega, by omega⟩
    have no : ¬ st9_f (mi_f h1 7698) (mi_a h1 75) (zd + 10 * q, mi_a h1 96 zk.toNat, l) zv.toInt → ∀ h2, ab_Sh sx_sk h2 → ab_Fr [] h1 h2 → mg_E (cst_T h1 T zk) (d + 2) 162 88 [some (.inr (.inr 51)), some (.inl zk), some (.inr (.inl zv)), none, some (.inl zd), none] [] h2 (cst_Q h1 T zk zv) := fun nf h2 s1 s2 => by
      have e := me_nil s2
      subst e
      exact mt_kstG s1 ok od (fun h3 r1 r2 => ⟨r1, c1, by omega, _, x1, Or.inr ⟨nf, rfl, me_nil r2⟩⟩)
    have yes : st9_f (mi_f h1 7698) (mi_a h1 75) (zd + 10 * q, mi_a h1 96 zk.toNat, l) zv.toInt → ∀ h2, ab_Sh sx_sk h2 → ab_Fr [] h1 h2 → mg_E (cst_T h1 T zk) (d + 2) 162 84 [some (.inr (.inr 51)), some (.inl zk), some (.inr (.inl zv)), none, some (.inl zd), none] [] h2 (cst_Q h1 T zk zv) := fun yf h2 s1 s2 => by
      have e := me_nil s2
      subst e
      have rng : mi_in zv.toInt := by
        rcases yf with ⟨-, y1, y2⟩ | ⟨-, y1, y2, -⟩ <;> exact ⟨by omega, by omega⟩
      refine mt_kstF s1 ok od ?_ ?_ ?_
      · intro c; omega
      · intro c c'; omega
      · intro c c'
        refine ⟨by omega, fun h3 r1 r2 r3 => ⟨r1, c1, by omega, _, x1, Or.inl ⟨yf, rfl, r3, fun i => ?_⟩⟩⟩
        rw [r2, l2i_v rng]
    have name : zd = 3 → ∀ h2, ab_Sh sx_sk h2 → ab_Fr [] h1 h2 → mg_E (cst_T h1 T zk) (d + 2) 162 64 [some (.inr (.inr 51)), some (.inl zk), some (.inr (.inl zv)), none, some (.inl zd), none] [] h2 (cst_Q h1 T zk zv) := fun k3 h2 s1 s2 => by
      have e := me_nil s2
      subst e
      refine mt_kstC s1 ok od (fun h3 r1 r2 => ?_)
      have e := me_nil r2
      subst e
      refine ⟨_, me_isNamec (d := d + 1) r1, fun w h4 oww hq => ?_⟩
      obtain ⟨e, hq⟩ := hq
      subst e
      rcases hq with ⟨rfl, v0, v1, v2⟩ | ⟨rfl, hv⟩
      · refine mt_kstD r1 ok od ⟨by omega, by omega⟩ ?_ ?_
        · intro c; omega
        · intro c h5 u1 u2
          have e := me_nil u2
          subst e
          have rng : mi_in zv.toInt := ⟨by omega, by omega⟩
          rw [l2i_v rng]
          refine ⟨_, me_gliteral (d := d) u1 rng hn, fun w h6 oww2 hq2 => ?_⟩
          obtain ⟨e, z, rfl, hz⟩ := hq2
          subst e
          rcases hz with ⟨z0, z1, z2, -⟩ | ⟨rfl, hz⟩
          · refine mt_kstE u1 ok od ⟨by omega, by omega⟩ ?_ ?_
            · intro c
              refine no ?_
              rintro (⟨p, -⟩ | ⟨-, -, -, -, p⟩)
              · have p : (zd + 10 * q) % 10 = 2 := p
                omega
              · exact p z.toNat (by omega) z2
            · intro c; omega
          · refine mt_kstE u1 ok od ⟨by decide, by decide⟩ ?_ ?_
            · intro c; exact absurd rfl c
            · intro c
              refine yes (Or.inr ⟨?_, v0, v1, v2, hz⟩)
              show (zd + 10 * q) % 10 = 3
              omega
      · refine mt_kstD r1 ok od ⟨by omega, by omega⟩ ?_ ?_
        · intro c
          refine no ?_
          rintro (⟨p, -⟩ | ⟨-, p1, p2, p3, -⟩)
          · have p : (zd + 10 * q) % 10 = 2 := p
            omega
          · exact hv ⟨p1, p2, p3⟩
        · intro c; omega
    refine mt_kstB g1 ok od ?_ ?_ ?_ ?_ ?_ ?_ ?_
    · intro k1 k2
      refine no ?_
      rintro (⟨p, -⟩ | ⟨p, -⟩)
      · have p : (zd + 10 * q) % 10 = 2 := p
        omega
      · have p : (zd + 10 * q) % 10 = 3 := p
        omega
    · intro k1 k2; exact name k2
    · intro k1 k2 k3
      refine no ?_
      rintro (⟨-, p, -⟩ | ⟨p, -⟩)
      · omega
      · have p : (zd + 10 * q) % 10 = 3 := p
        omega
    · intro k1 k2 k3; omega
    · intro k1 k2 k3
      refine yes (Or.inl ⟨?_, by omega, by omega⟩)
      show (zd + 10 * q) % 10 = 2
      omega
    · intro k1 k2 k3 k4
      refine no ?_
      rintro (⟨-, -, p⟩ | ⟨p, -⟩)
      · omega
      · have p : (zd + 10 * q) % 10 = 3 := p
        omega
    · intro k1 k2 k3 k4; omega
  · intro b c1 c2; exact t16 (Or.inr (by omega))
/-- keep -/
def ck_W : List (Nat × Nat) := [(12544, 12545), (12672, 12673), (12800, 12801), (12928, 12929)]
theorem me_ktake (hS : ab_Sh sx_sk h) (n0 : 0 ≤ mi_f h 12032) (n1 : mi_f h 12032 ≤ 100) : me_E (d + 2) 93 0 [some (.inr (.inr 98)), some (.inr (.inr 94)), none] [] h (fun w h' => w = none ∧ ab_Sh sx_sk h' ∧ ab_Fr ck_W h h' ∧ mi_f h' 12544 = mi_f h 12032 ∧ ∀ i : Nat, (i : Int) < mi_f h 12032 → mi_a h' 99 i = mi_a h 95 i ∧ mi_a h' 100 i = mi_a h 96 i) := by
  have lp : ∀ (N : Nat) (zk : Int) (h1 : sm_H), mi_f h 12032 - zk < (N : Int) → 0 ≤ zk → zk ≤ mi_f h 12032 → ab_Sh sx_sk h1 → ab_Fr ck_W h h1 → mi_f h1 12544 = mi_f h 12032 → (∀ i : Nat, (i : Int) < zk → mi_a h1 99 i = mi_a h 95 i ∧ mi_a h1 100 i = mi_a h 96 i) → me_E (d + 2) 93 10 [some (.inr (.inr 98)), some (.inr (.inr 94)), some (.inl zk)] [] h1 (fun w h' => w = none ∧ ab_Sh sx_sk h' ∧ ab_Fr ck_W h h' ∧ mi_f h' 12544 = mi_f h 12032 ∧ ∀ i : Nat, (i : Int) < mi_f h 12032 → mi_a h' 99 i = mi_a h 95 i ∧ mi_a h' 100 i = mi_a h 96 i) := by
    intro N
    induction N with
    | zero => intro zk h1 n k0 k1; omega
    | succ N ih =>
      intro zk h1 n k0 k1 g1 g2 g3 hi
      have a5 : ∀ i, mi_a h1 95 i = mi_a h 95 i := fun i => me_a (k := 95) g2 hS rfl rfl
      have a6 : ∀ i, mi_a h1 96 i = mi_a h 96 i := fun i => me_a (k := 96) g2 hS rfl rfl
      refine mt_kttB g1 ⟨by omega, by omega⟩ ?_ ?_ ?_ ?_
      · intro b c h2 s1 s2
        have e := me_nil s2
        subst e
        exact ⟨rfl, g1, g2, g3, fun i i1 => hi i (by omega)⟩
      · intro b c1 c2; omega
      · intro b c1 c2 c3; omega
      · intro b c1 c2 c3
        refine ⟨by omega, fun h2 s1 s2 s3 s4 s5 => ih (zk + 1) h2 (by omega) (by omega) (by omega) s1 (g2.trans (s5.wide (fun c hc => ab_swr_ok (by decide) hc))) ?_ (fun i i1 => ?_)⟩
        · rw [me_f (c := 12544) s5 g1 rfl rfl, g3]
        · rw [s2, s3]
          by_cases q : i = zk.toNat
          · rw [if_pos q, if_pos q, a5, a6, q]
            exact ⟨rfl, rfl⟩
          · rw [if_neg q, if_neg q]
            exact hi i (by omega)
  refine mt_kttA hS (fun h1 g1 g2 g3 => ?_)
  exact lp ((mi_f h 12032).toNat + 1) 0 h1 (by omega) (by omega) n0 g1 (g3.wide (fun c hc => ab_swr_ok (by decide) hc)) g2 (fun i i1 => by omega)
def ck_Qk (h : sm_H) (w : Option mi_V) (h' : sm_H) : Prop := ab_Sh sx_sk h' ∧ ((mi_f h 12032 = 0 ∧ w = some (.inl 0) ∧ h' = h) ∨ (mi_f h 12032 ≠ 0 ∧ w = some (.inl 1) ∧ ab_Fr ck_W h h' ∧ mi_f h' 12544 = mi_f h 12032 ∧ ∀ i : Nat, (i : Int) < mi_f h 12032 → mi_a h' 99 i = mi_a h 95 i ∧ mi_a h' 100 i = mi_a h 96 i))
theorem me_keepc (hS : ab_Sh sx_sk h) (n0 : 0 ≤ mi_f h 12032) (n1 : mi_f h 12032 ≤ 100) : me_E (d + 3) 92 0 [some (.inr (.inr 51))] [] h (ck_Qk h) := by
  refine mt_kkeA hS ?_ ?_
  · intro b c h1 g1 g2
    have e := me_nil g2
    subst e
    refine ⟨_, me_ktake (d := d) hS n0 n1, fun w h2 oww hq => ?_⟩
    obtain ⟨rfl, q1, q2, q3, q4⟩ := hq
    refine mt_kkeB q1 (fun h3 r1 r2 => ?_)
    have e := me_nil r2
    subst e
    exact ⟨q1, Or.inr ⟨c, rfl, q2, q3, q4⟩⟩
  · intro b c h1 g1 g2
    exact ⟨g1, Or.inl ⟨c, rfl, me_nil g2⟩⟩

end NODC
/-! heaps alike; all at once -/
/-- heaps alike but for what is listed -/
def rq (wr : List (Nat × Nat)) (h h' : sm_H) : Prop := (∀ k, (mx_isA sx_sk k || mx_isB sx_sk k) = true → ab_in wr (k * 128) = false → h'[k]? = h[k]?) ∧ ∀ c, mx_isF sx_sk c = true → ab_in wr c = false → ab_fld h' c = ab_fld h c
section RQ9
variable {wr wr' : List (Nat × Nat)} {h h' h'' : sm_H}
theorem rq_fr (hS : ab_Sh sx_sk h) (hF : ab_Fr wr h h') : rq wr h h' := ⟨fun _ a b => me_arr hF hS a b, fun _ a b => me_fld hS hF a b⟩
theorem rq.trans (a : rq wr h h') (b : rq wr h' h'') : rq wr h h'' := ⟨fun k x y => (b.1 k x y).trans (a.1 k x y), fun c x y => (b.2 c x y).trans (a.2 c x y)⟩
theorem rq.wide (a : rq wr h h') (hw : ab_sub_wr wr wr' = true) : rq wr' h h' := by
  have n : ∀ c, ab_in wr' c = false → ab_in wr c = false := fun c hc => by
    cases e : ab_in wr c with
    | false => rfl
    | true => rw [ab_swr_ok hw e] at hc; cases hc
  exact ⟨fun k x y => a.1 k x (n _ y), fun c x y => a.2 c x (n _ y)⟩
theorem rq_app {e : sm_E} (hl : 172 ≤ h.length) : rq [] h (h ++ [e]) := by
  have xl := xs_len
  refine ⟨fun k a _ => List.getElem?_append_left ?_, fun c a _ => ?_⟩
  · by_cases q : k < sx_sk.length
    · omega
    · exfalso
      have : sx_sk[k]? = none := List.getElem?_eq_none (by omega)
      unfold mx_isA mx_isB at a
      rw [this] at a
      cases a
  · by_cases q : c / 128 < sx_sk.length
    · unfold ab_fld
      rw [List.getElem?_append_left (by omega)]
    · exfalso
      have : sx_sk[c / 128]? = none := List.getElem?_eq_none (by omega)
      unfold mx_isF at a
      rw [this] at a
      cases a
theorem rq.f (a : rq wr h h') {c : Nat} (hc : mx_isF sx_sk c = true) (hn : ab_in wr c = false) : mi_f h' c = mi_f h c := by
  unfold mi_f mx_i
  rw [a.2 c hc hn]
theorem rq.a (a : rq wr h h') {k : Nat} (hk : (mx_isA sx_sk k || mx_isB sx_sk k) = true) (hn : ab_in wr (k * 128) = false) (i : Nat) : mi_a h' k i = mi_a h k i := by
  unfold mi_a mx_a
  rw [a.1 k hk hn]
theorem rq.b (a : rq wr h h') {k : Nat} (hk : (mx_isA sx_sk k || mx_isB sx_sk k) = true) (hn : ab_in wr (k * 128) = false) (i : Nat) : mx_b h' k i = mx_b h k i := by
  unfold mx_b
  rw [a.1 k hk hn]
end RQ9
def xq_W : List (Nat × Nat) := [(21888, 21889)]
theorem mg_E.all {ι : Type} {d m pc : Nat} {ls : mi_L} {st : List mi_V} {h : sm_H} {QT : ι → Nat → sm_H → Prop} {Q : ι → Option mi_V → sm_H → Prop} (i0 : ι) (k : ∀ i, mg_E (QT i) d m pc ls st h (Q i)) : mg_E (fun x h' => ∀ i, QT i x h') d m pc ls st h (fun w h' => ∀ i, Q i w h') := by
  rcases k i0 with ⟨n, v, h1, r, w, e1, e2, -⟩ | ⟨n, x, h1, r, -⟩
  · refine Or.inl ⟨n, v, h1, r, w, e1, e2, fun i => ?_⟩
    rcases k i with ⟨n', v', h1', r', w', e1', e2', e3'⟩ | ⟨n', x', h1', r', -⟩
    · have := sm_run_same r r'
      injection this with ev eh
      subst eh
      have : w = w' := by
        rw [e1, e1'] at ev
        cases w with
        | none => cases w' with
          | none => rfl
          | some y => cases ev
        | some x => cases w' with
          | none => cases ev
          | some y =>
            have ev2 : some (mi_c x) = some (mi_c y) := ev
            injection ev2 with ev3
            rw [mi_c_inj (e2 x rfl) (e2' y rfl) ev3]
      rw [this]
      exact e3'
    · rw [sm_runT_run _ _ _ _ _ _ _ _ r' n] at r
      cases r
  · refine Or.inr ⟨n, x, h1, r, fun i => ?_⟩
    rcases k i with ⟨n', v', h1', r', -⟩ | ⟨n', x', h1', r', e⟩
    · rw [sm_runT_run _ _ _ _ _ _ _ _ r n'] at r'
      cases r'
    · have a := sm_runT_more _ _ _ _ _ _ _ _ r (max n n') d (Nat.le_max_left _ _) (Nat.le_refl _)
      have b := sm_runT_more _ _ _ _ _ _ _ _ r' (max n n') d (Nat.le_max_right _ _) (Nat.le_refl _)
      rw [a] at b
      injection b with b
      injection b with b1 b2
      subst b1
      subst b2
      exact e
/-! the law's wrappers, in one form -/
/-- half way through a pair of calls -/
def hf9 (L : Nat) (xs : Nat → Int32) (h h1 : sm_H) : Prop := ab_Sh sx_sk h1 ∧ lj_J MJ L xs h1 ∧ h1.length ≤ h.length + 1 ∧ sm_sl h1 ≤ sm_sl h + 6
def WO9 (X : Int → Int64 → sm_H → Prop) (L : Nat) (xs : Nat → Int32) (h : sm_H) (v : Option Value) (h1 : sm_H) : Prop := ∃ (k : Int) (y : Int64), v = some (.int (Int32.ofInt k)) ∧ (k = 0 ∨ k = 1 ∨ k = 2 ∨ k = 3) ∧ hf9 L xs h h1 ∧ (k = 0 → ∃ f, h1[171]? = some (.inl (1, 1, .inr (.inl f))) ∧ f 0 = y) ∧ X k y h1
theorem c9_out {h : sm_H} (hS : ab_Sh sx_sk h) : ∃ f, h[171]? = some (.inl (1, 1, .inr (.inl f))) := by
  obtain ⟨f, e, -⟩ := mx_arrL (a := 171) (n := 1) (lo := -9223372036854775808) (hi := 9223372036854775807) (ex := []) hS rfl
  exact ⟨f, e⟩
theorem c9_Fr {h : sm_H} {f : Nat → Int64} {y : Int64} (e : h[171]? = some (.inl (1, 1, .inr (.inl f)))) : ab_Fr [(21888, 21889)] h (mx_pb h 171 0 y) ∧ (mx_pb h 171 0 y)[171]? = some (.inl (1, 1, .inr (.inl (vp_updL f 0 y)))) := by
  have e2 : mx_pb h 171 0 y = h.set 171 (.inl (1, 1, .inr (.inl (vp_updL f 0 y)))) := by
    unfold mx_pb
    rw [e]
  rw [e2]
  exact ⟨ab_Fr_arr e rfl (by decide), List.getElem?_set_self (List.getElem?_eq_some_iff.mp e).1⟩
section W9P
variable {P : Nat → Option sm_M} {PW : Nat → Option sm_MW} {sk : ab_K} {h : sm_H}
theorem w9_path {Q : Option Value → sm_H → Prop} {d m nl k : Nat} {tab : List (Option sm_I)} {al : List (Nat × Nat × Nat × Nat × Nat)} (hM : PW m = some ((nl, k, tab), al)) (hP : mx_Sp sk h) : ∀ (n : Nat) (bs : List Nat) (pc : Nat) (ls : sm_L) (st : List Value) (O : List mx_U) (R : mo_R), mo_path tab sk h n bs pc ls st O = some R → mx_oO sk O → ab_Sh sk (mx_ap O h) → (∀ p ∈ R.2.2.2.2, p) → (ab_Sh sk (mx_ap R.2.2.2.1 h) → mx_oO sk R.2.2.2.1 → wb_Ends P PW d m R.1 R.2.1 R.2.2.1 (mx_ap R.2.2.2.1 h) Q) → wb_Ends P PW d m pc ls st (mx_ap O h) Q := by
  intro n
  induction n with
  | zero =>
    intro bs pc ls st O R hp hO hS ho hk
    simp only [mo_path] at hp
    cases hp
    exact hk hS hO
  | succ n ih =>
    intro bs pc ls st O R hp hO hS ho hk
    simp only [mo_path] at hp
    split at hp
    · next q hq =>
      split at hp
      · next pc' ls' st' O' ob hs =>
        split at hp
        · next pc2 ls2 st2 O2 ob2 hp2 =>
          cases hp
          have ho1 : ∀ p ∈ ob, p := fun p hm => ho p (List.mem_append_left _ hm)
          have ho2 : ∀ p ∈ ob2, p := fun p hm => ho p (List.mem_append_right _ hm)
          obtain ⟨e1, e2, e3⟩ := mo_step_ok hs hP hO hS ho1
          exact wb_Ends.step (M := ((nl, k, tab), al)) hM hq e1 (ih _ _ _ _ _ _ hp2 e3 e2 ho2 hk)
        · cases hp
      · cases hp
    · cases hp
end W9P
section W9W
variable {L : Nat} {xs : Nat → Int32} {h h1 : sm_H} {wr : List (Nat × Nat)} {Q : Option Value → sm_H → Prop} {QT : Nat → sm_H → Prop} {X : Int → Int64 → sm_H → Prop}
/-- a call on the class's own object -/
theorem c3_own9 {pc idx n m : Nat} {ls : sm_L} {vs r : List Value} {st : List Value} (hSh : ab_Sh sx_sk h) (ha : sm_args (n + 1) st = some (.ref 51 :: vs, r)) : sm_step (.invokevirtual idx, 3, [0, n, 0, m]) pc ls st h = some (.inr (.inr (m, .ref 51 :: vs, r))) := by
  have hk : ∃ fl, sx_sk[51]? = some (some (.inr (0, fl))) := ⟨_, rfl⟩
  obtain ⟨fl, hk⟩ := hk
  obtain ⟨fs, ho, -, -⟩ := mx_obj hSh hk
  simp only [sm_step, sm_callV]
  rw [ha]
  dsimp only
  rw [ho]
  rfl
theorem w9_end {m nl d : Nat} {tab : List (Option sm_I)} {al : List (Nat × Nat × Nat × Nat × Nat)} {pc pc' n : Nat} {ls : sm_L} {st : List Value} {y : Int64} (hM : sc_PW m = some ((nl, 1, tab), al)) (hseg : mo_path tab sx_sk h n [] pc ls st [] = some (pc', ls, [.int (Int32.ofInt 0)], [.inr (.inr (171, Int32.toNatClampNeg (Int32.ofInt 0), y))], [0 ≤ (Int32.ofInt 0).toInt ∧ (Int32.ofInt 0).toInt < ((1 : Nat) : Int), (-9223372036854775808) ≤ y.toInt ∧ y.toInt ≤ 9223372036854775807])) (hr : tab[pc']? = some (some (.ireturn, 1, []))) (hS1 : ab_Sh sx_sk h) (hQ : ab_Sh sx_sk (mx_pb h 171 0 y) → Q (some (.int (Int32.ofInt 0))) (mx_pb h 171 0 y)) : wb_Ends sc_P sc_PW d m pc ls st h Q := by
  refine w9_path (h := h) hM (mx_Sh_Sp hS1) n [] pc _ _ [] _ hseg (fun u hu => absurd hu List.not_mem_nil) hS1 ?_ (fun hS2 _ => ?_)
  · intro q hq
    simp only [List.mem_cons, List.not_mem_nil, or_false] at hq
    rcases hq with rfl | rfl
    · exact ⟨by decide, by decide⟩
    · exact ⟨y.le_toInt, Int.le_of_lt_add_one y.toInt_lt⟩
  · exact wb_Ends.ret (q := (.ireturn, 1, [])) (v := some (.int (Int32.ofInt 0))) hM hr rfl rfl (hQ hS2)
theorem w9_ok {y : Int64} (hJ : lj_J MJ L xs h) (hw : ab_sub_wr wr mj_wr = true) (s1 : ab_Sh sx_sk h1) (F : ab_Fr wr h h1) (hS2 : ab_Sh sx_sk (mx_pb h1 171 0 y)) (hX : ∀ h2, rq xq_W h1 h2 → X 0 y h2) : WO9 X L xs h (some (.int (Int32.ofInt 0))) (mx_pb h1 171 0 y) := by
  obtain ⟨f, hf⟩ := c9_out s1
  obtain ⟨f1, f2⟩ := c9_Fr (y := y) hf
  have j1 := lj_fr (MJ := MJ) mj_MJ hJ hw F
  have j2 := lj_fr (MJ := MJ) (wr := [(21888, 21889)]) mj_MJ j1 (by decide) f1
  refine ⟨0, y, rfl, Or.inl rfl, ⟨hS2, j2, by rw [f1.1, F.1]; omega, by rw [f1.2.1, F.2.1]; omega⟩, fun _ => ⟨_, f2, by unfold vp_updL; exact if_pos rfl⟩, hX _ (rq_fr s1 f1)⟩
theorem w9_thr {g : sm_H} {x : Nat} {k : Int} (hJ : lj_J MJ L xs h) (hw : ab_sub_wr wr mj_wr = true) (e : h1 = g ++ [sm_exc x]) (s1 : ab_Sh sx_sk g) (F : ab_Fr wr h g) (hk : k = 1 ∨ k = 2 ∨ k = 3) (hX : X k 0 h1) : WO9 X L xs h (some (.int (Int32.ofInt k))) h1 := by
  subst e
  have j1 := lj_fr (MJ := MJ) mj_MJ hJ hw F
  have hl := xs_len
  have gl := j1.2.1
  refine ⟨k, 0, rfl, Or.inr hk, ⟨lj_app (by omega) s1, ⟨mj_MJ.2 g _ gl j1.1, by rw [List.length_append]; omega, ?_⟩, by rw [List.length_append, F.1]; exact Nat.le_refl _, by rw [sm_sl_app, F.2.1]; exact Nat.le_refl _⟩, fun q => by omega, hX⟩
  rw [List.getElem?_append_left (by omega)]
  exact j1.2.2
set_option maxRecDepth 20000 in
theorem w9_seg0 (h : sm_H) (y : Int64) (v0 v1 : Value) (e : Option Value) : mo_path sw_0 sx_sk h 3 [] 16 [some (.ref 51), some v0, some v1, some (.ref 171), e] [.long y, .int (Int32.ofInt 0), .ref 171] [] = some (25, [some (.ref 51), some v0, some v1, some (.ref 171), e], [.int (Int32.ofInt 0)], [.inr (.inr (171, Int32.toNatClampNeg (Int32.ofInt 0), y))], [0 ≤ (Int32.ofInt 0).toInt ∧ (Int32.ofInt 0).toInt < ((1 : Nat) : Int), (-9223372036854775808) ≤ y.toInt ∧ y.toInt ≤ 9223372036854775807]) := rfl
set_option maxRecDepth 20000 in
theorem w9_type {p : Int32} {z : Int32} {d : Nat} (hSh : ab_Sh sx_sk h) (hJ : lj_J MJ L xs h) (hw : ab_sub_wr wr mj_wr = true) (k : ab_EndsX sc_P QT d 95 0 (sm_entry 3 [.ref 51, .int p, .int z]) [] h Q) (hQ : ∀ v h1, Q v h1 → ∃ z : Int32, v = some (.int z) ∧ ab_Sh sx_sk h1 ∧ ab_Fr wr h h1 ∧ ∀ h2, rq xq_W h1 h2 → X 0 (if z = Int32.ofInt 0 then Int64.ofNat 0 else Int64.ofNat 1) h2) (hT : ∀ x h1, QT x h1 → ∃ g, h1 = g ++ [sm_exc x] ∧ ab_Sh sx_sk g ∧ ab_Fr wr h g ∧ ((x = 12 ∧ X 1 0 h1))) : wb_Ends sc_P sc_PW (d + 1) 2000 0 (sm_entry 5 [.ref 51, .int p, .int z, .ref 171]) [] h (WO9 X L xs h) := by
  have hM : sc_PW 2000 = some ((5, 1, sw_0), sw_h0) := rfl
  refine wb_Ends.step hM (q := (.aload_n 3, 1, [])) rfl rfl ?_
  refine wb_Ends.step hM (q := (.iconst 0, 1, [])) rfl rfl ?_
  refine wb_Ends.step hM (q := (.aload_n 0, 1, [])) rfl rfl ?_
  refine wb_Ends.step hM (q := (.iload_n 1, 1, [])) rfl rfl ?_
  refine wb_Ends.step hM (q := (.iload_n 2, 1, [])) rfl rfl ?_
  refine wb_Ends.call (q := (.invokevirtual 7, 3, [0, 2, 0, 95])) (M' := (3, 4, sb_95)) (m' := 95) (as := [.ref 51, .int p, .int z]) (r := [.int (Int32.ofInt 0), .ref 171]) hM rfl (c3_own9 hSh rfl) rfl (by decide : (sm_slots [Value.ref 51, .int 0, .int 0]).length ≤ 3) (by simp [Value.category]) k (fun v h1 hq => ?_) (fun x h1 ht => ?_)
  · obtain ⟨zr, rfl, s1, F, hX⟩ := hQ v h1 hq
    by_cases hy : zr = Int32.ofInt 0
    · refine wb_Ends.step hM (q := (.ifCond .eq 7, 3, [])) (pc' := 15) (ls' := [some (.ref 51), some (.int p), some (.int z), some (.ref 171), none]) (st' := [.int (Int32.ofInt 0), .ref 171]) (h' := h1) rfl ?_ ?_
      · subst hy
        rfl
      · refine wb_Ends.step hM (q := (.lconst 0, 1, [])) rfl rfl ?_
        refine w9_end hM (w9_seg0 h1 _ _ _ _) rfl s1 (fun hS2 => w9_ok hJ hw s1 F hS2 (fun h2 r => ?_))
        have := hX h2 r
        rw [if_pos hy] at this
        exact this
    · refine wb_Ends.step hM (q := (.ifCond .eq 7, 3, [])) (pc' := 11) (ls' := [some (.ref 51), some (.int p), some (.int z), some (.ref 171), none]) (st' := [.int (Int32.ofInt 0), .ref 171]) (h' := h1) rfl ?_ ?_
      · show sm_if (sm_cmp .eq zr 0) 8 7 _ _ h1 = _
        have : sm_cmp .eq zr 0 = false := decide_eq_false hy
        rw [this]
        rfl
      · refine wb_Ends.step hM (q := (.lconst 1, 1, [])) rfl rfl ?_
        refine wb_Ends.step hM (q := (.goto 4, 3, [])) rfl rfl ?_
        refine w9_end hM (w9_seg0 h1 _ _ _ _) rfl s1 (fun hS2 => w9_ok hJ hw s1 F hS2 (fun h2 r => ?_))
        have := hX h2 r
        rw [if_neg hy] at this
        exact this
  · obtain ⟨g, e, s1, F, hx⟩ := hT x h1 ht
    obtain ⟨rfl, hx⟩ := hx
    refine ⟨20, rfl, ?_⟩
    refine wb_Ends.step hM (q := (.astore 4, 2, [])) rfl rfl ?_
    refine wb_Ends.step hM (q := (.iconst 1, 1, [])) rfl rfl ?_
    exact wb_Ends.ret (q := (.ireturn, 1, [])) (v := some (.int (Int32.ofInt 1))) hM rfl rfl rfl (w9_thr hJ hw e s1 F (by decide) hx)
set_option maxRecDepth 20000 in
theorem w9_seg1 (h : sm_H) (r : Int32) (v0 : Value) (e : Option Value) : mo_path sw_1 sx_sk h 4 [] 7 [some (.ref 51), some v0, some (.ref 171), e] [.int r, .int (Int32.ofInt 0), .ref 171] [] = some (16, [some (.ref 51), some v0, some (.ref 171), e], [.int (Int32.ofInt 0)], [.inr (.inr (171, Int32.toNatClampNeg (Int32.ofInt 0), r.toInt64))], [0 ≤ (Int32.ofInt 0).toInt ∧ (Int32.ofInt 0).toInt < ((1 : Nat) : Int), (-9223372036854775808) ≤ r.toInt64.toInt ∧ r.toInt64.toInt ≤ 9223372036854775807]) := rfl
set_option maxRecDepth 20000 in
theorem w9_clear {p : Int32} {d : Nat} (hSh : ab_Sh sx_sk h) (hJ : lj_J MJ L xs h) (hw : ab_sub_wr wr mj_wr = true) (k : ab_EndsX sc_P QT d 97 0 (sm_entry 3 [.ref 51, .int p]) [] h Q) (hQ : ∀ v h1, Q v h1 → ∃ z : Int32, v = some (.int z) ∧ ab_Sh sx_sk h1 ∧ ab_Fr wr h h1 ∧ ∀ h2, rq xq_W h1 h2 → X 0 z.toInt64 h2) (hT : ∀ x h1, QT x h1 → ∃ g, h1 = g ++ [sm_exc x] ∧ ab_Sh sx_sk g ∧ ab_Fr wr h g ∧ ((x = 12 ∧ X 1 0 h1))) : wb_Ends sc_P sc_PW (d + 1) 2001 0 (sm_entry 4 [.ref 51, .int p, .ref 171]) [] h (WO9 X L xs h) := by
  have hM : sc_PW 2001 = some ((4, 1, sw_1), sw_h1) := rfl
  refine wb_Ends.step hM (q := (.aload_n 2, 1, [])) rfl rfl ?_
  refine wb_Ends.step hM (q := (.iconst 0, 1, [])) rfl rfl ?_
  refine wb_Ends.step hM (q := (.aload_n 0, 1, [])) rfl rfl ?_
  refine wb_Ends.step hM (q := (.iload_n 1, 1, [])) rfl rfl ?_
  refine wb_Ends.call (q := (.invokevirtual 15, 3, [0, 1, 0, 97])) (M' := (3, 1, sb_97)) (m' := 97) (as := [.ref 51, .int p]) (r := [.int (Int32.ofInt 0), .ref 171]) hM rfl (c3_own9 hSh rfl) rfl (by decide : (sm_slots [Value.ref 51, .int 0]).length ≤ 3) (by simp [Value.category]) k (fun v h1 hq => ?_) (fun x h1 ht => ?_)
  · obtain ⟨zr, rfl, s1, F, hX⟩ := hQ v h1 hq
    exact w9_end hM (w9_seg1 h1 _ _ _) rfl s1 (fun hS2 => w9_ok hJ hw s1 F hS2 hX)
  · obtain ⟨g, e, s1, F, hx⟩ := hT x h1 ht
    obtain ⟨rfl, hx⟩ := hx
    refine ⟨12, rfl, ?_⟩
    refine wb_Ends.step hM (q := (.astore_n 3, 1, [])) rfl rfl ?_
    refine wb_Ends.step hM (q := (.iconst 1, 1, [])) rfl rfl ?_
    exact wb_Ends.ret (q := (.ireturn, 1, [])) (v := some (.int (Int32.ofInt 1))) hM rfl rfl rfl (w9_thr hJ hw e s1 F (by decide) hx)
set_option maxRecDepth 20000 in
theorem w9_seg2 (h : sm_H) (r : Int32) (v0 : Value) (e : Option Value) : mo_path sw_2 sx_sk h 4 [] 7 [some (.ref 51), some v0, some (.ref 171), e] [.int r, .int (Int32.ofInt 0), .ref 171] [] = some (16, [some (.ref 51), some v0, some (.ref 171), e], [.int (Int32.ofInt 0)], [.inr (.inr (171, Int32.toNatClampNeg (Int32.ofInt 0), r.toInt64))], [0 ≤ (Int32.ofInt 0).toInt ∧ (Int32.ofInt 0).toInt < ((1 : Nat) : Int), (-9223372036854775808) ≤ r.toInt64.toInt ∧ r.toInt64.toInt ≤ 9223372036854775807]) := rfl
set_option maxRecDepth 20000 in
theorem w9_sample {p : Int32} {d : Nat} (hSh : ab_Sh sx_sk h) (hJ : lj_J MJ L xs h) (hw : ab_sub_wr wr mj_wr = true) (k : ab_EndsX sc_P QT d 98 0 (sm_entry 2 [.ref 51, .int p]) [] h Q) (hQ : ∀ v h1, Q v h1 → ∃ z : Int32, v = some (.int z) ∧ ab_Sh sx_sk h1 ∧ ab_Fr wr h h1 ∧ ∀ h2, rq xq_W h1 h2 → X 0 z.toInt64 h2) (hT : ∀ x h1, QT x h1 → ∃ g, h1 = g ++ [sm_exc x] ∧ ab_Sh sx_sk g ∧ ab_Fr wr h g ∧ ((x = 13 ∧ X 1 0 h1))) : wb_Ends sc_P sc_PW (d + 1) 2002 0 (sm_entry 4 [.ref 51, .int p, .ref 171]) [] h (WO9 X L xs h) := by
  have hM : sc_PW 2002 = some ((4, 1, sw_2), sw_h2) := rfl
  refine wb_Ends.step hM (q := (.aload_n 2, 1, [])) rfl rfl ?_
  refine wb_Ends.step hM (q := (.iconst 0, 1, [])) rfl rfl ?_
  refine wb_Ends.step hM (q := (.aload_n 0, 1, [])) rfl rfl ?_
  refine wb_Ends.step hM (q := (.iload_n 1, 1, [])) rfl rfl ?_
  refine wb_Ends.call (q := (.invokevirtual 19, 3, [0, 1, 0, 98])) (M' := (2, 1, sb_98)) (m' := 98) (as := [.ref 51, .int p]) (r := [.int (Int32.ofInt 0), .ref 171]) hM rfl (c3_own9 hSh rfl) rfl (by decide : (sm_slots [Value.ref 51, .int 0]).length ≤ 2) (by simp [Value.category]) k (fun v h1 hq => ?_) (fun x h1 ht => ?_)
  · obtain ⟨zr, rfl, s1, F, hX⟩ := hQ v h1 hq
    exact w9_end hM (w9_seg2 h1 _ _ _) rfl s1 (fun hS2 => w9_ok hJ hw s1 F hS2 hX)
  · obtain ⟨g, e, s1, F, hx⟩ := hT x h1 ht
    obtain ⟨rfl, hx⟩ := hx
    refine ⟨12, rfl, ?_⟩
    refine wb_Ends.step hM (q := (.astore_n 3, 1, [])) rfl rfl ?_
    refine wb_Ends.step hM (q := (.iconst 1, 1, [])) rfl rfl ?_
    exact wb_Ends.ret (q := (.ireturn, 1, [])) (v := some (.int (Int32.ofInt 1))) hM rfl rfl rfl (w9_thr hJ hw e s1 F (by decide) hx)
set_option maxRecDepth 20000 in
theorem w9_seg4 (h : sm_H) (r : Int32) (e : Option Value) : mo_path sw_4 sx_sk h 4 [] 6 [some (.ref 51), some (.ref 171), e] [.int r, .int (Int32.ofInt 0), .ref 171] [] = some (18, [some (.ref 51), some (.ref 171), e], [.int (Int32.ofInt 0)], [.inr (.inr (171, Int32.toNatClampNeg (Int32.ofInt 0), r.toInt64))], [0 ≤ (Int32.ofInt 0).toInt ∧ (Int32.ofInt 0).toInt < ((1 : Nat) : Int), (-9223372036854775808) ≤ r.toInt64.toInt ∧ r.toInt64.toInt ≤ 9223372036854775807]) := rfl
set_option maxRecDepth 20000 in
theorem w9_parse  {d : Nat} (hSh : ab_Sh sx_sk h) (hJ : lj_J MJ L xs h) (hw : ab_sub_wr wr mj_wr = true) (k : ab_EndsX sc_P QT d 102 0 (sm_entry 1 [.ref 51]) [] h Q) (hQ : ∀ v h1, Q v h1 → ∃ z : Int32, v = some (.int z) ∧ ab_Sh sx_sk h1 ∧ ab_Fr wr h h1 ∧ ∀ h2, rq xq_W h1 h2 → X 0 z.toInt64 h2) (hT : ∀ x h1, QT x h1 → ∃ g, h1 = g ++ [sm_exc x] ∧ ab_Sh sx_sk g ∧ ab_Fr wr h g ∧ ((x = 14 ∧ X 1 0 h1) ∨ (x = 15 ∧ X 2 0 h1))) : wb_Ends sc_P sc_PW (d + 1) 2004 0 (sm_entry 3 [.ref 51, .ref 171]) [] h (WO9 X L xs h) := by
  have hM : sc_PW 2004 = some ((3, 1, sw_4), sw_h4) := rfl
  refine wb_Ends.step hM (q := (.aload_n 1, 1, [])) rfl rfl ?_
  refine wb_Ends.step hM (q := (.iconst 0, 1, [])) rfl rfl ?_
  refine wb_Ends.step hM (q := (.aload_n 0, 1, [])) rfl rfl ?_
  refine wb_Ends.call (q := (.invokevirtual 30, 3, [0, 0, 0, 102])) (M' := (1, 1, sb_102)) (m' := 102) (as := [.ref 51]) (r := [.int (Int32.ofInt 0), .ref 171]) hM rfl (c3_own9 hSh rfl) rfl (by decide : (sm_slots [Value.ref 51]).length ≤ 1) (by simp [Value.category]) k (fun v h1 hq => ?_) (fun x h1 ht => ?_)
  · obtain ⟨zr, rfl, s1, F, hX⟩ := hQ v h1 hq
    exact w9_end hM (w9_seg4 h1 _  _) rfl s1 (fun hS2 => w9_ok hJ hw s1 F hS2 hX)
  · obtain ⟨g, e, s1, F, hx⟩ := hT x h1 ht
    rcases hx with ⟨rfl, hx⟩ | ⟨rfl, hx⟩
    · refine ⟨11, rfl, ?_⟩
      refine wb_Ends.step hM (q := (.astore_n 2, 1, [])) rfl rfl ?_
      refine wb_Ends.step hM (q := (.iconst 1, 1, [])) rfl rfl ?_
      exact wb_Ends.ret (q := (.ireturn, 1, [])) (v := some (.int (Int32.ofInt 1))) hM rfl rfl rfl (w9_thr hJ hw e s1 F (by decide) hx)
    · refine ⟨14, rfl, ?_⟩
      refine wb_Ends.step hM (q := (.astore_n 2, 1, [])) rfl rfl ?_
      refine wb_Ends.step hM (q := (.iconst 2, 1, [])) rfl rfl ?_
      exact wb_Ends.ret (q := (.ireturn, 1, [])) (v := some (.int (Int32.ofInt 2))) hM rfl rfl rfl (w9_thr hJ hw e s1 F (by decide) hx)
set_option maxRecDepth 20000 in
theorem w9_seg5 (h : sm_H) (r : Int32) (v0 v1 : Value) (e : Option Value) : mo_path sw_5 sx_sk h 4 [] 9 [some (.ref 51), some v0, none, some v1, some (.ref 171), e] [.int r, .int (Int32.ofInt 0), .ref 171] [] = some (27, [some (.ref 51), some v0, none, some v1, some (.ref 171), e], [.int (Int32.ofInt 0)], [.inr (.inr (171, Int32.toNatClampNeg (Int32.ofInt 0), r.toInt64))], [0 ≤ (Int32.ofInt 0).toInt ∧ (Int32.ofInt 0).toInt < ((1 : Nat) : Int), (-9223372036854775808) ≤ r.toInt64.toInt ∧ r.toInt64.toInt ≤ 9223372036854775807]) := rfl
set_option maxRecDepth 20000 in
theorem w9_grow {zx : Int64} {f : Int32} {d : Nat} (hSh : ab_Sh sx_sk h) (hJ : lj_J MJ L xs h) (hw : ab_sub_wr wr mj_wr = true) (k : ab_EndsX sc_P QT d 158 0 (sm_entry 4 [.ref 51, .long zx, .int f]) [] h Q) (hQ : ∀ v h1, Q v h1 → ∃ z : Int32, v = some (.int z) ∧ ab_Sh sx_sk h1 ∧ ab_Fr wr h h1 ∧ ∀ h2, rq xq_W h1 h2 → X 0 z.toInt64 h2) (hT : ∀ x h1, QT x h1 → ∃ g, h1 = g ++ [sm_exc x] ∧ ab_Sh sx_sk g ∧ ab_Fr wr h g ∧ ((x = 13 ∧ X 1 0 h1) ∨ (x = 14 ∧ X 2 0 h1) ∨ (x = 15 ∧ X 3 0 h1))) : wb_Ends sc_P sc_PW (d + 1) 2005 0 (sm_entry 6 [.ref 51, .long zx, .int f, .ref 171]) [] h (WO9 X L xs h) := by
  have hM : sc_PW 2005 = some ((6, 1, sw_5), sw_h5) := rfl
  refine wb_Ends.step hM (q := (.aload 4, 2, [])) rfl rfl ?_
  refine wb_Ends.step hM (q := (.iconst 0, 1, [])) rfl rfl ?_
  refine wb_Ends.step hM (q := (.aload_n 0, 1, [])) rfl rfl ?_
  refine wb_Ends.step hM (q := (.lload_n 1, 1, [])) rfl rfl ?_
  refine wb_Ends.step hM (q := (.iload_n 3, 1, [])) rfl rfl ?_
  refine wb_Ends.call (q := (.invokevirtual 36, 3, [0, 2, 0, 158])) (M' := (4, 1, sb_158)) (m' := 158) (as := [.ref 51, .long zx, .int f]) (r := [.int (Int32.ofInt 0), .ref 171]) hM rfl (c3_own9 hSh rfl) rfl (by decide : (sm_slots [Value.ref 51, .long 0, .int 0]).length ≤ 4) (by simp [Value.category]) k (fun v h1 hq => ?_) (fun x h1 ht => ?_)
  · obtain ⟨zr, rfl, s1, F, hX⟩ := hQ v h1 hq
    exact w9_end hM (w9_seg5 h1 _ _ _ _) rfl s1 (fun hS2 => w9_ok hJ hw s1 F hS2 hX)
  · obtain ⟨g, e, s1, F, hx⟩ := hT x h1 ht
    rcases hx with ⟨rfl, hx⟩ | ⟨rfl, hx⟩ | ⟨rfl, hx⟩
    · refine ⟨14, rfl, ?_⟩
      refine wb_Ends.step hM (q := (.astore 5, 2, [])) rfl rfl ?_
      refine wb_Ends.step hM (q := (.iconst 1, 1, [])) rfl rfl ?_
      exact wb_Ends.ret (q := (.ireturn, 1, [])) (v := some (.int (Int32.ofInt 1))) hM rfl rfl rfl (w9_thr hJ hw e s1 F (by decide) hx)
    · refine ⟨18, rfl, ?_⟩
      refine wb_Ends.step hM (q := (.astore 5, 2, [])) rfl rfl ?_
      refine wb_Ends.step hM (q := (.iconst 2, 1, [])) rfl rfl ?_
      exact wb_Ends.ret (q := (.ireturn, 1, [])) (v := some (.int (Int32.ofInt 2))) hM rfl rfl rfl (w9_thr hJ hw e s1 F (by decide) hx)
    · refine ⟨22, rfl, ?_⟩
      refine wb_Ends.step hM (q := (.astore 5, 2, [])) rfl rfl ?_
      refine wb_Ends.step hM (q := (.iconst 3, 1, [])) rfl rfl ?_
      exact wb_Ends.ret (q := (.ireturn, 1, [])) (v := some (.int (Int32.ofInt 3))) hM rfl rfl rfl (w9_thr hJ hw e s1 F (by decide) hx)
set_option maxRecDepth 20000 in
theorem w9_seg6 (h : sm_H) (y : Int64) (v0 v1 : Value) (e : Option Value) : mo_path sw_6 sx_sk h 3 [] 8 [some (.ref 51), some v0, some v1, some (.ref 171), e] [.long y, .int (Int32.ofInt 0), .ref 171] [] = some (21, [some (.ref 51), some v0, some v1, some (.ref 171), e], [.int (Int32.ofInt 0)], [.inr (.inr (171, Int32.toNatClampNeg (Int32.ofInt 0), y))], [0 ≤ (Int32.ofInt 0).toInt ∧ (Int32.ofInt 0).toInt < ((1 : Nat) : Int), (-9223372036854775808) ≤ y.toInt ∧ y.toInt ≤ 9223372036854775807]) := rfl
set_option maxRecDepth 20000 in
theorem w9_node {p : Int32} {q : Int32} {d : Nat} (hSh : ab_Sh sx_sk h) (hJ : lj_J MJ L xs h) (hw : ab_sub_wr wr mj_wr = true) (k : ab_EndsX sc_P QT d 160 0 (sm_entry 3 [.ref 51, .int p, .int q]) [] h Q) (hQ : ∀ v h1, Q v h1 → ∃ z : Int64, v = some (.long z) ∧ ab_Sh sx_sk h1 ∧ ab_Fr wr h h1 ∧ ∀ h2, rq xq_W h1 h2 → X 0 z h2) (hT : ∀ x h1, QT x h1 → ∃ g, h1 = g ++ [sm_exc x] ∧ ab_Sh sx_sk g ∧ ab_Fr wr h g ∧ ((x = 16 ∧ X 1 0 h1) ∨ (x = 13 ∧ X 2 0 h1))) : wb_Ends sc_P sc_PW (d + 1) 2006 0 (sm_entry 5 [.ref 51, .int p, .int q, .ref 171]) [] h (WO9 X L xs h) := by
  have hM : sc_PW 2006 = some ((5, 1, sw_6), sw_h6) := rfl
  refine wb_Ends.step hM (q := (.aload_n 3, 1, [])) rfl rfl ?_
  refine wb_Ends.step hM (q := (.iconst 0, 1, [])) rfl rfl ?_
  refine wb_Ends.step hM (q := (.aload_n 0, 1, [])) rfl rfl ?_
  refine wb_Ends.step hM (q := (.iload_n 1, 1, [])) rfl rfl ?_
  refine wb_Ends.step hM (q := (.iload_n 2, 1, [])) rfl rfl ?_
  refine wb_Ends.call (q := (.invokevirtual 40, 3, [0, 2, 0, 160])) (M' := (3, 2, sb_160)) (m' := 160) (as := [.ref 51, .int p, .int q]) (r := [.int (Int32.ofInt 0), .ref 171]) hM rfl (c3_own9 hSh rfl) rfl (by decide : (sm_slots [Value.ref 51, .int 0, .int 0]).length ≤ 3) (by simp [Value.category]) k (fun v h1 hq => ?_) (fun x h1 ht => ?_)
  · obtain ⟨zr, rfl, s1, F, hX⟩ := hQ v h1 hq
    exact w9_end hM (w9_seg6 h1 _ _ _ _) rfl s1 (fun hS2 => w9_ok hJ hw s1 F hS2 hX)
  · obtain ⟨g, e, s1, F, hx⟩ := hT x h1 ht
    rcases hx with ⟨rfl, hx⟩ | ⟨rfl, hx⟩
    · refine ⟨12, rfl, ?_⟩
      refine wb_Ends.step hM (q := (.astore 4, 2, [])) rfl rfl ?_
      refine wb_Ends.step hM (q := (.iconst 1, 1, [])) rfl rfl ?_
      exact wb_Ends.ret (q := (.ireturn, 1, [])) (v := some (.int (Int32.ofInt 1))) hM rfl rfl rfl (w9_thr hJ hw e s1 F (by decide) hx)
    · refine ⟨16, rfl, ?_⟩
      refine wb_Ends.step hM (q := (.astore 4, 2, [])) rfl rfl ?_
      refine wb_Ends.step hM (q := (.iconst 2, 1, [])) rfl rfl ?_
      exact wb_Ends.ret (q := (.ireturn, 1, [])) (v := some (.int (Int32.ofInt 2))) hM rfl rfl rfl (w9_thr hJ hw e s1 F (by decide) hx)
set_option maxRecDepth 20000 in
theorem w9_seg7 (h : sm_H) (y : Int64) (v0 v1 : Value) (e : Option Value) : mo_path sw_7 sx_sk h 3 [] 17 [some (.ref 51), some v0, some v1, none, some (.ref 171), e] [.long y, .int (Int32.ofInt 0), .ref 171] [] = some (26, [some (.ref 51), some v0, some v1, none, some (.ref 171), e], [.int (Int32.ofInt 0)], [.inr (.inr (171, Int32.toNatClampNeg (Int32.ofInt 0), y))], [0 ≤ (Int32.ofInt 0).toInt ∧ (Int32.ofInt 0).toInt < ((1 : Nat) : Int), (-9223372036854775808) ≤ y.toInt ∧ y.toInt ≤ 9223372036854775807]) := rfl
set_option maxRecDepth 20000 in
theorem w9_set {p : Int32} {zv : Int64} {d : Nat} (hSh : ab_Sh sx_sk h) (hJ : lj_J MJ L xs h) (hw : ab_sub_wr wr mj_wr = true) (k : ab_EndsX sc_P QT d 162 0 (sm_entry 6 [.ref 51, .int p, .long zv]) [] h Q) (hQ : ∀ v h1, Q v h1 → ∃ z : Int32, v = some (.int z) ∧ ab_Sh sx_sk h1 ∧ ab_Fr wr h h1 ∧ ∀ h2, rq xq_W h1 h2 → X 0 (if z = Int32.ofInt 0 then Int64.ofNat 0 else Int64.ofNat 1) h2) (hT : ∀ x h1, QT x h1 → ∃ g, h1 = g ++ [sm_exc x] ∧ ab_Sh sx_sk g ∧ ab_Fr wr h g ∧ ((x = 16 ∧ X 1 0 h1))) : wb_Ends sc_P sc_PW (d + 1) 2007 0 (sm_entry 6 [.ref 51, .int p, .long zv, .ref 171]) [] h (WO9 X L xs h) := by
  have hM : sc_PW 2007 = some ((6, 1, sw_7), sw_h7) := rfl
  refine wb_Ends.step hM (q := (.aload 4, 2, [])) rfl rfl ?_
  refine wb_Ends.step hM (q := (.iconst 0, 1, [])) rfl rfl ?_
  refine wb_Ends.step hM (q := (.aload_n 0, 1, [])) rfl rfl ?_
  refine wb_Ends.step hM (q := (.iload_n 1, 1, [])) rfl rfl ?_
  refine wb_Ends.step hM (q := (.lload_n 2, 1, [])) rfl rfl ?_
  refine wb_Ends.call (q := (.invokevirtual 45, 3, [0, 2, 0, 162])) (M' := (6, 4, sb_162)) (m' := 162) (as := [.ref 51, .int p, .long zv]) (r := [.int (Int32.ofInt 0), .ref 171]) hM rfl (c3_own9 hSh rfl) rfl (by decide : (sm_slots [Value.ref 51, .int 0, .long 0]).length ≤ 6) (by simp [Value.category]) k (fun v h1 hq => ?_) (fun x h1 ht => ?_)
  · obtain ⟨zr, rfl, s1, F, hX⟩ := hQ v h1 hq
    by_cases hy : zr = Int32.ofInt 0
    · refine wb_Ends.step hM (q := (.ifCond .eq 7, 3, [])) (pc' := 16) (ls' := [some (.ref 51), some (.int p), some (.long zv), none, some (.ref 171), none]) (st' := [.int (Int32.ofInt 0), .ref 171]) (h' := h1) rfl ?_ ?_
      · subst hy
        rfl
      · refine wb_Ends.step hM (q := (.lconst 0, 1, [])) rfl rfl ?_
        refine w9_end hM (w9_seg7 h1 _ _ _ _) rfl s1 (fun hS2 => w9_ok hJ hw s1 F hS2 (fun h2 r => ?_))
        have := hX h2 r
        rw [if_pos hy] at this
        exact this
    · refine wb_Ends.step hM (q := (.ifCond .eq 7, 3, [])) (pc' := 12) (ls' := [some (.ref 51), some (.int p), some (.long zv), none, some (.ref 171), none]) (st' := [.int (Int32.ofInt 0), .ref 171]) (h' := h1) rfl ?_ ?_
      · show sm_if (sm_cmp .eq zr 0) 9 7 _ _ h1 = _
        have : sm_cmp .eq zr 0 = false := decide_eq_false hy
        rw [this]
        rfl
      · refine wb_Ends.step hM (q := (.lconst 1, 1, [])) rfl rfl ?_
        refine wb_Ends.step hM (q := (.goto 4, 3, [])) rfl rfl ?_
        refine w9_end hM (w9_seg7 h1 _ _ _ _) rfl s1 (fun hS2 => w9_ok hJ hw s1 F hS2 (fun h2 r => ?_))
        have := hX h2 r
        rw [if_neg hy] at this
        exact this
  · obtain ⟨g, e, s1, F, hx⟩ := hT x h1 ht
    obtain ⟨rfl, hx⟩ := hx
    refine ⟨21, rfl, ?_⟩
    refine wb_Ends.step hM (q := (.astore 5, 2, [])) rfl rfl ?_
    refine wb_Ends.step hM (q := (.iconst 1, 1, [])) rfl rfl ?_
    exact wb_Ends.ret (q := (.ireturn, 1, [])) (v := some (.int (Int32.ofInt 1))) hM rfl rfl rfl (w9_thr hJ hw e s1 F (by decide) hx)
set_option maxRecDepth 20000 in
theorem w9_seg8 (h : sm_H) (r : Int32) (e : Option Value) : mo_path sw_8 sx_sk h 4 [] 6 [some (.ref 51), some (.ref 171), e] [.int r, .int (Int32.ofInt 0), .ref 171] [] = some (18, [some (.ref 51), some (.ref 171), e], [.int (Int32.ofInt 0)], [.inr (.inr (171, Int32.toNatClampNeg (Int32.ofInt 0), r.toInt64))], [0 ≤ (Int32.ofInt 0).toInt ∧ (Int32.ofInt 0).toInt < ((1 : Nat) : Int), (-9223372036854775808) ≤ r.toInt64.toInt ∧ r.toInt64.toInt ≤ 9223372036854775807]) := rfl
set_option maxRecDepth 20000 in
theorem w9_print  {d : Nat} (hSh : ab_Sh sx_sk h) (hJ : lj_J MJ L xs h) (hw : ab_sub_wr wr mj_wr = true) (k : ab_EndsX sc_P QT d 164 0 (sm_entry 1 [.ref 51]) [] h Q) (hQ : ∀ v h1, Q v h1 → ∃ z : Int32, v = some (.int z) ∧ ab_Sh sx_sk h1 ∧ ab_Fr wr h h1 ∧ ∀ h2, rq xq_W h1 h2 → X 0 z.toInt64 h2) (hT : ∀ x h1, QT x h1 → ∃ g, h1 = g ++ [sm_exc x] ∧ ab_Sh sx_sk g ∧ ab_Fr wr h g ∧ ((x = 14 ∧ X 1 0 h1) ∨ (x = 15 ∧ X 2 0 h1))) : wb_Ends sc_P sc_PW (d + 1) 2008 0 (sm_entry 3 [.ref 51, .ref 171]) [] h (WO9 X L xs h) := by
  have hM : sc_PW 2008 = some ((3, 1, sw_8), sw_h8) := rfl
  refine wb_Ends.step hM (q := (.aload_n 1, 1, [])) rfl rfl ?_
  refine wb_Ends.step hM (q := (.iconst 0, 1, [])) rfl rfl ?_
  refine wb_Ends.step hM (q := (.aload_n 0, 1, [])) rfl rfl ?_
  refine wb_Ends.call (q := (.invokevirtual 49, 3, [0, 0, 0, 164])) (M' := (1, 1, sb_164)) (m' := 164) (as := [.ref 51]) (r := [.int (Int32.ofInt 0), .ref 171]) hM rfl (c3_own9 hSh rfl) rfl (by decide : (sm_slots [Value.ref 51]).length ≤ 1) (by simp [Value.category]) k (fun v h1 hq => ?_) (fun x h1 ht => ?_)
  · obtain ⟨zr, rfl, s1, F, hX⟩ := hQ v h1 hq
    exact w9_end hM (w9_seg8 h1 _  _) rfl s1 (fun hS2 => w9_ok hJ hw s1 F hS2 hX)
  · obtain ⟨g, e, s1, F, hx⟩ := hT x h1 ht
    rcases hx with ⟨rfl, hx⟩ | ⟨rfl, hx⟩
    · refine ⟨11, rfl, ?_⟩
      refine wb_Ends.step hM (q := (.astore_n 2, 1, [])) rfl rfl ?_
      refine wb_Ends.step hM (q := (.iconst 1, 1, [])) rfl rfl ?_
      exact wb_Ends.ret (q := (.ireturn, 1, [])) (v := some (.int (Int32.ofInt 1))) hM rfl rfl rfl (w9_thr hJ hw e s1 F (by decide) hx)
    · refine ⟨14, rfl, ?_⟩
      refine wb_Ends.step hM (q := (.astore_n 2, 1, [])) rfl rfl ?_
      refine wb_Ends.step hM (q := (.iconst 2, 1, [])) rfl rfl ?_
      exact wb_Ends.ret (q := (.ireturn, 1, [])) (v := some (.int (Int32.ofInt 2))) hM rfl rfl rfl (w9_thr hJ hw e s1 F (by decide) hx)
end W9W
/-! walks once more; sizes -/
section GRP
variable {g g' : wk_g} {kw : Int → Bool} {E : pm_E}
theorem g9_at {n : Nat} {s : gm_S} {c : gm_C} (h : gm_to g kw n ([], s) c) : c = ([], s) := by
  cases n with
  | zero =>
    have h : ([], s) = c := h
    exact h.symm
  | succ n =>
    obtain ⟨e, r, c1, h1, -⟩ := h
    have h1 : ([] : List wk_E) = e :: r := h1
    cases h1
theorem g9_det {m : Option gm_C} {s t : gm_S} (a : gm_RO g kw m ([], s)) (b : gm_RO g kw m ([], t)) : s = t := by
  obtain ⟨c1, n1, e1, a⟩ := a
  obtain ⟨c2, n2, e2, b⟩ := b
  have e : c2 = c1 := Option.some.inj (e2.symm.trans e1)
  subst e
  rcases Nat.le_total n1 n2 with l | l
  · exact (congrArg Prod.snd (g9_at (gm_det n1 n2 _ a b l))).symm
  · exact congrArg Prod.snd (g9_at (gm_det n2 n1 _ b a l))
theorem g9_not {m : Option gm_C} {s : gm_S} (a : gm_RO g kw m ([], s)) (b : gm_NO g kw m) : False := by
  obtain ⟨c1, n1, e1, a⟩ := a
  rcases b with b | ⟨c2, n2, e2, b⟩
  · rw [e1] at b; cases b
  · have e : c2 = c1 := Option.some.inj (e2.symm.trans e1)
    subst e
    obtain ⟨-, k⟩ := gm_detn n1 n2 _ a b
    generalize n2 - n1 = j at k
    cases j with
    | zero =>
      obtain ⟨e, r, h1, -⟩ := k
      have h1 : ([] : List wk_E) = e :: r := h1
      cases h1
    | succ j =>
      obtain ⟨e, r, c1, h1, -⟩ := k
      have h1 : ([] : List wk_E) = e :: r := h1
      cases h1
theorem gc9_0 (g : wk_g) (zx : Int64) (zf : Int) : gc_0 g zx zf = some (gr_c0 g zx zf) := rfl
theorem gr9_c0 (hg : wk_gc g g') (zx : Int64) (zf : Int) : gr_c0 g' zx zf = gr_c0 g zx zf := by
  unfold gr_c0
  rw [hg 114 (by decide)]
theorem pc9_0 (hg : wk_gc g g') : pc_0 g' 0 = pc_0 g 0 := by
  rw [pc_0_e, pc_0_e, hg 114 (by decide)]
theorem pm_NO_g (hg : wk_gc g g') (k : pm_NO g' E (pc_0 g' 0)) : pm_NO g E (pc_0 g 0) := by
  intro c1 hc n s' hs
  rw [pc9_0 hg] at k
  exact k c1 hc n s' (by rw [pm_st_g hg]; exact hs)
theorem pm_RO_g {c : gm_C} (hg : wk_gc g g') (k : pm_RO g' E (pc_0 g' 0) c) : pm_RO g E (pc_0 g 0) c := by
  obtain ⟨c1, n, e1, k⟩ := k
  rw [pc9_0 hg] at e1
  rw [pm_st_g hg] at k
  exact ⟨c1, n, e1, k⟩
theorem pm_RO_u {m : Option gm_C} {s t : gm_S} (a : pm_RO g E m ([], s)) (b : pm_RO g E m ([], t)) : t = s := by
  obtain ⟨c1, n1, e1, a⟩ := a
  obtain ⟨c2, n2, e2, b⟩ := b
  have e : c2 = c1 := Option.some.inj (e2.symm.trans e1)
  subst e
  exact pw_u a b
theorem pm_x_NO {m : Option gm_C} {s : gm_S} (a : pm_RO g E m ([], s)) (k : pm_K E s = 0) (b : pm_NO g E m) : False := by
  obtain ⟨c1, n1, e1, a⟩ := a
  exact b c1 e1 n1 s a k
end GRP
theorem sz_vT (V : Int → Int) : ∀ T : List (Int × Int × Int), sz (vT V T) = sz T := by
  intro T
  induction T with
  | nil => rfl
  | cons x A ih =>
    have tl : ∀ (l : Int) (B : List (Int × Int × Int)), ((vT V B).takeWhile (fun y => decide (l < y.2.2))).length = (B.takeWhile (fun y => decide (l < y.2.2))).length := by
      intro l B
      induction B with
      | nil => rfl
      | cons b B ihB =>
        have e : vT V (b :: B) = (b.1, V (b.1 / 10), b.2.2) :: vT V B := rfl
        rw [e, List.takeWhile_cons, List.takeWhile_cons]
        by_cases c : l < b.2.2
        · have d1 : decide (l < ((b.1, V (b.1 / 10), b.2.2) : Int × Int × Int).2.2) = true := decide_eq_true c
          have d2 : decide (l < b.2.2) = true := decide_eq_true c
          rw [if_pos d1, if_pos d2, List.length_cons, List.length_cons, ihB]
        · have d1 : ¬ decide (l < ((b.1, V (b.1 / 10), b.2.2) : Int × Int × Int).2.2) = true := fun q => c (of_decide_eq_true q)
          have d2 : ¬ decide (l < b.2.2) = true := fun q => c (of_decide_eq_true q)
          rw [if_neg d1, if_neg d2]
    show ((((vT V A).takeWhile (fun y => decide (x.2.2 < y.2.2))).length : Int) :: sz (vT V A)) = _
    rw [tl, ih]
    rfl
theorem fo_vT {V : Int → Int} {T : List (Int × Int × Int)} {D : Int} (h : fo D T) : fo D (vT V T) := by
  refine ⟨fun x hx => ?_, fun x B e => ?_⟩
  · obtain ⟨y, y1, y2⟩ := List.mem_map.mp hx
    rw [← y2]
    exact h.1 y y1
  · cases T with
    | nil => cases e
    | cons b T =>
      have e : (b.1, V (b.1 / 10), b.2.2) :: vT V T = x :: B := e
      injection e with e1 e2
      rw [← e1]
      exact h.2 b T rfl
theorem vT_get {V : Int → Int} {T : List (Int × Int × Int)} {k : Nat} {x : Int × Int × Int} (h : T[k]? = some x) : (vT V T)[k]? = some (x.1, V (x.1 / 10), x.2.2) := by
  unfold vT
  rw [List.getElem?_map, h]
  rfl
/-! segments: sortOf, isPart, literal -/
set_option maxRecDepth 20000 in
theorem mp_soA_0 (h : sm_H) (d : Nat) (zx : Int64) : mi_path [(189, (2, 1, sb_189))] sx_sk h 29 [1, 1, 1, 1, 1, 1, 1] (d, 189, 0, [some (.inr (.inl (zx))), none], [], [], []) = some ((d, 189, 87, [some (.inr (.inl (zx))), none], [.inl ((-1 : Int))], [], []), [((lg_cmp zx (Int64.ofNat 609302190)).toInt) ≠ ((0 : Int)), ((lg_cmp zx (Int64.ofNat 177198)).toInt) ≠ ((0 : Int)), ((lg_cmp zx (Int64.ofNat 26886565)).toInt) ≠ ((0 : Int)), ((lg_cmp zx (Int64.ofNat 11994498)).toInt) ≠ ((0 : Int)), ((lg_cmp zx (Int64.ofNat 178476)).toInt) ≠ ((0 : Int)), ((lg_cmp zx (Int64.ofNat 609752228)).toInt) ≠ ((0 : Int)), ((lg_cmp zx (Int64.ofNat 363554)).toInt) ≠ ((0 : Int))]) := rfl
theorem mi_tab_soA_0 : ∀ e ∈ ([(189, (2, 1, sb_189))] : mi_T), sc_P e.1 = some e.2 := mi_tb mi_P189 (mi_tb_e)
set_option maxRecDepth 20000 in
theorem ms_soA_0 {h : sm_H} {d : Nat} {Q : Option mi_V → sm_H → Prop} {zx : Int64} (hS : ab_Sh sx_sk h)  (ho : (((lg_cmp zx (Int64.ofNat 609302190)).toInt) ≠ ((0 : Int))) ∧ (((lg_cmp zx (Int64.ofNat 177198)).toInt) ≠ ((0 : Int))) ∧ (((lg_cmp zx (Int64.ofNat 26886565)).toInt) ≠ ((0 : Int))) ∧ (((lg_cmp zx (Int64.ofNat 11994498)).toInt) ≠ ((0 : Int))) ∧ (((lg_cmp zx (Int64.ofNat 178476)).toInt) ≠ ((0 : Int))) ∧ (((lg_cmp zx (Int64.ofNat 609752228)).toInt) ≠ ((0 : Int))) ∧ (((lg_cmp zx (Int64.ofNat 363554)).toInt) ≠ ((0 : Int)))) (kon : ∀ h1, me_W [] h h1 → Q (some (.inl ((-1 : Int)))) h1) : me_E (d) 189 0 [some (.inr (.inl (zx))), none] [] h Q := me_seg (mp_soA_0 h d zx) (mi_tab_soA_0) hS (mi_okL_c (trivial) (mi_okL_n (mi_okL_e))) (mi_okS_e) (mi_al (ho.1) (mi_al (ho.2.1) (mi_al (ho.2.2.1) (mi_al (ho.2.2.2.1) (mi_al (ho.2.2.2.2.1) (mi_al (ho.2.2.2.2.2.1) (mi_al (ho.2.2.2.2.2.2) (mi_al_e)))))))) (fun h1 W _ hst => me_ret (M := (2, 1, sb_189)) rfl rfl rfl hst (mi_al_e) (kon h1 W))
set_option maxRecDepth 20000 in
theorem mp_soA_1 (h : sm_H) (d : Nat) (zx : Int64) : mi_path [(189, (2, 1, sb_189))] sx_sk h 30 [1, 1, 1, 1, 1, 1, 0] (d, 189, 0, [some (.inr (.inl (zx))), none], [], [], []) = some ((d, 189, 87, [some (.inr (.inl (zx))), none], [.inl ((7 : Int))], [], []), [((lg_cmp zx (Int64.ofNat 609302190)).toInt) ≠ ((0 : Int)), ((lg_cmp zx (Int64.ofNat 177198)).toInt) ≠ ((0 : Int)), ((lg_cmp zx (Int64.ofNat 26886565)).toInt) ≠ ((0 : Int)), ((lg_cmp zx (Int64.ofNat 11994498)).toInt) ≠ ((0 : Int)), ((lg_cmp zx (Int64.ofNat 178476)).toInt) ≠ ((0 : Int)), ((lg_cmp zx (Int64.ofNat 609752228)).toInt) ≠ ((0 : Int)), ((lg_cmp zx (Int64.ofNat 363554)).toInt) = ((0 : Int))]) := rfl
theorem mi_tab_soA_1 : ∀ e ∈ ([(189, (2, 1, sb_189))] : mi_T), sc_P e.1 = some e.2 := mi_tb mi_P189 (mi_tb_e)
set_option maxRecDepth 20000 in
theorem ms_soA_1 {h : sm_H} {d : Nat} {Q : Option mi_V → sm_H → Prop} {zx : Int64} (hS : ab_Sh sx_sk h)  (ho : (((lg_cmp zx (Int64.ofNat 609302190)).toInt) ≠ ((0 : Int))) ∧ (((lg_cmp zx (Int64.ofNat 177198)).toInt) ≠ ((0 : Int))) ∧ (((lg_cmp zx (Int64.ofNat 26886565)).toInt) ≠ ((0 : Int))) ∧ (((lg_cmp zx (Int64.ofNat 11994498)).toInt) ≠ ((0 : Int))) ∧ (((lg_cmp zx (Int64.ofNat 178476)).toInt) ≠ ((0 : Int))) ∧ (((lg_cmp zx (Int64.ofNat 609752228)).toInt) ≠ ((0 : Int))) ∧ (((lg_cmp zx (Int64.ofNat 363554)).toInt) = ((0 : Int)))) (kon : ∀ h1, me_W [] h h1 → Q (some (.inl ((7 : Int)))) h1) : me_E (d) 189 0 [some (.inr (.inl (zx))), none] [] h Q := me_seg (mp_soA_1 h d zx) (mi_tab_soA_1) hS (mi_okL_c (trivial) (mi_okL_n (mi_okL_e))) (mi_okS_e) (mi_al (ho.1) (mi_al (ho.2.1) (mi_al (ho.2.2.1) (mi_al (ho.2.2.2.1) (mi_al (ho.2.2.2.2.1) (mi_al (ho.2.2.2.2.2.1) (mi_al (ho.2.2.2.2.2.2) (mi_al_e)))))))) (fun h1 W _ hst => me_ret (M := (2, 1, sb_189)) rfl rfl rfl hst (mi_al_e) (kon h1 W))
set_option maxRecDepth 20000 in
theorem mp_soA_2 (h : sm_H) (d : Nat) (zx : Int64) : mi_path [(189, (2, 1, sb_189))] sx_sk h 26 [1, 1, 1, 1, 1, 0] (d, 189, 0, [some (.inr (.inl (zx))), none], [], [], []) = some ((d, 189, 87, [some (.inr (.inl (zx))), none], [.inl ((6 : Int))], [], []), [((lg_cmp zx (Int64.ofNat 609302190)).toInt) ≠ ((0 : Int)), ((lg_cmp zx (Int64.ofNat 177198)).toInt) ≠ ((0 : Int)), ((lg_cmp zx (Int64.ofNat 26886565)).toInt) ≠ ((0 : Int)), ((lg_cmp zx (Int64.ofNat 11994498)).toInt) ≠ ((0 : Int)), ((lg_cmp zx (Int64.ofNat 178476)).toInt) ≠ ((0 : Int)), ((lg_cmp zx (Int64.ofNat 609752228)).toInt) = ((0 : Int))]) := rfl
theorem mi_tab_soA_2 : ∀ e ∈ ([(189, (2, 1, sb_189))] : mi_T), sc_P e.1 = some e.2 := mi_tb mi_P189 (mi_tb_e)
set_option maxRecDepth 20000 in
theorem ms_soA_2 {h : sm_H} {d : Nat} {Q : Option mi_V → sm_H → Prop} {zx : Int64} (hS : ab_Sh sx_sk h)  (ho : (((lg_cmp zx (Int64.ofNat 609302190)).toInt) ≠ ((0 : Int))) ∧ (((lg_cmp zx (Int64.ofNat 177198)).toInt) ≠ ((0 : Int))) ∧ (((lg_cmp zx (Int64.ofNat 26886565)).toInt) ≠ ((0 : Int))) ∧ (((lg_cmp zx (Int64.ofNat 11994498)).toInt) ≠ ((0 : Int))) ∧ (((lg_cmp zx (Int64.ofNat 178476)).toInt) ≠ ((0 : Int))) ∧ (((lg_cmp zx (Int64.ofNat 609752228)).toInt) = ((0 : Int)))) (kon : ∀ h1, me_W [] h h1 → Q (some (.inl ((6 : Int)))) h1) : me_E (d) 189 0 [some (.inr (.inl (zx))), none] [] h Q := me_seg (mp_soA_2 h d zx) (mi_tab_soA_2) hS (mi_okL_c (trivial) (mi_okL_n (mi_okL_e))) (mi_okS_e) (mi_al (ho.1) (mi_al (ho.2.1) (mi_al (ho.2.2.1) (mi_al (ho.2.2.2.1) (mi_al (ho.2.2.2.2.1) (mi_al (ho.2.2.2.2.2) (mi_al_e))))))) (fun h1 W _ hst => me_ret (M := (2, 1, sb_189)) rfl rfl rfl hst (mi_al_e) (kon h1 W))
set_option maxRecDepth 20000 in
theorem mp_soA_3 (h : sm_H) (d : Nat) (zx : Int64) : mi_path [(189, (2, 1, sb_189))] sx_sk h 22 [1, 1, 1, 1, 0] (d, 189, 0, [some (.inr (.inl (zx))), none], [], [], []) = some ((d, 189, 87, [some (.inr (.inl (zx))), none], [.inl ((5 : Int))], [], []), [((lg_cmp zx (Int64.ofNat 609302190)).toInt) ≠ ((0 : Int)), ((lg_cmp zx (Int64.ofNat 177198)).toInt) ≠ ((0 : Int)), ((lg_cmp zx (Int64.ofNat 26886565)).toInt) ≠ ((0 : Int)), ((lg_cmp zx (Int64.ofNat 11994498)).toInt) ≠ ((0 : Int)), ((lg_cmp zx (Int64.ofNat 178476)).toInt) = ((0 : Int))]) := rfl
theorem mi_tab_soA_3 : ∀ e ∈ ([(189, (2, 1, sb_189))] : mi_T), sc_P e.1 = some e.2 := mi_tb mi_P189 (mi_tb_e)
set_option maxRecDepth 20000 in
theorem ms_soA_3 {h : sm_H} {d : Nat} {Q : Option mi_V → sm_H → Prop} {zx : Int64} (hS : ab_Sh sx_sk h)  (ho : (((lg_cmp zx (Int64.ofNat 609302190)).toInt) ≠ ((0 : Int))) ∧ (((lg_cmp zx (Int64.ofNat 177198)).toInt) ≠ ((0 : Int))) ∧ (((lg_cmp zx (Int64.ofNat 26886565)).toInt) ≠ ((0 : Int))) ∧ (((lg_cmp zx (Int64.ofNat 11994498)).toInt) ≠ ((0 : Int))) ∧ (((lg_cmp zx (Int64.ofNat 178476)).toInt) = ((0 : Int)))) (kon : ∀ h1, me_W [] h h1 → Q (some (.inl ((5 : Int)))) h1) : me_E (d) 189 0 [some (.inr (.inl (zx))), none] [] h Q := me_seg (mp_soA_3 h d zx) (mi_tab_soA_3) hS (mi_okL_c (trivial) (mi_okL_n (mi_okL_e))) (mi_okS_e) (mi_al (ho.1) (mi_al (ho.2.1) (mi_al (ho.2.2.1) (mi_al (ho.2.2.2.1) (mi_al (ho.2.2.2.2) (mi_al_e)))))) (fun h1 W _ hst => me_ret (M := (2, 1, sb_189)) rfl rfl rfl hst (mi_al_e) (kon h1 W))
set_option maxRecDepth 20000 in
theorem mp_soA_4 (h : sm_H) (d : Nat) (zx : Int64) : mi_path [(189, (2, 1, sb_189))] sx_sk h 18 [1, 1, 1, 0] (d, 189, 0, [some (.inr (.inl (zx))), none], [], [], []) = some ((d, 189, 87, [some (.inr (.inl (zx))), none], [.inl ((4 : Int))], [], []), [((lg_cmp zx (Int64.ofNat 609302190)).toInt) ≠ ((0 : Int)), ((lg_cmp zx (Int64.ofNat 177198)).toInt) ≠ ((0 : Int)), ((lg_cmp zx (Int64.ofNat 26886565)).toInt) ≠ ((0 : Int)), ((lg_cmp zx (Int64.ofNat 11994498)).toInt) = ((0 : Int))]) := rfl
theorem mi_tab_soA_4 : ∀ e ∈ ([(189, (2, 1, sb_189))] : mi_T), sc_P e.1 = some e.2 := mi_tb mi_P189 (mi_tb_e)
set_option maxRecDepth 20000 in
theorem ms_soA_4 {h : sm_H} {d : Nat} {Q : Option mi_V → sm_H → Prop} {zx : Int64} (hS : ab_Sh sx_sk h)  (ho : (((lg_cmp zx (Int64.ofNat 609302190)).toInt) ≠ ((0 : Int))) ∧ (((lg_cmp zx (Int64.ofNat 177198)).toInt) ≠ ((0 : Int))) ∧ (((lg_cmp zx (Int64.ofNat 26886565)).toInt) ≠ ((0 : Int))) ∧ (((lg_cmp zx (Int64.ofNat 11994498)).toInt) = ((0 : Int)))) (kon : ∀ h1, me_W [] h h1 → Q (some (.inl ((4 : Int)))) h1) : me_E (d) 189 0 [some (.inr (.inl (zx))), none] [] h Q := me_seg (mp_soA_4 h d zx) (mi_tab_soA_4) hS (mi_okL_c (trivial) (mi_okL_n (mi_okL_e))) (mi_okS_e) (mi_al (ho.1) (mi_al (ho.2.1) (mi_al (ho.2.2.1) (mi_al (ho.2.2.2) (mi_al_e))))) (fun h1 W _ hst => me_ret (M := (2, 1, sb_189)) rfl rfl rfl hst (mi_al_e) (kon h1 W))
set_option maxRecDepth 20000 in
theorem mp_soA_5 (h : sm_H) (d : Nat) (zx : Int64) : mi_path [(189, (2, 1, sb_189))] sx_sk h 14 [1, 1, 0] (d, 189, 0, [some (.inr (.inl (zx))), none], [], [], []) = some ((d, 189, 87, [some (.inr (.inl (zx))), none], [.inl ((3 : Int))], [], []), [((lg_cmp zx (Int64.ofNat 609302190)).toInt) ≠ ((0 : Int)), ((lg_cmp zx (Int64.ofNat 177198)).toInt) ≠ ((0 : Int)), ((lg_cmp zx (Int64.ofNat 26886565)).toInt) = ((0 : Int))]) := rfl
theorem mi_tab_soA_5 : ∀ e ∈ ([(189, (2, 1, sb_189))] : mi_T), sc_P e.1 = some e.2 := mi_tb mi_P189 (mi_tb_e)
set_option maxRecDepth 20000 in
theorem ms_soA_5 {h : sm_H} {d : Nat} {Q : Option mi_V → sm_H → Prop} {zx : Int64} (hS : ab_Sh sx_sk h)  (ho : (((lg_cmp zx (Int64.ofNat 609302190)).toInt) ≠ ((0 : Int))) ∧ (((lg_cmp zx (Int64.ofNat 177198)).toInt) ≠ ((0 : Int))) ∧ (((lg_cmp zx (Int64.ofNat 26886565)).toInt) = ((0 : Int)))) (kon : ∀ h1, me_W [] h h1 → Q (some (.inl ((3 : Int)))) h1) : me_E (d) 189 0 [some (.inr (.inl (zx))), none] [] h Q := me_seg (mp_soA_5 h d zx) (mi_tab_soA_5) hS (mi_okL_c (trivial) (mi_okL_n (mi_okL_e))) (mi_okS_e) (mi_al (ho.1) (mi_al (ho.2.1) (mi_al (ho.2.2) (mi_al_e)))) (fun h1 W _ hst => me_ret (M := (2, 1, sb_189)) rfl rfl rfl hst (mi_al_e) (kon h1 W))
set_option maxRecDepth 20000 in
theorem mp_soA_6 (h : sm_H) (d : Nat) (zx : Int64) : mi_path [(189, (2, 1, sb_189))] sx_sk h 10 [1, 0] (d, 189, 0, [some (.inr (.inl (zx))), none], [], [], []) = some ((d, 189, 87, [some (.inr (.inl (zx))), none], [.inl ((2 : Int))], [], []), [((lg_cmp zx (Int64.ofNat 609302190)).toInt) ≠ ((0 : Int)), ((lg_cmp zx (Int64.ofNat 177198)).toInt) = ((0 : Int))]) := rfl
theorem mi_tab_soA_6 : ∀ e ∈ ([(189, (2, 1, sb_189))] : mi_T), sc_P e.1 = some e.2 := mi_tb mi_P189 (mi_tb_e)
set_option maxRecDepth 20000 in
theorem ms_soA_6 {h : sm_H} {d : Nat} {Q : Option mi_V → sm_H → Prop} {zx : Int64} (hS : ab_Sh sx_sk h)  (ho : (((lg_cmp zx (Int64.ofNat 609302190)).toInt) ≠ ((0 : Int))) ∧ (((lg_cmp zx (Int64.ofNat 177198)).toInt) = ((0 : Int)))) (kon : ∀ h1, me_W [] h h1 → Q (some (.inl ((2 : Int)))) h1) : me_E (d) 189 0 [some (.inr (.inl (zx))), none] [] h Q := me_seg (mp_soA_6 h d zx) (mi_tab_soA_6) hS (mi_okL_c (trivial) (mi_okL_n (mi_okL_e))) (mi_okS_e) (mi_al (ho.1) (mi_al (ho.2) (mi_al_e))) (fun h1 W _ hst => me_ret (M := (2, 1, sb_189)) rfl rfl rfl hst (mi_al_e) (kon h1 W))
set_option maxRecDepth 20000 in
theorem mp_soA_7 (h : sm_H) (d : Nat) (zx : Int64) : mi_path [(189, (2, 1, sb_189))] sx_sk h 6 [0] (d, 189, 0, [some (.inr (.inl (zx))), none], [], [], []) = some ((d, 189, 87, [some (.inr (.inl (zx))), none], [.inl ((1 : Int))], [], []), [((lg_cmp zx (Int64.ofNat 609302190)).toInt) = ((0 : Int))]) := rfl
theorem mi_tab_soA_7 : ∀ e ∈ ([(189, (2, 1, sb_189))] : mi_T), sc_P e.1 = some e.2 := mi_tb mi_P189 (mi_tb_e)
set_option maxRecDepth 20000 in
theorem ms_soA_7 {h : sm_H} {d : Nat} {Q : Option mi_V → sm_H → Prop} {zx : Int64} (hS : ab_Sh sx_sk h)  (ho : (((lg_cmp zx (Int64.ofNat 609302190)).toInt) = ((0 : Int)))) (kon : ∀ h1, me_W [] h h1 → Q (some (.inl ((1 : Int)))) h1) : me_E (d) 189 0 [some (.inr (.inl (zx))), none] [] h Q := me_seg (mp_soA_7 h d zx) (mi_tab_soA_7) hS (mi_okL_c (trivial) (mi_okL_n (mi_okL_e))) (mi_okS_e) (mi_al (ho) (mi_al_e)) (fun h1 W _ hst => me_ret (M := (2, 1, sb_189)) rfl rfl rfl hst (mi_al_e) (kon h1 W))
set_option maxRecDepth 20000 in
theorem mt_soA {h : sm_H} {d : Nat} {Q : Option mi_V → sm_H → Prop} {zx : Int64} (hS : ab_Sh sx_sk h)  (k0 : (((lg_cmp zx (Int64.ofNat 609302190)).toInt) ≠ ((0 : Int))) → (((lg_cmp zx (Int64.ofNat 177198)).toInt) ≠ ((0 : Int))) → (((lg_cmp zx (Int64.ofNat 26886565)).toInt) ≠ ((0 : Int))) → (((lg_cmp zx (Int64.ofNat 11994498)).toInt) ≠ ((0 : Int))) → (((lg_cmp zx (Int64.ofNat 178476)).toInt) ≠ ((0 : Int))) → (((lg_cmp zx (Int64.ofNat 609752228)).toInt) ≠ ((0 : Int))) → (((lg_cmp zx (Int64.ofNat 363554)).toInt) ≠ ((0 : Int))) → (∀ h1, ab_Sh sx_sk h1 → ab_Fr [] h h1 → Q (some (.inl ((-1 : Int)))) h1)) (k1 : (((lg_cmp zx (Int64.ofNat 609302190)).toInt) ≠ ((0 : Int))) → (((lg_cmp zx (Int64.ofNat 177198)).toInt) ≠ ((0 : Int))) → (((lg_cmp zx (Int64.ofNat 26886565)).toInt) ≠ ((0 : Int))) → (((lg_cmp zx (Int64.ofNat 11994498)).toInt) ≠ ((0 : Int))) → (((lg_cmp zx (Int64.ofNat 178476)).toInt) ≠ ((0 : Int))) → (((lg_cmp zx (Int64.ofNat 609752228)).toInt) ≠ ((0 : Int))) → (((lg_cmp zx (Int64.ofNat 363554)).toInt) = ((0 : Int))) → (∀ h1, ab_Sh sx_sk h1 → ab_Fr [] h h1 → Q (some (.inl ((7 : Int)))) h1)) (k2 : (((lg_cmp zx (Int64.ofNat 609302190)).toInt) ≠ ((0 : Int))) → (((lg_cmp zx (Int64.ofNat 177198)).toInt) ≠ ((0 : Int))) → (((lg_cmp zx (Int64.ofNat 26886565)).toInt) ≠ ((0 : Int))) → (((lg_cmp zx (Int64.ofNat 11994498)).toInt) ≠ ((0 : Int))) → (((lg_cmp zx (Int64.ofNat 178476)).toInt) ≠ ((0 : Int))) → (((lg_cmp zx (Int64.ofNat 609752228)).toInt) = ((0 : Int))) → (∀ h1, ab_Sh sx_sk h1 → ab_Fr [] h h1 → Q (some (.inl ((6 : Int)))) h1)) (k3 : (((lg_cmp zx (Int64.ofNat 609302190)).toInt) ≠ ((0 : Int))) → (((lg_cmp zx (Int64.ofNat 177198)).toInt) ≠ ((0 : Int))) → (((lg_cmp zx (Int64.ofNat 26886565)).toInt) ≠ ((0 : Int))) → (((lg_cmp zx (Int64.ofNat 11994498)).toInt) ≠ ((0 : Int))) → (((lg_cmp zx (Int64.ofNat 178476)).toInt) = ((0 : Int))) → (∀ h1, ab_Sh sx_sk h1 → ab_Fr [] h h1 → Q (some (.inl ((5 : Int)))) h1)) (k4 : (((lg_cmp zx (Int64.ofNat 609302190)).toInt) ≠ ((0 : Int))) → (((lg_cmp zx (Int64.ofNat 177198)).toInt) ≠ ((0 : Int))) → (((lg_cmp zx (Int64.ofNat 26886565)).toInt) ≠ ((0 : Int))) → (((lg_cmp zx (Int64.ofNat 11994498)).toInt) = ((0 : Int))) → (∀ h1, ab_Sh sx_sk h1 → ab_Fr [] h h1 → Q (some (.inl ((4 : Int)))) h1)) (k5 : (((lg_cmp zx (Int64.ofNat 609302190)).toInt) ≠ ((0 : Int))) → (((lg_cmp zx (Int64.ofNat 177198)).toInt) ≠ ((0 : Int))) → (((lg_cmp zx (Int64.ofNat 26886565)).toInt) = ((0 : Int))) → (∀ h1, ab_Sh sx_sk h1 → ab_Fr [] h h1 → Q (some (.inl ((3 : Int)))) h1)) (k6 : (((lg_cmp zx (Int64.ofNat 609302190)).toInt) ≠ ((0 : Int))) → (((lg_cmp zx (Int64.ofNat 177198)).toInt) = ((0 : Int))) → (∀ h1, ab_Sh sx_sk h1 → ab_Fr [] h h1 → Q (some (.inl ((2 : Int)))) h1)) (k7 : (((lg_cmp zx (Int64.ofNat 609302190)).toInt) = ((0 : Int))) → (∀ h1, ab_Sh sx_sk h1 → ab_Fr [] h h1 → Q (some (.inl ((1 : Int)))) h1)) : me_E (d) 189 0 [some (.inr (.inl (zx))), none] [] h Q := Or.elim (mi_em .ne (((lg_cmp zx (Int64.ofNat 609302190)).toInt)) (((0 : Int)))) (fun c0 => Or.elim (mi_em .ne (((lg_cmp zx (Int64.ofNat 177198)).toInt)) (((0 : Int)))) (fun c1 => Or.elim (mi_em .ne (((lg_cmp zx (Int64.ofNat 26886565)).toInt)) (((0 : Int)))) (fun c2 => Or.elim (mi_em .ne (((lg_cmp zx (Int64.ofNat 11994498)).toInt)) (((0 : Int)))) (fun c3 => Or.elim (mi_em .ne (((lg_cmp zx (Int64.ofNat 178476)).toInt)) (((0 : Int)))) (fun c4 => Or.elim (mi_em .ne (((lg_cmp zx (Int64.ofNat 609752228)).toInt)) (((0 : Int)))) (fun c5 => Or.elim (mi_em .ne (((lg_cmp zx (Int64.ofNat 363554)).toInt)) (((0 : Int)))) (fun c6 => ms_soA_0 hS ⟨c0, c1, c2, c3, c4, c5, c6⟩ (fun h1 W => (k0 c0 c1 c2 c3 c4 c5 c6) h1 W.1 (W.2.2.2.2.2 _ rfl))) (fun c6 => ms_soA_1 hS ⟨c0, c1, c2, c3, c4, c5, c6⟩ (fun h1 W => (k1 c0 c1 c2 c3 c4 c5 c6) h1 W.1 (W.2.2.2.2.2 _ rfl)))) (fun c5 => ms_soA_2 hS ⟨c0, c1, c2, c3, c4, c5⟩ (fun h1 W => (k2 c0 c1 c2 c3 c4 c5) h1 W.1 (W.2.2.2.2.2 _ rfl)))) (fun c4 => ms_soA_3 hS ⟨c0, c1, c2, c3, c4⟩ (fun h1 W => (k3 c0 c1 c2 c3 c4) h1 W.1 (W.2.2.2.2.2 _ rfl)))) (fun c3 => ms_soA_4 hS ⟨c0, c1, c2, c3⟩ (fun h1 W => (k4 c0 c1 c2 c3) h1 W.1 (W.2.2.2.2.2 _ rfl)))) (fun c2 => ms_soA_5 hS ⟨c0, c1, c2⟩ (fun h1 W => (k5 c0 c1 c2) h1 W.1 (W.2.2.2.2.2 _ rfl)))) (fun c1 => ms_soA_6 hS ⟨c0, c1⟩ (fun h1 W => (k6 c0 c1) h1 W.1 (W.2.2.2.2.2 _ rfl)))) (fun c0 => ms_soA_7 hS (c0) (fun h1 W => (k7 c0) h1 W.1 (W.2.2.2.2.2 _ rfl)))
set_option maxRecDepth 20000 in
theorem mp_ipA_0 (h : sm_H) (d : Nat) : mi_path [(188, (1, 4, sb_188))] sx_sk h 10 [1, 1] (d + 1, 188, 0, [some (.inr (.inr 109))], [], [], []) = some ((d + 1, 188, 56, [some (.inr (.inr 109))], [.inl ((1 : Int))], [], []), [(mi_f h 14001) ≠ ((1 : Int)), (mi_f h 14001) = ((2 : Int))]) := rfl
theorem mi_tab_ipA_0 : ∀ e ∈ ([(188, (1, 4, sb_188))] : mi_T), sc_P e.1 = some e.2 := mi_tb mi_P188 (mi_tb_e)
set_option maxRecDepth 20000 in
theorem ms_ipA_0 {h : sm_H} {d : Nat} {Q : Option mi_V → sm_H → Prop} (hS : ab_Sh sx_sk h)  (ho : ((mi_f h 14001) ≠ ((1 : Int))) ∧ ((mi_f h 14001) = ((2 : Int))) ∧ (((1 : Int)) = 0 ∨ ((1 : Int)) = 1)) (kon : ∀ h1, me_W [] h h1 → Q (some (.inl ((1 : Int)))) h1) : me_E (d + 1) 188 0 [some (.inr (.inr 109))] [] h Q := me_seg (mp_ipA_0 h d ) (mi_tab_ipA_0) hS (mi_okL_c (trivial) (mi_okL_e)) (mi_okS_e) (mi_al (ho.1) (mi_al (ho.2.1) (mi_al_e))) (fun h1 W _ hst => me_ret (M := (1, 4, sb_188)) rfl rfl rfl hst (mi_al (ho.2.2) mi_al_e) (kon h1 W))
set_option maxRecDepth 20000 in
theorem mp_ipA_1 (h : sm_H) (d : Nat) : mi_path [(188, (1, 4, sb_188))] sx_sk h 14 [1, 0, 1] (d + 1, 188, 0, [some (.inr (.inr 109))], [], [], []) = some ((d + 1, 188, 56, [some (.inr (.inr 109))], [.inl ((1 : Int))], [], []), [(mi_f h 14001) ≠ ((1 : Int)), (mi_f h 14001) ≠ ((2 : Int)), (mi_f h 14001) = ((3 : Int))]) := rfl
theorem mi_tab_ipA_1 : ∀ e ∈ ([(188, (1, 4, sb_188))] : mi_T), sc_P e.1 = some e.2 := mi_tb mi_P188 (mi_tb_e)
set_option maxRecDepth 20000 in
theorem ms_ipA_1 {h : sm_H} {d : Nat} {Q : Option mi_V → sm_H → Prop} (hS : ab_Sh sx_sk h)  (ho : ((mi_f h 14001) ≠ ((1 : Int))) ∧ ((mi_f h 14001) ≠ ((2 : Int))) ∧ ((mi_f h 14001) = ((3 : Int))) ∧ (((1 : Int)) = 0 ∨ ((1 : Int)) = 1)) (kon : ∀ h1, me_W [] h h1 → Q (some (.inl ((1 : Int)))) h1) : me_E (d + 1) 188 0 [some (.inr (.inr 109))] [] h Q := me_seg (mp_ipA_1 h d ) (mi_tab_ipA_1) hS (mi_okL_c (trivial) (mi_okL_e)) (mi_okS_e) (mi_al (ho.1) (mi_al (ho.2.1) (mi_al (ho.2.2.1) (mi_al_e)))) (fun h1 W _ hst => me_ret (M := (1, 4, sb_188)) rfl rfl rfl hst (mi_al (ho.2.2.2) mi_al_e) (kon h1 W))
set_option maxRecDepth 20000 in
theorem mp_ipA_2 (h : sm_H) (d : Nat) : mi_path [(188, (1, 4, sb_188))] sx_sk h 18 [1, 0, 0, 1] (d + 1, 188, 0, [some (.inr (.inr 109))], [], [], []) = some ((d + 1, 188, 56, [some (.inr (.inr 109))], [.inl ((1 : Int))], [], []), [(mi_f h 14001) ≠ ((1 : Int)), (mi_f h 14001) ≠ ((2 : Int)), (mi_f h 14001) ≠ ((3 : Int)), (mi_f h 14001) = ((4 : Int))]) := rfl
theorem mi_tab_ipA_2 : ∀ e ∈ ([(188, (1, 4, sb_188))] : mi_T), sc_P e.1 = some e.2 := mi_tb mi_P188 (mi_tb_e)
set_option maxRecDepth 20000 in
theorem ms_ipA_2 {h : sm_H} {d : Nat} {Q : Option mi_V → sm_H → Prop} (hS : ab_Sh sx_sk h)  (ho : ((mi_f h 14001) ≠ ((1 : Int))) ∧ ((mi_f h 14001) ≠ ((2 : Int))) ∧ ((mi_f h 14001) ≠ ((3 : Int))) ∧ ((mi_f h 14001) = ((4 : Int))) ∧ (((1 : Int)) = 0 ∨ ((1 : Int)) = 1)) (kon : ∀ h1, me_W [] h h1 → Q (some (.inl ((1 : Int)))) h1) : me_E (d + 1) 188 0 [some (.inr (.inr 109))] [] h Q := me_seg (mp_ipA_2 h d ) (mi_tab_ipA_2) hS (mi_okL_c (trivial) (mi_okL_e)) (mi_okS_e) (mi_al (ho.1) (mi_al (ho.2.1) (mi_al (ho.2.2.1) (mi_al (ho.2.2.2.1) (mi_al_e))))) (fun h1 W _ hst => me_ret (M := (1, 4, sb_188)) rfl rfl rfl hst (mi_al (ho.2.2.2.2) mi_al_e) (kon h1 W))
set_option maxRecDepth 20000 in
theorem mp_ipA_3 (h : sm_H) (d : Nat) : mi_path [(188, (1, 4, sb_188))] sx_sk h 21 [1, 0, 0, 0, 1] (d + 1, 188, 0, [some (.inr (.inr 109))], [], [], []) = some ((d + 1, 188, 56, [some (.inr (.inr 109))], [.inl ((0 : Int))], [], []), [(mi_f h 14001) ≠ ((1 : Int)), (mi_f h 14001) ≠ ((2 : Int)), (mi_f h 14001) ≠ ((3 : Int)), (mi_f h 14001) ≠ ((4 : Int)), (mi_f h 14001) ≠ ((40 : Int))]) := rfl
theorem mi_tab_ipA_3 : ∀ e ∈ ([(188, (1, 4, sb_188))] : mi_T), sc_P e.1 = some e.2 := mi_tb mi_P188 (mi_tb_e)
set_option maxRecDepth 20000 in
theorem ms_ipA_3 {h : sm_H} {d : Nat} {Q : Option mi_V → sm_H → Prop} (hS : ab_Sh sx_sk h)  (ho : ((mi_f h 14001) ≠ ((1 : Int))) ∧ ((mi_f h 14001) ≠ ((2 : Int))) ∧ ((mi_f h 14001) ≠ ((3 : Int))) ∧ ((mi_f h 14001) ≠ ((4 : Int))) ∧ ((mi_f h 14001) ≠ ((40 : Int))) ∧ (((0 : Int)) = 0 ∨ ((0 : Int)) = 1)) (kon : ∀ h1, me_W [] h h1 → Q (some (.inl ((0 : Int)))) h1) : me_E (d + 1) 188 0 [some (.inr (.inr 109))] [] h Q := me_seg (mp_ipA_3 h d ) (mi_tab_ipA_3) hS (mi_okL_c (trivial) (mi_okL_e)) (mi_okS_e) (mi_al (ho.1) (mi_al (ho.2.1) (mi_al (ho.2.2.1) (mi_al (ho.2.2.2.1) (mi_al (ho.2.2.2.2.1) (mi_al_e)))))) (fun h1 W _ hst => me_ret (M := (1, 4, sb_188)) rfl rfl rfl hst (mi_al (ho.2.2.2.2.2) mi_al_e) (kon h1 W))
set_option maxRecDepth 20000 in
theorem mp_ipA_4 (h : sm_H) (d : Nat) : mi_path [(188, (1, 4, sb_188))] sx_sk h 22 [1, 0, 0, 0, 0] (d + 1, 188, 0, [some (.inr (.inr 109))], [], [], []) = some ((d + 1, 188, 56, [some (.inr (.inr 109))], [.inl ((1 : Int))], [], []), [(mi_f h 14001) ≠ ((1 : Int)), (mi_f h 14001) ≠ ((2 : Int)), (mi_f h 14001) ≠ ((3 : Int)), (mi_f h 14001) ≠ ((4 : Int)), (mi_f h 14001) = ((40 : Int))]) := rfl
theorem mi_tab_ipA_4 : ∀ e ∈ ([(188, (1, 4, sb_188))] : mi_T), sc_P e.1 = some e.2 := mi_tb mi_P188 (mi_tb_e)
set_option maxRecDepth 20000 in
theorem ms_ipA_4 {h : sm_H} {d : Nat} {Q : Option mi_V → sm_H → Prop} (hS : ab_Sh sx_sk h)  (ho : ((mi_f h 14001) ≠ ((1 : Int))) ∧ ((mi_f h 14001) ≠ ((2 : Int))) ∧ ((mi_f h 14001) ≠ ((3 : Int))) ∧ ((mi_f h 14001) ≠ ((4 : Int))) ∧ ((mi_f h 14001) = ((40 : Int))) ∧ (((1 : Int)) = 0 ∨ ((1 : Int)) = 1)) (kon : ∀ h1, me_W [] h h1 → Q (some (.inl ((1 : Int)))) h1) : me_E (d + 1) 188 0 [some (.inr (.inr 109))] [] h Q := me_seg (mp_ipA_4 h d ) (mi_tab_ipA_4) hS (mi_okL_c (trivial) (mi_okL_e)) (mi_okS_e) (mi_al (ho.1) (mi_al (ho.2.1) (mi_al (ho.2.2.1) (mi_al (ho.2.2.2.1) (mi_al (ho.2.2.2.2.1) (mi_al_e)))))) (fun h1 W _ hst => me_ret (M := (1, 4, sb_188)) rfl rfl rfl hst (mi_al (ho.2.2.2.2.2) mi_al_e) (kon h1 W))
set_option maxRecDepth 20000 in
theorem mp_ipA_5 (h : sm_H) (d : Nat) : mi_path [(188, (1, 4, sb_188))] sx_sk h 6 [0] (d + 1, 188, 0, [some (.inr (.inr 109))], [], [], []) = some ((d + 1, 188, 12, [some (.inr (.inr 109))], [.inr (.inl (mx_l h 14004))], [], []), [(mi_f h 14001) = ((1 : Int))]) := rfl
theorem mi_tab_ipA_5 : ∀ e ∈ ([(188, (1, 4, sb_188))] : mi_T), sc_P e.1 = some e.2 := mi_tb mi_P188 (mi_tb_e)
set_option maxRecDepth 20000 in
theorem ms_ipA_5 {h : sm_H} {d : Nat} {Q : Option mi_V → sm_H → Prop} (hS : ab_Sh sx_sk h)  (ho : ((mi_f h 14001) = ((1 : Int)))) (kon : ∀ h1, me_W [] h h1 → ∃ Q1, me_E (d + 0) 189 0 (mi_entry 2 [.inr (.inl (mx_l h 14004))]) [] h1 Q1 ∧ ∀ w h2, (∀ x, w = some x → mi_ok x) → Q1 w h2 → me_E (d + 1) 188 15 [some (.inr (.inr 109))] (mi_back w []) h2 Q) : me_E (d + 1) 188 0 [some (.inr (.inr 109))] [] h Q := me_seg (mp_ipA_5 h d ) (mi_tab_ipA_5) hS (mi_okL_c (trivial) (mi_okL_e)) (mi_okS_e) (mi_al (ho) (mi_al_e)) (fun h1 W _ hst => let ⟨_, k1, k2⟩ := kon h1 W; me_call (M := (1, 4, sb_188)) (M' := (2, 1, sb_189)) rfl rfl rfl rfl (Nat.le_of_ble_eq_true rfl) (Nat.le_of_ble_eq_true rfl) W.1 k1 k2)
set_option maxRecDepth 20000 in
theorem mt_ipA {h : sm_H} {d : Nat} {Q : Option mi_V → sm_H → Prop} (hS : ab_Sh sx_sk h)  (k0 : ((-2147483648) ≤ mi_f h 14001 ∧ mi_f h 14001 ≤ 2147483647) → ((mi_f h 14001) ≠ ((1 : Int))) → ((mi_f h 14001) = ((2 : Int))) → (∀ h1, ab_Sh sx_sk h1 → ab_Fr [] h h1 → Q (some (.inl ((1 : Int)))) h1)) (k1 : ((-2147483648) ≤ mi_f h 14001 ∧ mi_f h 14001 ≤ 2147483647) → ((mi_f h 14001) ≠ ((1 : Int))) → ((mi_f h 14001) ≠ ((2 : Int))) → ((mi_f h 14001) = ((3 : Int))) → (∀ h1, ab_Sh sx_sk h1 → ab_Fr [] h h1 → Q (some (.inl ((1 : Int)))) h1)) (k2 : ((-2147483648) ≤ mi_f h 14001 ∧ mi_f h 14001 ≤ 2147483647) → ((mi_f h 14001) ≠ ((1 : Int))) → ((mi_f h 14001) ≠ ((2 : Int))) → ((mi_f h 14001) ≠ ((3 : Int))) → ((mi_f h 14001) = ((4 : Int))) → (∀ h1, ab_Sh sx_sk h1 → ab_Fr [] h h1 → Q (some (.inl ((1 : Int)))) h1)) (k3 : ((-2147483648) ≤ mi_f h 14001 ∧ mi_f h 14001 ≤ 2147483647) → ((mi_f h 14001) ≠ ((1 : Int))) → ((mi_f h 14001) ≠ ((2 : Int))) → ((mi_f h 14001) ≠ ((3 : Int))) → ((mi_f h 14001) ≠ ((4 : Int))) → ((mi_f h 14001) ≠ ((40 : Int))) → (∀ h1, ab_Sh sx_sk h1 → ab_Fr [] h h1 → Q (some (.inl ((0 : Int)))) h1)) (k4 : ((-2147483648) ≤ mi_f h 14001 ∧ mi_f h 14001 ≤ 2147483647) → ((mi_f h 14001) ≠ ((1 : Int))) → ((mi_f h 14001) ≠ ((2 : Int))) → ((mi_f h 14001) ≠ ((3 : Int))) → ((mi_f h 14001) ≠ ((4 : Int))) → ((mi_f h 14001) = ((40 : Int))) → (∀ h1, ab_Sh sx_sk h1 → ab_Fr [] h h1 → Q (some (.inl ((1 : Int)))) h1)) (k5 : ((-2147483648) ≤ mi_f h 14001 ∧ mi_f h 14001 ≤ 2147483647) → ((mi_f h 14001) = ((1 : Int))) → (∀ h1, ab_Sh sx_sk h1 → ab_Fr [] h h1 → ∃ Q1, me_E (d + 0) 189 0 (mi_entry 2 [.inr (.inl (mx_l h 14004))]) [] h1 Q1 ∧ ∀ w h2, (∀ x, w = some x → mi_ok x) → Q1 w h2 → me_E (d + 1) 188 15 [some (.inr (.inr 109))] (mi_back w []) h2 Q)) : me_E (d + 1) 188 0 [some (.inr (.inr 109))] [] h Q := Or.elim (mi_em .ne ((mi_f h 14001)) (((1 : Int)))) (fun c0 => Or.elim (mi_em .eq ((mi_f h 14001)) (((2 : Int)))) (fun c1 => ms_ipA_0 hS ⟨c0, c1, (by decide)⟩ (fun h1 W => (k0 (me_fb hS rfl) c0 c1) h1 W.1 (W.2.2.2.2.2 _ rfl))) (fun c1 => Or.elim (mi_em .eq ((mi_f h 14001)) (((3 : Int)))) (fun c2 => ms_ipA_1 hS ⟨c0, c1, c2, (by decide)⟩ (fun h1 W => (k1 (me_fb hS rfl) c0 c1 c2) h1 W.1 (W.2.2.2.2.2 _ rfl))) (fun c2 => Or.elim (mi_em .eq ((mi_f h 14001)) (((4 : Int)))) (fun c3 => ms_ipA_2 hS ⟨c0, c1, c2, c3, (by decide)⟩ (fun h1 W => (k2 (me_fb hS rfl) c0 c1 c2 c3) h1 W.1 (W.2.2.2.2.2 _ rfl))) (fun c3 => Or.elim (mi_em .ne ((mi_f h 14001)) (((40 : Int)))) (fun c4 => ms_ipA_3 hS ⟨c0, c1, c2, c3, c4, (by decide)⟩ (fun h1 W => (k3 (me_fb hS rfl) c0 c1 c2 c3 c4) h1 W.1 (W.2.2.2.2.2 _ rfl))) (fun c4 => ms_ipA_4 hS ⟨c0, c1, c2, c3, c4, (by decide)⟩ (fun h1 W => (k4 (me_fb hS rfl) c0 c1 c2 c3 c4) h1 W.1 (W.2.2.2.2.2 _ rfl))))))) (fun c0 => ms_ipA_5 hS (c0) (fun h1 W => (k5 (me_fb hS rfl) c0) h1 W.1 (W.2.2.2.2.2 _ rfl)))
set_option maxRecDepth 20000 in
theorem mp_ipB_0 (h : sm_H) (d : Nat) (zz : Int) : mi_path [(188, (1, 4, sb_188))] sx_sk h 3 [1] (d + 1, 188, 15, [some (.inr (.inr 109))], [.inl (zz)], [], []) = some ((d + 1, 188, 56, [some (.inr (.inr 109))], [.inl ((1 : Int))], [], []), [((0 : Int)) < zz]) := rfl
theorem mi_tab_ipB_0 : ∀ e ∈ ([(188, (1, 4, sb_188))] : mi_T), sc_P e.1 = some e.2 := mi_tb mi_P188 (mi_tb_e)
set_option maxRecDepth 20000 in
theorem ms_ipB_0 {h : sm_H} {d : Nat} {Q : Option mi_V → sm_H → Prop} {zz : Int} (hS : ab_Sh sx_sk h) (ok_zz : mi_in zz) (ho : (((0 : Int)) < zz) ∧ (((1 : Int)) = 0 ∨ ((1 : Int)) = 1)) (kon : ∀ h1, me_W [] h h1 → Q (some (.inl ((1 : Int)))) h1) : me_E (d + 1) 188 15 [some (.inr (.inr 109))] [.inl (zz)] h Q := me_seg (mp_ipB_0 h d zz) (mi_tab_ipB_0) hS (mi_okL_c (trivial) (mi_okL_e)) (mi_okS_cons (ok_zz) (mi_okS_e)) (mi_al (ho.1) (mi_al_e)) (fun h1 W _ hst => me_ret (M := (1, 4, sb_188)) rfl rfl rfl hst (mi_al (ho.2) mi_al_e) (kon h1 W))
set_option maxRecDepth 20000 in
theorem mp_ipB_1 (h : sm_H) (d : Nat) (zz : Int) : mi_path [(188, (1, 4, sb_188))] sx_sk h 7 [0, 1] (d + 1, 188, 15, [some (.inr (.inr 109))], [.inl (zz)], [], []) = some ((d + 1, 188, 56, [some (.inr (.inr 109))], [.inl ((1 : Int))], [], []), [zz ≤ ((0 : Int)), (mi_f h 14001) = ((2 : Int))]) := rfl
theorem mi_tab_ipB_1 : ∀ e ∈ ([(188, (1, 4, sb_188))] : mi_T), sc_P e.1 = some e.2 := mi_tb mi_P188 (mi_tb_e)
set_option maxRecDepth 20000 in
theorem ms_ipB_1 {h : sm_H} {d : Nat} {Q : Option mi_V → sm_H → Prop} {zz : Int} (hS : ab_Sh sx_sk h) (ok_zz : mi_in zz) (ho : (zz ≤ ((0 : Int))) ∧ ((mi_f h 14001) = ((2 : Int))) ∧ (((1 : Int)) = 0 ∨ ((1 : Int)) = 1)) (kon : ∀ h1, me_W [] h h1 → Q (some (.inl ((1 : Int)))) h1) : me_E (d + 1) 188 15 [some (.inr (.inr 109))] [.inl (zz)] h Q := me_seg (mp_ipB_1 h d zz) (mi_tab_ipB_1) hS (mi_okL_c (trivial) (mi_okL_e)) (mi_okS_cons (ok_zz) (mi_okS_e)) (mi_al (ho.1) (mi_al (ho.2.1) (mi_al_e))) (fun h1 W _ hst => me_ret (M := (1, 4, sb_188)) rfl rfl rfl hst (mi_al (ho.2.2) mi_al_e) (kon h1 W))
set_option maxRecDepth 20000 in
theorem mp_ipB_2 (h : sm_H) (d : Nat) (zz : Int) : mi_path [(188, (1, 4, sb_188))] sx_sk h 11 [0, 0, 1] (d + 1, 188, 15, [some (.inr (.inr 109))], [.inl (zz)], [], []) = some ((d + 1, 188, 56, [some (.inr (.inr 109))], [.inl ((1 : Int))], [], []), [zz ≤ ((0 : Int)), (mi_f h 14001) ≠ ((2 : Int)), (mi_f h 14001) = ((3 : Int))]) := rfl
theorem mi_tab_ipB_2 : ∀ e ∈ ([(188, (1, 4, sb_188))] : mi_T), sc_P e.1 = some e.2 := mi_tb mi_P188 (mi_tb_e)
set_option maxRecDepth 20000 in
theorem ms_ipB_2 {h : sm_H} {d : Nat} {Q : Option mi_V → sm_H → Prop} {zz : Int} (hS : ab_Sh sx_sk h) (ok_zz : mi_in zz) (ho : (zz ≤ ((0 : Int))) ∧ ((mi_f h 14001) ≠ ((2 : Int))) ∧ ((mi_f h 14001) = ((3 : Int))) ∧ (((1 : Int)) = 0 ∨ ((1 : Int)) = 1)) (kon : ∀ h1, me_W [] h h1 → Q (some (.inl ((1 : Int)))) h1) : me_E (d + 1) 188 15 [some (.inr (.inr 109))] [.inl (zz)] h Q := me_seg (mp_ipB_2 h d zz) (mi_tab_ipB_2) hS (mi_okL_c (trivial) (mi_okL_e)) (mi_okS_cons (ok_zz) (mi_okS_e)) (mi_al (ho.1) (mi_al (ho.2.1) (mi_al (ho.2.2.1) (mi_al_e)))) (fun h1 W _ hst => me_ret (M := (1, 4, sb_188)) rfl rfl rfl hst (mi_al (ho.2.2.2) mi_al_e) (kon h1 W))
set_option maxRecDepth 20000 in
theorem mp_ipB_3 (h : sm_H) (d : Nat) (zz : Int) : mi_path [(188, (1, 4, sb_188))] sx_sk h 15 [0, 0, 0, 1] (d + 1, 188, 15, [some (.inr (.inr 109))], [.inl (zz)], [], []) = some ((d + 1, 188, 56, [some (.inr (.inr 109))], [.inl ((1 : Int))], [], []), [zz ≤ ((0 : Int)), (mi_f h 14001) ≠ ((2 : Int)), (mi_f h 14001) ≠ ((3 : Int)), (mi_f h 14001) = ((4 : Int))]) := rfl
theorem mi_tab_ipB_3 : ∀ e ∈ ([(188, (1, 4, sb_188))] : mi_T), sc_P e.1 = some e.2 := mi_tb mi_P188 (mi_tb_e)
set_option maxRecDepth 20000 in
theorem ms_ipB_3 {h : sm_H} {d : Nat} {Q : Option mi_V → sm_H → Prop} {zz : Int} (hS : ab_Sh sx_sk h) (ok_zz : mi_in zz) (ho : (zz ≤ ((0 : Int))) ∧ ((mi_f h 14001) ≠ ((2 : Int))) ∧ ((mi_f h 14001) ≠ ((3 : Int))) ∧ ((mi_f h 14001) = ((4 : Int))) ∧ (((1 : Int)) = 0 ∨ ((1 : Int)) = 1)) (kon : ∀ h1, me_W [] h h1 → Q (some (.inl ((1 : Int)))) h1) : me_E (d + 1) 188 15 [some (.inr (.inr 109))] [.inl (zz)] h Q := me_seg (mp_ipB_3 h d zz) (mi_tab_ipB_3) hS (mi_okL_c (trivial) (mi_okL_e)) (mi_okS_cons (ok_zz) (mi_okS_e)) (mi_al (ho.1) (mi_al (ho.2.1) (mi_al (ho.2.2.1) (mi_al (ho.2.2.2.1) (mi_al_e))))) (fun h1 W _ hst => me_ret (M := (1, 4, sb_188)) rfl rfl rfl hst (mi_al (ho.2.2.2.2) mi_al_e) (kon h1 W))
set_option maxRecDepth 20000 in
theorem mp_ipB_4 (h : sm_H) (d : Nat) (zz : Int) : mi_path [(188, (1, 4, sb_188))] sx_sk h 18 [0, 0, 0, 0, 1] (d + 1, 188, 15, [some (.inr (.inr 109))], [.inl (zz)], [], []) = some ((d + 1, 188, 56, [some (.inr (.inr 109))], [.inl ((0 : Int))], [], []), [zz ≤ ((0 : Int)), (mi_f h 14001) ≠ ((2 : Int)), (mi_f h 14001) ≠ ((3 : Int)), (mi_f h 14001) ≠ ((4 : Int)), (mi_f h 14001) ≠ ((40 : Int))]) := rfl
theorem mi_tab_ipB_4 : ∀ e ∈ ([(188, (1, 4, sb_188))] : mi_T), sc_P e.1 = some e.2 := mi_tb mi_P188 (mi_tb_e)
set_option maxRecDepth 20000 in
theorem ms_ipB_4 {h : sm_H} {d : Nat} {Q : Option mi_V → sm_H → Prop} {zz : Int} (hS : ab_Sh sx_sk h) (ok_zz : mi_in zz) (ho : (zz ≤ ((0 : Int))) ∧ ((mi_f h 14001) ≠ ((2 : Int))) ∧ ((mi_f h 14001) ≠ ((3 : Int))) ∧ ((mi_f h 14001) ≠ ((4 : Int))) ∧ ((mi_f h 14001) ≠ ((40 : Int))) ∧ (((0 : Int)) = 0 ∨ ((0 : Int)) = 1)) (kon : ∀ h1, me_W [] h h1 → Q (some (.inl ((0 : Int)))) h1) : me_E (d + 1) 188 15 [some (.inr (.inr 109))] [.inl (zz)] h Q := me_seg (mp_ipB_4 h d zz) (mi_tab_ipB_4) hS (mi_okL_c (trivial) (mi_okL_e)) (mi_okS_cons (ok_zz) (mi_okS_e)) (mi_al (ho.1) (mi_al (ho.2.1) (mi_al (ho.2.2.1) (mi_al (ho.2.2.2.1) (mi_al (ho.2.2.2.2.1) (mi_al_e)))))) (fun h1 W _ hst => me_ret (M := (1, 4, sb_188)) rfl rfl rfl hst (mi_al (ho.2.2.2.2.2) mi_al_e) (kon h1 W))
set_option maxRecDepth 20000 in
theorem mp_ipB_5 (h : sm_H) (d : Nat) (zz : Int) : mi_path [(188, (1, 4, sb_188))] sx_sk h 19 [0, 0, 0, 0, 0] (d + 1, 188, 15, [some (.inr (.inr 109))], [.inl (zz)], [], []) = some ((d + 1, 188, 56, [some (.inr (.inr 109))], [.inl ((1 : Int))], [], []), [zz ≤ ((0 : Int)), (mi_f h 14001) ≠ ((2 : Int)), (mi_f h 14001) ≠ ((3 : Int)), (mi_f h 14001) ≠ ((4 : Int)), (mi_f h 14001) = ((40 : Int))]) := rfl
theorem mi_tab_ipB_5 : ∀ e ∈ ([(188, (1, 4, sb_188))] : mi_T), sc_P e.1 = some e.2 := mi_tb mi_P188 (mi_tb_e)
set_option maxRecDepth 20000 in
theorem ms_ipB_5 {h : sm_H} {d : Nat} {Q : Option mi_V → sm_H → Prop} {zz : Int} (hS : ab_Sh sx_sk h) (ok_zz : mi_in zz) (ho : (zz ≤ ((0 : Int))) ∧ ((mi_f h 14001) ≠ ((2 : Int))) ∧ ((mi_f h 14001) ≠ ((3 : Int))) ∧ ((mi_f h 14001) ≠ ((4 : Int))) ∧ ((mi_f h 14001) = ((40 : Int))) ∧ (((1 : Int)) = 0 ∨ ((1 : Int)) = 1)) (kon : ∀ h1, me_W [] h h1 → Q (some (.inl ((1 : Int)))) h1) : me_E (d + 1) 188 15 [some (.inr (.inr 109))] [.inl (zz)] h Q := me_seg (mp_ipB_5 h d zz) (mi_tab_ipB_5) hS (mi_okL_c (trivial) (mi_okL_e)) (mi_okS_cons (ok_zz) (mi_okS_e)) (mi_al (ho.1) (mi_al (ho.2.1) (mi_al (ho.2.2.1) (mi_al (ho.2.2.2.1) (mi_al (ho.2.2.2.2.1) (mi_al_e)))))) (fun h1 W _ hst => me_ret (M := (1, 4, sb_188)) rfl rfl rfl hst (mi_al (ho.2.2.2.2.2) mi_al_e) (kon h1 W))
set_option maxRecDepth 20000 in
theorem mt_ipB {h : sm_H} {d : Nat} {Q : Option mi_V → sm_H → Prop} {zz : Int} (hS : ab_Sh sx_sk h) (ok_zz : mi_in zz) (k0 : (((0 : Int)) < zz) → (∀ h1, ab_Sh sx_sk h1 → ab_Fr [] h h1 → Q (some (.inl ((1 : Int)))) h1)) (k1 : ((-2147483648) ≤ mi_f h 14001 ∧ mi_f h 14001 ≤ 2147483647) → (zz ≤ ((0 : Int))) → ((mi_f h 14001) = ((2 : Int))) → (∀ h1, ab_Sh sx_sk h1 → ab_Fr [] h h1 → Q (some (.inl ((1 : Int)))) h1)) (k2 : ((-2147483648) ≤ mi_f h 14001 ∧ mi_f h 14001 ≤ 2147483647) → (zz ≤ ((0 : Int))) → ((mi_f h 14001) ≠ ((2 : Int))) → ((mi_f h 14001) = ((3 : Int))) → (∀ h1, ab_Sh sx_sk h1 → ab_Fr [] h h1 → Q (some (.inl ((1 : Int)))) h1)) (k3 : ((-2147483648) ≤ mi_f h 14001 ∧ mi_f h 14001 ≤ 2147483647) → (zz ≤ ((0 : Int))) → ((mi_f h 14001) ≠ ((2 : Int))) → ((mi_f h 14001) ≠ ((3 : Int))) → ((mi_f h 14001) = ((4 : Int))) → (∀ h1, ab_Sh sx_sk h1 → ab_Fr [] h h1 → Q (some (.inl ((1 : Int)))) h1)) (k4 : ((-2147483648) ≤ mi_f h 14001 ∧ mi_f h 14001 ≤ 2147483647) → (zz ≤ ((0 : Int))) → ((mi_f h 14001) ≠ ((2 : Int))) → ((mi_f h 14001) ≠ ((3 : Int))) → ((mi_f h 14001) ≠ ((4 : Int))) → ((mi_f h 14001) ≠ ((40 : Int))) → (∀ h1, ab_Sh sx_sk h1 → ab_Fr [] h h1 → Q (some (.inl ((0 : Int)))) h1)) (k5 : ((-2147483648) ≤ mi_f h 14001 ∧ mi_f h 14001 ≤ 2147483647) → (zz ≤ ((0 : Int))) → ((mi_f h 14001) ≠ ((2 : Int))) → ((mi_f h 14001) ≠ ((3 : Int))) → ((mi_f h 14001) ≠ ((4 : Int))) → ((mi_f h 14001) = ((40 : Int))) → (∀ h1, ab_Sh sx_sk h1 → ab_Fr [] h h1 → Q (some (.inl ((1 : Int)))) h1)) : me_E (d + 1) 188 15 [some (.inr (.inr 109))] [.inl (zz)] h Q := Or.elim (mi_em .gt (zz) (((0 : Int)))) (fun c0 => ms_ipB_0 hS ok_zz ⟨c0, (by decide)⟩ (fun h1 W => (k0 c0) h1 W.1 (W.2.2.2.2.2 _ rfl))) (fun c0 => Or.elim (mi_em .eq ((mi_f h 14001)) (((2 : Int)))) (fun c1 => ms_ipB_1 hS ok_zz ⟨c0, c1, (by decide)⟩ (fun h1 W => (k1 (me_fb hS rfl) c0 c1) h1 W.1 (W.2.2.2.2.2 _ rfl))) (fun c1 => Or.elim (mi_em .eq ((mi_f h 14001)) (((3 : Int)))) (fun c2 => ms_ipB_2 hS ok_zz ⟨c0, c1, c2, (by decide)⟩ (fun h1 W => (k2 (me_fb hS rfl) c0 c1 c2) h1 W.1 (W.2.2.2.2.2 _ rfl))) (fun c2 => Or.elim (mi_em .eq ((mi_f h 14001)) (((4 : Int)))) (fun c3 => ms_ipB_3 hS ok_zz ⟨c0, c1, c2, c3, (by decide)⟩ (fun h1 W => (k3 (me_fb hS rfl) c0 c1 c2 c3) h1 W.1 (W.2.2.2.2.2 _ rfl))) (fun c3 => Or.elim (mi_em .ne ((mi_f h 14001)) (((40 : Int)))) (fun c4 => ms_ipB_4 hS ok_zz ⟨c0, c1, c2, c3, c4, (by decide)⟩ (fun h1 W => (k4 (me_fb hS rfl) c0 c1 c2 c3 c4) h1 W.1 (W.2.2.2.2.2 _ rfl))) (fun c4 => ms_ipB_5 hS ok_zz ⟨c0, c1, c2, c3, c4, (by decide)⟩ (fun h1 W => (k5 (me_fb hS rfl) c0 c1 c2 c3 c4) h1 W.1 (W.2.2.2.2.2 _ rfl)))))))
set_option maxRecDepth 20000 in
theorem mp_liteA_0 (h : sm_H) (d : Nat) : mi_path [(191, (2, 1, sb_191))] sx_sk h 2 [] (d, 191, 0, [some (.inr (.inr 109)), none], [], [], []) = some ((d, 191, 2, [some (.inr (.inr 109)), some (.inl ((0 : Int)))], [], [], []), []) := rfl
theorem mi_tab_liteA_0 : ∀ e ∈ ([(191, (2, 1, sb_191))] : mi_T), sc_P e.1 = some e.2 := mi_tb mi_P191 (mi_tb_e)
set_option maxRecDepth 20000 in
theorem ms_liteA_0 {h : sm_H} {d : Nat} {Q : Option mi_V → sm_H → Prop} (hS : ab_Sh sx_sk h)  (kon : ∀ h1, me_W [] h h1 → me_E (d) 191 2 [some (.inr (.inr 109)), some (.inl ((0 : Int)))] [] h1 Q) : me_E (d) 191 0 [some (.inr (.inr 109)), none] [] h Q := me_seg (mp_liteA_0 h d ) (mi_tab_liteA_0) hS (mi_okL_c (trivial) (mi_okL_n (mi_okL_e))) (mi_okS_e) (mi_al_e) (fun h1 W _ hst => kon h1 W)
set_option maxRecDepth 20000 in
theorem mt_liteA {h : sm_H} {d : Nat} {Q : Option mi_V → sm_H → Prop} (hS : ab_Sh sx_sk h)  (k0 : (∀ h1, ab_Sh sx_sk h1 → ab_Fr [] h h1 → me_E (d) 191 2 [some (.inr (.inr 109)), some (.inl ((0 : Int)))] [] h1 Q)) : me_E (d) 191 0 [some (.inr (.inr 109)), none] [] h Q := ms_liteA_0 hS (fun h1 W => (k0) h1 W.1 (W.2.2.2.2.2 _ rfl))
set_option maxRecDepth 20000 in
theorem mp_liteB_0 (h : sm_H) (d : Nat) (zk : Int) : mi_path [(191, (2, 1, sb_191))] sx_sk h 35 [1, 1, 1, 1, 8] (d, 191, 2, [some (.inr (.inr 109)), some (.inl (zk))], [], [], []) = some ((d, 191, 143, [some (.inr (.inr 109)), some (.inl (zk))], [.inl (mi_f h 13962)], [.inl (13962, (mi_f h 13962) + ((1 : Int))), .inr (.inr (.inl (117, Int.toNat (mi_f h 13962), (0 : Int)))), .inr (.inr (.inr (118, Int.toNat (mi_f h 13962), Int64.ofNat 0)))], []), [(mi_f h 13962) ≤ zk, (mi_f h 13962) ≠ ((20 : Int)), (mi_f h 14001) ≠ ((3 : Int)), 0 ≤ (mi_f h 13962) ∧ (mi_f h 13962) < 20, (-65536) ≤ (Int64.ofNat 0).toInt ∧ (Int64.ofNat 0).toInt ≤ 1073741823, (mi_f h 14001) ≠ ((4 : Int)), 0 ≤ (mi_f h 13962) ∧ (mi_f h 13962) < 20, -2147483648 ≤ (mi_f h 13962) + ((1 : Int)) ∧ (mi_f h 13962) + ((1 : Int)) ≤ 2147483647, 0 ≤ ((mi_f h 13962) + ((1 : Int))) ∧ ((mi_f h 13962) + ((1 : Int))) ≤ 20]) := rfl
theorem mi_tab_liteB_0 : ∀ e ∈ ([(191, (2, 1, sb_191))] : mi_T), sc_P e.1 = some e.2 := mi_tb mi_P191 (mi_tb_e)
set_option maxRecDepth 20000 in
theorem ms_liteB_0 {h : sm_H} {d : Nat} {Q : Option mi_V → sm_H → Prop} {zk : Int} (hS : ab_Sh sx_sk h) (ok_zk : mi_in zk) (ho : ((mi_f h 13962) ≤ zk) ∧ ((mi_f h 13962) ≠ ((20 : Int))) ∧ ((mi_f h 14001) ≠ ((3 : Int))) ∧ (0 ≤ (mi_f h 13962) ∧ (mi_f h 13962) < 20) ∧ ((-65536) ≤ (Int64.ofNat 0).toInt ∧ (Int64.ofNat 0).toInt ≤ 1073741823) ∧ ((mi_f h 14001) ≠ ((4 : Int))) ∧ (0 ≤ (mi_f h 13962) ∧ (mi_f h 13962) < 20) ∧ (-2147483648 ≤ (mi_f h 13962) + ((1 : Int)) ∧ (mi_f h 13962) + ((1 : Int)) ≤ 2147483647) ∧ (0 ≤ ((mi_f h 13962) + ((1 : Int))) ∧ ((mi_f h 13962) + ((1 : Int))) ≤ 20)) (kon : ∀ h1, me_W [.inl (13962, (mi_f h 13962) + ((1 : Int))), .inr (.inr (.inl (117, Int.toNat (mi_f h 13962), (0 : Int)))), .inr (.inr (.inr (118, Int.toNat (mi_f h 13962), Int64.ofNat 0)))] h h1 → Q (some (.inl (mi_f h 13962))) h1) : me_E (d) 191 2 [some (.inr (.inr 109)), some (.inl (zk))] [] h Q := me_seg (mp_liteB_0 h d zk) (mi_tab_liteB_0) hS (mi_okL_c (trivial) (mi_okL_c (ok_zk) (mi_okL_e))) (mi_okS_e) (mi_al (ho.1) (mi_al (ho.2.1) (mi_al (ho.2.2.1) (mi_al (ho.2.2.2.1) (mi_al (ho.2.2.2.2.1) (mi_al (ho.2.2.2.2.2.1) (mi_al (ho.2.2.2.2.2.2.1) (mi_al (ho.2.2.2.2.2.2.2.1) (mi_al (ho.2.2.2.2.2.2.2.2) (mi_al_e)))))))))) (fun h1 W _ hst => me_ret (M := (2, 1, sb_191)) rfl rfl rfl hst (mi_al_e) (kon h1 W))
set_option maxRecDepth 20000 in
theorem mp_liteB_1 (h : sm_H) (d : Nat) (zk : Int) : mi_path [(191, (2, 1, sb_191))] sx_sk h 38 [1, 1, 1, 0, 8] (d, 191, 2, [some (.inr (.inr 109)), some (.inl (zk))], [], [], []) = some ((d, 191, 143, [some (.inr (.inr 109)), some (.inl (zk))], [.inl (mi_f h 13962)], [.inl (13962, (mi_f h 13962) + ((1 : Int))), .inr (.inr (.inl (117, Int.toNat (mi_f h 13962), (mx_l h 14004).toInt32.toInt))), .inr (.inr (.inr (118, Int.toNat (mi_f h 13962), Int64.ofNat 0)))], []), [(mi_f h 13962) ≤ zk, (mi_f h 13962) ≠ ((20 : Int)), (mi_f h 14001) ≠ ((3 : Int)), 0 ≤ (mi_f h 13962) ∧ (mi_f h 13962) < 20, (-65536) ≤ (Int64.ofNat 0).toInt ∧ (Int64.ofNat 0).toInt ≤ 1073741823, (mi_f h 14001) = ((4 : Int)), 0 ≤ (mi_f h 13962) ∧ (mi_f h 13962) < 20, -2147483648 ≤ (mi_f h 13962) + ((1 : Int)) ∧ (mi_f h 13962) + ((1 : Int)) ≤ 2147483647, 0 ≤ ((mi_f h 13962) + ((1 : Int))) ∧ ((mi_f h 13962) + ((1 : Int))) ≤ 20]) := rfl
theorem mi_tab_liteB_1 : ∀ e ∈ ([(191, (2, 1, sb_191))] : mi_T), sc_P e.1 = some e.2 := mi_tb mi_P191 (mi_tb_e)
set_option maxRecDepth 20000 in
theorem ms_liteB_1 {h : sm_H} {d : Nat} {Q : Option mi_V → sm_H → Prop} {zk : Int} (hS : ab_Sh sx_sk h) (ok_zk : mi_in zk) (ho : ((mi_f h 13962) ≤ zk) ∧ ((mi_f h 13962) ≠ ((20 : Int))) ∧ ((mi_f h 14001) ≠ ((3 : Int))) ∧ (0 ≤ (mi_f h 13962) ∧ (mi_f h 13962) < 20) ∧ ((-65536) ≤ (Int64.ofNat 0).toInt ∧ (Int64.ofNat 0).toInt ≤ 1073741823) ∧ ((mi_f h 14001) = ((4 : Int))) ∧ (0 ≤ (mi_f h 13962) ∧ (mi_f h 13962) < 20) ∧ (-2147483648 ≤ (mi_f h 13962) + ((1 : Int)) ∧ (mi_f h 13962) + ((1 : Int)) ≤ 2147483647) ∧ (0 ≤ ((mi_f h 13962) + ((1 : Int))) ∧ ((mi_f h 13962) + ((1 : Int))) ≤ 20)) (kon : ∀ h1, me_W [.inl (13962, (mi_f h 13962) + ((1 : Int))), .inr (.inr (.inl (117, Int.toNat (mi_f h 13962), (mx_l h 14004).toInt32.toInt))), .inr (.inr (.inr (118, Int.toNat (mi_f h 13962), Int64.ofNat 0)))] h h1 → Q (some (.inl (mi_f h 13962))) h1) : me_E (d) 191 2 [some (.inr (.inr 109)), some (.inl (zk))] [] h Q := me_seg (mp_liteB_1 h d zk) (mi_tab_liteB_1) hS (mi_okL_c (trivial) (mi_okL_c (ok_zk) (mi_okL_e))) (mi_okS_e) (mi_al (ho.1) (mi_al (ho.2.1) (mi_al (ho.2.2.1) (mi_al (ho.2.2.2.1) (mi_al (ho.2.2.2.2.1) (mi_al (ho.2.2.2.2.2.1) (mi_al (ho.2.2.2.2.2.2.1) (mi_al (ho.2.2.2.2.2.2.2.1) (mi_al (ho.2.2.2.2.2.2.2.2) (mi_al_e)))))))))) (fun h1 W _ hst => me_ret (M := (2, 1, sb_191)) rfl rfl rfl hst (mi_al_e) (kon h1 W))
set_option maxRecDepth 20000 in
theorem mp_liteB_2 (h : sm_H) (d : Nat) (zk : Int) : mi_path [(191, (2, 1, sb_191))] sx_sk h 37 [1, 1, 0, 1, 8] (d, 191, 2, [some (.inr (.inr 109)), some (.inl (zk))], [], [], []) = some ((d, 191, 143, [some (.inr (.inr 109)), some (.inl (zk))], [.inl (mi_f h 13962)], [.inl (13962, (mi_f h 13962) + ((1 : Int))), .inr (.inr (.inl (117, Int.toNat (mi_f h 13962), (0 : Int)))), .inr (.inr (.inr (118, Int.toNat (mi_f h 13962), mx_l h 14004)))], []), [(mi_f h 13962) ≤ zk, (mi_f h 13962) ≠ ((20 : Int)), (mi_f h 14001) = ((3 : Int)), 0 ≤ (mi_f h 13962) ∧ (mi_f h 13962) < 20, (-65536) ≤ (mx_l h 14004).toInt ∧ (mx_l h 14004).toInt ≤ 1073741823, (mi_f h 14001) ≠ ((4 : Int)), 0 ≤ (mi_f h 13962) ∧ (mi_f h 13962) < 20, -2147483648 ≤ (mi_f h 13962) + ((1 : Int)) ∧ (mi_f h 13962) + ((1 : Int)) ≤ 2147483647, 0 ≤ ((mi_f h 13962) + ((1 : Int))) ∧ ((mi_f h 13962) + ((1 : Int))) ≤ 20]) := rfl
theorem mi_tab_liteB_2 : ∀ e ∈ ([(191, (2, 1, sb_191))] : mi_T), sc_P e.1 = some e.2 := mi_tb mi_P191 (mi_tb_e)
set_option maxRecDepth 20000 in
theorem ms_liteB_2 {h : sm_H} {d : Nat} {Q : Option mi_V → sm_H → Prop} {zk : Int} (hS : ab_Sh sx_sk h) (ok_zk : mi_in zk) (ho : ((mi_f h 13962) ≤ zk) ∧ ((mi_f h 13962) ≠ ((20 : Int))) ∧ ((mi_f h 14001) = ((3 : Int))) ∧ (0 ≤ (mi_f h 13962) ∧ (mi_f h 13962) < 20) ∧ ((-65536) ≤ (mx_l h 14004).toInt ∧ (mx_l h 14004).toInt ≤ 1073741823) ∧ ((mi_f h 14001) ≠ ((4 : Int))) ∧ (0 ≤ (mi_f h 13962) ∧ (mi_f h 13962) < 20) ∧ (-2147483648 ≤ (mi_f h 13962) + ((1 : Int)) ∧ (mi_f h 13962) + ((1 : Int)) ≤ 2147483647) ∧ (0 ≤ ((mi_f h 13962) + ((1 : Int))) ∧ ((mi_f h 13962) + ((1 : Int))) ≤ 20)) (kon : ∀ h1, me_W [.inl (13962, (mi_f h 13962) + ((1 : Int))), .inr (.inr (.inl (117, Int.toNat (mi_f h 13962), (0 : Int)))), .inr (.inr (.inr (118, Int.toNat (mi_f h 13962), mx_l h 14004)))] h h1 → Q (some (.inl (mi_f h 13962))) h1) : me_E (d) 191 2 [some (.inr (.inr 109)), some (.inl (zk))] [] h Q := me_seg (mp_liteB_2 h d zk) (mi_tab_liteB_2) hS (mi_okL_c (trivial) (mi_okL_c (ok_zk) (mi_okL_e))) (mi_okS_e) (mi_al (ho.1) (mi_al (ho.2.1) (mi_al (ho.2.2.1) (mi_al (ho.2.2.2.1) (mi_al (ho.2.2.2.2.1) (mi_al (ho.2.2.2.2.2.1) (mi_al (ho.2.2.2.2.2.2.1) (mi_al (ho.2.2.2.2.2.2.2.1) (mi_al (ho.2.2.2.2.2.2.2.2) (mi_al_e)))))))))) (fun h1 W _ hst => me_ret (M := (2, 1, sb_191)) rfl rfl rfl hst (mi_al_e) (kon h1 W))
set_option maxRecDepth 20000 in
theorem mp_liteB_3 (h : sm_H) (d : Nat) (zk : Int) : mi_path [(191, (2, 1, sb_191))] sx_sk h 40 [1, 1, 0, 0, 8] (d, 191, 2, [some (.inr (.inr 109)), some (.inl (zk))], [], [], []) = some ((d, 191, 143, [some (.inr (.inr 109)), some (.inl (zk))], [.inl (mi_f h 13962)], [.inl (13962, (mi_f h 13962) + ((1 : Int))), .inr (.inr (.inl (117, Int.toNat (mi_f h 13962), (mx_l h 14004).toInt32.toInt))), .inr (.inr (.inr (118, Int.toNat (mi_f h 13962), mx_l h 14004)))], []), [(mi_f h 13962) ≤ zk, (mi_f h 13962) ≠ ((20 : Int)), (mi_f h 14001) = ((3 : Int)), 0 ≤ (mi_f h 13962) ∧ (mi_f h 13962) < 20, (-65536) ≤ (mx_l h 14004).toInt ∧ (mx_l h 14004).toInt ≤ 1073741823, (mi_f h 14001) = ((4 : Int)), 0 ≤ (mi_f h 13962) ∧ (mi_f h 13962) < 20, -2147483648 ≤ (mi_f h 13962) + ((1 : Int)) ∧ (mi_f h 13962) + ((1 : Int)) ≤ 2147483647, 0 ≤ ((mi_f h 13962) + ((1 : Int))) ∧ ((mi_f h 13962) + ((1 : Int))) ≤ 20]) := rfl
theorem mi_tab_liteB_3 : ∀ e ∈ ([(191, (2, 1, sb_191))] : mi_T), sc_P e.1 = some e.2 := mi_tb mi_P191 (mi_tb_e)
set_option maxRecDepth 20000 in
theorem ms_liteB_3 {h : sm_H} {d : Nat} {Q : Option mi_V → sm_H → Prop} {zk : Int} (hS : ab_Sh sx_sk h) (ok_zk : mi_in zk) (ho : ((mi_f h 13962) ≤ zk) ∧ ((mi_f h 13962) ≠ ((20 : Int))) ∧ ((mi_f h 14001) = ((3 : Int))) ∧ (0 ≤ (mi_f h 13962) ∧ (mi_f h 13962) < 20) ∧ ((-65536) ≤ (mx_l h 14004).toInt ∧ (mx_l h 14004).toInt ≤ 1073741823) ∧ ((mi_f h 14001) = ((4 : Int))) ∧ (0 ≤ (mi_f h 13962) ∧ (mi_f h 13962) < 20) ∧ (-2147483648 ≤ (mi_f h 13962) + ((1 : Int)) ∧ (mi_f h 13962) + ((1 : Int)) ≤ 2147483647) ∧ (0 ≤ ((mi_f h 13962) + ((1 : Int))) ∧ ((mi_f h 13962) + ((1 : Int))) ≤ 20)) (kon : ∀ h1, me_W [.inl (13962, (mi_f h 13962) + ((1 : Int))), .inr (.inr (.inl (117, Int.toNat (mi_f h 13962), (mx_l h 14004).toInt32.toInt))), .inr (.inr (.inr (118, Int.toNat (mi_f h 13962), mx_l h 14004)))] h h1 → Q (some (.inl (mi_f h 13962))) h1) : me_E (d) 191 2 [some (.inr (.inr 109)), some (.inl (zk))] [] h Q := me_seg (mp_liteB_3 h d zk) (mi_tab_liteB_3) hS (mi_okL_c (trivial) (mi_okL_c (ok_zk) (mi_okL_e))) (mi_okS_e) (mi_al (ho.1) (mi_al (ho.2.1) (mi_al (ho.2.2.1) (mi_al (ho.2.2.2.1) (mi_al (ho.2.2.2.2.1) (mi_al (ho.2.2.2.2.2.1) (mi_al (ho.2.2.2.2.2.2.1) (mi_al (ho.2.2.2.2.2.2.2.1) (mi_al (ho.2.2.2.2.2.2.2.2) (mi_al_e)))))))))) (fun h1 W _ hst => me_ret (M := (2, 1, sb_191)) rfl rfl rfl hst (mi_al_e) (kon h1 W))
set_option maxRecDepth 20000 in
theorem mp_liteB_4 (h : sm_H) (d : Nat) (zk : Int) : mi_path [(191, (2, 1, sb_191))] sx_sk h 9 [1, 0] (d, 191, 2, [some (.inr (.inr 109)), some (.inl (zk))], [], [], []) = some ((d, 191, 80, [some (.inr (.inr 109)), some (.inl (zk))], [.inl ((20 : Int))], [], []), [(mi_f h 13962) ≤ zk, (mi_f h 13962) = ((20 : Int))]) := rfl
theorem mi_tab_liteB_4 : ∀ e ∈ ([(191, (2, 1, sb_191))] : mi_T), sc_P e.1 = some e.2 := mi_tb mi_P191 (mi_tb_e)
set_option maxRecDepth 20000 in
theorem ms_liteB_4 {h : sm_H} {d : Nat} {Q : Option mi_V → sm_H → Prop} {zk : Int} (hS : ab_Sh sx_sk h) (ok_zk : mi_in zk) (ho : ((mi_f h 13962) ≤ zk) ∧ ((mi_f h 13962) = ((20 : Int)))) (kon : ∀ h1, me_W [] h h1 → Q (some (.inl ((20 : Int)))) h1) : me_E (d) 191 2 [some (.inr (.inr 109)), some (.inl (zk))] [] h Q := me_seg (mp_liteB_4 h d zk) (mi_tab_liteB_4) hS (mi_okL_c (trivial) (mi_okL_c (ok_zk) (mi_okL_e))) (mi_okS_e) (mi_al (ho.1) (mi_al (ho.2) (mi_al_e))) (fun h1 W _ hst => me_ret (M := (2, 1, sb_191)) rfl rfl rfl hst (mi_al_e) (kon h1 W))
set_option maxRecDepth 20000 in
theorem mp_liteB_5 (h : sm_H) (d : Nat) (zk : Int) : mi_path [(191, (2, 1, sb_191))] sx_sk h 17 [0, 1, 1] (d, 191, 2, [some (.inr (.inr 109)), some (.inl (zk))], [], [], []) = some ((d, 191, 2, [some (.inr (.inr 109)), some (.inl (zk + 1))], [], [], []), [zk < (mi_f h 13962), (mi_f h 14001) ≠ ((3 : Int)), 0 ≤ zk ∧ zk < 20, ((lg_cmp (mx_b h 118 (Int.toNat zk)) (Int64.ofNat 0)).toInt) ≠ ((0 : Int)), -2147483648 ≤ zk + 1 ∧ zk + 1 ≤ 2147483647]) := rfl
theorem mi_tab_liteB_5 : ∀ e ∈ ([(191, (2, 1, sb_191))] : mi_T), sc_P e.1 = some e.2 := mi_tb mi_P191 (mi_tb_e)
set_option maxRecDepth 20000 in
theorem ms_liteB_5 {h : sm_H} {d : Nat} {Q : Option mi_V → sm_H → Prop} {zk : Int} (hS : ab_Sh sx_sk h) (ok_zk : mi_in zk) (ho : (zk < (mi_f h 13962)) ∧ ((mi_f h 14001) ≠ ((3 : Int))) ∧ (0 ≤ zk ∧ zk < 20) ∧ (((lg_cmp (mx_b h 118 (Int.toNat zk)) (Int64.ofNat 0)).toInt) ≠ ((0 : Int))) ∧ (-2147483648 ≤ zk + 1 ∧ zk + 1 ≤ 2147483647)) (kon : ∀ h1, me_W [] h h1 → me_E (d) 191 2 [some (.inr (.inr 109)), some (.inl (zk + 1))] [] h1 Q) : me_E (d) 191 2 [some (.inr (.inr 109)), some (.inl (zk))] [] h Q := me_seg (mp_liteB_5 h d zk) (mi_tab_liteB_5) hS (mi_okL_c (trivial) (mi_okL_c (ok_zk) (mi_okL_e))) (mi_okS_e) (mi_al (ho.1) (mi_al (ho.2.1) (mi_al (ho.2.2.1) (mi_al (ho.2.2.2.1) (mi_al (ho.2.2.2.2) (mi_al_e)))))) (fun h1 W _ hst => kon h1 W)
set_option maxRecDepth 20000 in
theorem mp_liteB_6 (h : sm_H) (d : Nat) (zk : Int) : mi_path [(191, (2, 1, sb_191))] sx_sk h 26 [0, 1, 0, 1] (d, 191, 2, [some (.inr (.inr 109)), some (.inl (zk))], [], [], []) = some ((d, 191, 2, [some (.inr (.inr 109)), some (.inl (zk + 1))], [], [], []), [zk < (mi_f h 13962), (mi_f h 14001) ≠ ((3 : Int)), 0 ≤ zk ∧ zk < 20, ((lg_cmp (mx_b h 118 (Int.toNat zk)) (Int64.ofNat 0)).toInt) = ((0 : Int)), 0 ≤ zk ∧ zk < 20, ((lg_cmp ((Int32.ofInt (mi_a h 117 (Int.toNat zk))).toInt64) (mx_l h 14004)).toInt) ≠ ((0 : Int)), -2147483648 ≤ zk + 1 ∧ zk + 1 ≤ 2147483647]) := rfl
theorem mi_tab_liteB_6 : ∀ e ∈ ([(191, (2, 1, sb_191))] : mi_T), sc_P e.1 = some e.2 := mi_tb mi_P191 (mi_tb_e)
set_option maxRecDepth 20000 in
theorem ms_liteB_6 {h : sm_H} {d : Nat} {Q : Option mi_V → sm_H → Prop} {zk : Int} (hS : ab_Sh sx_sk h) (ok_zk : mi_in zk) (ho : (zk < (mi_f h 13962)) ∧ ((mi_f h 14001) ≠ ((3 : Int))) ∧ (0 ≤ zk ∧ zk < 20) ∧ (((lg_cmp (mx_b h 118 (Int.toNat zk)) (Int64.ofNat 0)).toInt) = ((0 : Int))) ∧ (0 ≤ zk ∧ zk < 20) ∧ (((lg_cmp ((Int32.ofInt (mi_a h 117 (Int.toNat zk))).toInt64) (mx_l h 14004)).toInt) ≠ ((0 : Int))) ∧ (-2147483648 ≤ zk + 1 ∧ zk + 1 ≤ 2147483647)) (kon : ∀ h1, me_W [] h h1 → me_E (d) 191 2 [some (.inr (.inr 109)), some (.inl (zk + 1))] [] h1 Q) : me_E (d) 191 2 [some (.inr (.inr 109)), some (.inl (zk))] [] h Q := me_seg (mp_liteB_6 h d zk) (mi_tab_liteB_6) hS (mi_okL_c (trivial) (mi_okL_c (ok_zk) (mi_okL_e))) (mi_okS_e) (mi_al (ho.1) (mi_al (ho.2.1) (mi_al (ho.2.2.1) (mi_al (ho.2.2.2.1) (mi_al (ho.2.2.2.2.1) (mi_al (ho.2.2.2.2.2.1) (mi_al (ho.2.2.2.2.2.2) (mi_al_e)))))))) (fun h1 W _ hst => kon h1 W)
set_option maxRecDepth 20000 in
theorem mp_liteB_7 (h : sm_H) (d : Nat) (zk : Int) : mi_path [(191, (2, 1, sb_191))] sx_sk h 25 [0, 1, 0, 0] (d, 191, 2, [some (.inr (.inr 109)), some (.inl (zk))], [], [], []) = some ((d, 191, 62, [some (.inr (.inr 109)), some (.inl (zk))], [.inl (zk)], [], []), [zk < (mi_f h 13962), (mi_f h 14001) ≠ ((3 : Int)), 0 ≤ zk ∧ zk < 20, ((lg_cmp (mx_b h 118 (Int.toNat zk)) (Int64.ofNat 0)).toInt) = ((0 : Int)), 0 ≤ zk ∧ zk < 20, ((lg_cmp ((Int32.ofInt (mi_a h 117 (Int.toNat zk))).toInt64) (mx_l h 14004)).toInt) = ((0 : Int))]) := rfl
theorem mi_tab_liteB_7 : ∀ e ∈ ([(191, (2, 1, sb_191))] : mi_T), sc_P e.1 = some e.2 := mi_tb mi_P191 (mi_tb_e)
set_option maxRecDepth 20000 in
theorem ms_liteB_7 {h : sm_H} {d : Nat} {Q : Option mi_V → sm_H → Prop} {zk : Int} (hS : ab_Sh sx_sk h) (ok_zk : mi_in zk) (ho : (zk < (mi_f h 13962)) ∧ ((mi_f h 14001) ≠ ((3 : Int))) ∧ (0 ≤ zk ∧ zk < 20) ∧ (((lg_cmp (mx_b h 118 (Int.toNat zk)) (Int64.ofNat 0)).toInt) = ((0 : Int))) ∧ (0 ≤ zk ∧ zk < 20) ∧ (((lg_cmp ((Int32.ofInt (mi_a h 117 (Int.toNat zk))).toInt64) (mx_l h 14004)).toInt) = ((0 : Int)))) (kon : ∀ h1, me_W [] h h1 → Q (some (.inl (zk))) h1) : me_E (d) 191 2 [some (.inr (.inr 109)), some (.inl (zk))] [] h Q := me_seg (mp_liteB_7 h d zk) (mi_tab_liteB_7) hS (mi_okL_c (trivial) (mi_okL_c (ok_zk) (mi_okL_e))) (mi_okS_e) (mi_al (ho.1) (mi_al (ho.2.1) (mi_al (ho.2.2.1) (mi_al (ho.2.2.2.1) (mi_al (ho.2.2.2.2.1) (mi_al (ho.2.2.2.2.2) (mi_al_e))))))) (fun h1 W _ hst => me_ret (M := (2, 1, sb_191)) rfl rfl rfl hst (mi_al_e) (kon h1 W))
set_option maxRecDepth 20000 in
theorem mp_liteB_8 (h : sm_H) (d : Nat) (zk : Int) : mi_path [(191, (2, 1, sb_191))] sx_sk h 18 [0, 0, 1] (d, 191, 2, [some (.inr (.inr 109)), some (.inl (zk))], [], [], []) = some ((d, 191, 2, [some (.inr (.inr 109)), some (.inl (zk + 1))], [], [], []), [zk < (mi_f h 13962), (mi_f h 14001) = ((3 : Int)), 0 ≤ zk ∧ zk < 20, ((lg_cmp (mx_b h 118 (Int.toNat zk)) (mx_l h 14004)).toInt) ≠ ((0 : Int)), -2147483648 ≤ zk + 1 ∧ zk + 1 ≤ 2147483647]) := rfl
theorem mi_tab_liteB_8 : ∀ e ∈ ([(191, (2, 1, sb_191))] : mi_T), sc_P e.1 = some e.2 := mi_tb mi_P191 (mi_tb_e)
set_option maxRecDepth 20000 in
theorem ms_liteB_8 {h : sm_H} {d : Nat} {Q : Option mi_V → sm_H → Prop} {zk : Int} (hS : ab_Sh sx_sk h) (ok_zk : mi_in zk) (ho : (zk < (mi_f h 13962)) ∧ ((mi_f h 14001) = ((3 : Int))) ∧ (0 ≤ zk ∧ zk < 20) ∧ (((lg_cmp (mx_b h 118 (Int.toNat zk)) (mx_l h 14004)).toInt) ≠ ((0 : Int))) ∧ (-2147483648 ≤ zk + 1 ∧ zk + 1 ≤ 2147483647)) (kon : ∀ h1, me_W [] h h1 → me_E (d) 191 2 [some (.inr (.inr 109)), some (.inl (zk + 1))] [] h1 Q) : me_E (d) 191 2 [some (.inr (.inr 109)), some (.inl (zk))] [] h Q := me_seg (mp_liteB_8 h d zk) (mi_tab_liteB_8) hS (mi_okL_c (trivial) (mi_okL_c (ok_zk) (mi_okL_e))) (mi_okS_e) (mi_al (ho.1) (mi_al (ho.2.1) (mi_al (ho.2.2.1) (mi_al (ho.2.2.2.1) (mi_al (ho.2.2.2.2) (mi_al_e)))))) (fun h1 W _ hst => kon h1 W)
set_option maxRecDepth 20000 in
theorem mp_liteB_9 (h : sm_H) (d : Nat) (zk : Int) : mi_path [(191, (2, 1, sb_191))] sx_sk h 18 [0, 0, 0] (d, 191, 2, [some (.inr (.inr 109)), some (.inl (zk))], [], [], []) = some ((d, 191, 62, [some (.inr (.inr 109)), some (.inl (zk))], [.inl (zk)], [], []), [zk < (mi_f h 13962), (mi_f h 14001) = ((3 : Int)), 0 ≤ zk ∧ zk < 20, ((lg_cmp (mx_b h 118 (Int.toNat zk)) (mx_l h 14004)).toInt) = ((0 : Int))]) := rfl
theorem mi_tab_liteB_9 : ∀ e ∈ ([(191, (2, 1, sb_191))] : mi_T), sc_P e.1 = some e.2 := mi_tb mi_P191 (mi_tb_e)
set_option maxRecDepth 20000 in
theorem ms_liteB_9 {h : sm_H} {d : Nat} {Q : Option mi_V → sm_H → Prop} {zk : Int} (hS : ab_Sh sx_sk h) (ok_zk : mi_in zk) (ho : (zk < (mi_f h 13962)) ∧ ((mi_f h 14001) = ((3 : Int))) ∧ (0 ≤ zk ∧ zk < 20) ∧ (((lg_cmp (mx_b h 118 (Int.toNat zk)) (mx_l h 14004)).toInt) = ((0 : Int)))) (kon : ∀ h1, me_W [] h h1 → Q (some (.inl (zk))) h1) : me_E (d) 191 2 [some (.inr (.inr 109)), some (.inl (zk))] [] h Q := me_seg (mp_liteB_9 h d zk) (mi_tab_liteB_9) hS (mi_okL_c (trivial) (mi_okL_c (ok_zk) (mi_okL_e))) (mi_okS_e) (mi_al (ho.1) (mi_al (ho.2.1) (mi_al (ho.2.2.1) (mi_al (ho.2.2.2) (mi_al_e))))) (fun h1 W _ hst => me_ret (M := (2, 1, sb_191)) rfl rfl rfl hst (mi_al_e) (kon h1 W))
set_option maxRecDepth 20000 in
theorem mt_liteB {h : sm_H} {d : Nat} {Q : Option mi_V → sm_H → Prop} {zk : Int} (hS : ab_Sh sx_sk h) (ok_zk : mi_in zk) (k0 : (0 ≤ mi_f h 13962 ∧ mi_f h 13962 ≤ 20) → ((-2147483648) ≤ mi_f h 14001 ∧ mi_f h 14001 ≤ 2147483647) → ((mi_f h 13962) ≤ zk) → ((mi_f h 13962) ≠ ((20 : Int))) → ((mi_f h 14001) ≠ ((3 : Int))) → ((mi_f h 14001) ≠ ((4 : Int))) → ((0 ≤ (mi_f h 13962) ∧ (mi_f h 13962) < 20) ∧ (-2147483648 ≤ (mi_f h 13962) + ((1 : Int)) ∧ (mi_f h 13962) + ((1 : Int)) ≤ 2147483647) ∧ (0 ≤ ((mi_f h 13962) + ((1 : Int))) ∧ ((mi_f h 13962) + ((1 : Int))) ≤ 20)) ∧ (∀ h1, ab_Sh sx_sk h1 → mi_f h1 13962 = (mi_f h 13962) + ((1 : Int)) → (∀ i, mi_a h1 117 i = if i = Int.toNat (mi_f h 13962) then (0 : Int) else (mi_a h 117 i)) → (∀ i, mx_b h1 118 i = if i = Int.toNat (mi_f h 13962) then Int64.ofNat 0 else (mx_b h 118 i)) → ab_Fr [(13962, 13963), (14976, 14977), (15104, 15105)] h h1 → Q (some (.inl (mi_f h 13962))) h1)) (k1 : (0 ≤ mi_f h 13962 ∧ mi_f h 13962 ≤ 20) → ((-2147483648) ≤ mi_f h 14001 ∧ mi_f h 14001 ≤ 2147483647) → ((mi_f h 13962) ≤ zk) → ((mi_f h 13962) ≠ ((20 : Int))) → ((mi_f h 14001) ≠ ((3 : Int))) → ((mi_f h 14001) = ((4 : Int))) → ((0 ≤ (mi_f h 13962) ∧ (mi_f h 13962) < 20) ∧ (-2147483648 ≤ (mi_f h 13962) + ((1 : Int)) ∧ (mi_f h 13962) + ((1 : Int)) ≤ 2147483647) ∧ (0 ≤ ((mi_f h 13962) + ((1 : Int))) ∧ ((mi_f h 13962) + ((1 : Int))) ≤ 20)) ∧ (∀ h1, ab_Sh sx_sk h1 → mi_f h1 13962 = (mi_f h 13962) + ((1 : Int)) → (∀ i, mi_a h1 117 i = if i = Int.toNat (mi_f h 13962) then (mx_l h 14004).toInt32.toInt else (mi_a h 117 i)) → (∀ i, mx_b h1 118 i = if i = Int.toNat (mi_f h 13962) then Int64.ofNat 0 else (mx_b h 118 i)) → ab_Fr [(13962, 13963), (14976, 14977), (15104, 15105)] h h1 → Q (some (.inl (mi_f h 13962))) h1)) (k2 : (0 ≤ mi_f h 13962 ∧ mi_f h 13962 ≤ 20) → ((-2147483648) ≤ mi_f h 14001 ∧ mi_f h 14001 ≤ 2147483647) → ((mi_f h 13962) ≤ zk) → ((mi_f h 13962) ≠ ((20 : Int))) → ((mi_f h 14001) = ((3 : Int))) → ((mi_f h 14001) ≠ ((4 : Int))) → ((0 ≤ (mi_f h 13962) ∧ (mi_f h 13962) < 20) ∧ ((-65536) ≤ (mx_l h 14004).toInt ∧ (mx_l h 14004).toInt ≤ 1073741823) ∧ (-2147483648 ≤ (mi_f h 13962) + ((1 : Int)) ∧ (mi_f h 13962) + ((1 : Int)) ≤ 2147483647) ∧ (0 ≤ ((mi_f h 13962) + ((1 : Int))) ∧ ((mi_f h 13962) + ((1 : Int))) ≤ 20)) ∧ (∀ h1, ab_Sh sx_sk h1 → mi_f h1 13962 = (mi_f h 13962) + ((1 : Int)) → (∀ i, mi_a h1 117 i = if i = Int.toNat (mi_f h 13962) then (0 : Int) else (mi_a h 117 i)) → (∀ i, mx_b h1 118 i = if i = Int.toNat (mi_f h 13962) then mx_l h 14004 else (mx_b h 118 i)) → ab_Fr [(13962, 13963), (14976, 14977), (15104, 15105)] h h1 → Q (some (.inl (mi_f h 13962))) h1)) (k3 : (0 ≤ mi_f h 13962 ∧ mi_f h 13962 ≤ 20) → ((-2147483648) ≤ mi_f h 14001 ∧ mi_f h 14001 ≤ 2147483647) → ((mi_f h 13962) ≤ zk) → ((mi_f h 13962) ≠ ((20 : Int))) → ((mi_f h 14001) = ((3 : Int))) → ((mi_f h 14001) = ((4 : Int))) → ((0 ≤ (mi_f h 13962) ∧ (mi_f h 13962) < 20) ∧ ((-65536) ≤ (mx_l h 14004).toInt ∧ (mx_l h 14004).toInt ≤ 1073741823) ∧ (-2147483648 ≤ (mi_f h 13962) + ((1 : Int)) ∧ (mi_f h 13962) + ((1 : Int)) ≤ 2147483647) ∧ (0 ≤ ((mi_f h 13962) + ((1 : Int))) ∧ ((mi_f h 13962) + ((1 : Int))) ≤ 20)) ∧ (∀ h1, ab_Sh sx_sk h1 → mi_f h1 13962 = (mi_f h 13962) + ((1 : Int)) → (∀ i, mi_a h1 117 i = if i = Int.toNat (mi_f h 13962) then (mx_l h 14004).toInt32.toInt else (mi_a h 117 i)) → (∀ i, mx_b h1 118 i = if i = Int.toNat (mi_f h 13962) then mx_l h 14004 else (mx_b h 118 i)) → ab_Fr [(13962, 13963), (14976, 14977), (15104, 15105)] h h1 → Q (some (.inl (mi_f h 13962))) h1)) (k4 : (0 ≤ mi_f h 13962 ∧ mi_f h 13962 ≤ 20) → ((mi_f h 13962) ≤ zk) → ((mi_f h 13962) = ((20 : Int))) → (∀ h1, ab_Sh sx_sk h1 → ab_Fr [] h h1 → Q (some (.inl ((20 : Int)))) h1)) (k5 : (0 ≤ mi_f h 13962 ∧ mi_f h 13962 ≤ 20) → ((-2147483648) ≤ mi_f h 14001 ∧ mi_f h 14001 ≤ 2147483647) → (zk < (mi_f h 13962)) → ((mi_f h 14001) ≠ ((3 : Int))) → (((lg_cmp (mx_b h 118 (Int.toNat zk)) (Int64.ofNat 0)).toInt) ≠ ((0 : Int))) → ((0 ≤ zk ∧ zk < 20) ∧ (-2147483648 ≤ zk + 1 ∧ zk + 1 ≤ 2147483647)) ∧ (∀ h1, ab_Sh sx_sk h1 → ab_Fr [] h h1 → me_E (d) 191 2 [some (.inr (.inr 109)), some (.inl (zk + 1))] [] h1 Q)) (k6 : (0 ≤ mi_f h 13962 ∧ mi_f h 13962 ≤ 20) → ((-2147483648) ≤ mi_f h 14001 ∧ mi_f h 14001 ≤ 2147483647) → (zk < (mi_f h 13962)) → ((mi_f h 14001) ≠ ((3 : Int))) → (((lg_cmp (mx_b h 118 (Int.toNat zk)) (Int64.ofNat 0)).toInt) = ((0 : Int))) → (((lg_cmp ((Int32.ofInt (mi_a h 117 (Int.toNat zk))).toInt64) (mx_l h 14004)).toInt) ≠ ((0 : Int))) → ((0 ≤ zk ∧ zk < 20) ∧ (-2147483648 ≤ zk + 1 ∧ zk + 1 ≤ 2147483647)) ∧ (∀ h1, ab_Sh sx_sk h1 → ab_Fr [] h h1 → me_E (d) 191 2 [some (.inr (.inr 109)), some (.inl (zk + 1))] [] h1 Q)) (k7 : (0 ≤ mi_f h 13962 ∧ mi_f h 13962 ≤ 20) → ((-2147483648) ≤ mi_f h 14001 ∧ mi_f h 14001 ≤ 2147483647) → (zk < (mi_f h 13962)) → ((mi_f h 14001) ≠ ((3 : Int))) → (((lg_cmp (mx_b h 118 (Int.toNat zk)) (Int64.ofNat 0)).toInt) = ((0 : Int))) → (((lg_cmp ((Int32.ofInt (mi_a h 117 (Int.toNat zk))).toInt64) (mx_l h 14004)).toInt) = ((0 : Int))) → ((0 ≤ zk ∧ zk < 20)) ∧ (∀ h1, ab_Sh sx_sk h1 → ab_Fr [] h h1 → Q (some (.inl (zk))) h1)) (k8 : (0 ≤ mi_f h 13962 ∧ mi_f h 13962 ≤ 20) → ((-2147483648) ≤ mi_f h 14001 ∧ mi_f h 14001 ≤ 2147483647) → (zk < (mi_f h 13962)) → ((mi_f h 14001) = ((3 : Int))) → (((lg_cmp (mx_b h 118 (Int.toNat zk)) (mx_l h 14004)).toInt) ≠ ((0 : Int))) → ((0 ≤ zk ∧ zk < 20) ∧ (-2147483648 ≤ zk + 1 ∧ zk + 1 ≤ 2147483647)) ∧ (∀ h1, ab_Sh sx_sk h1 → ab_Fr [] h h1 → me_E (d) 191 2 [some (.inr (.inr 109)), some (.inl (zk + 1))] [] h1 Q)) (k9 : (0 ≤ mi_f h 13962 ∧ mi_f h 13962 ≤ 20) → ((-2147483648) ≤ mi_f h 14001 ∧ mi_f h 14001 ≤ 2147483647) → (zk < (mi_f h 13962)) → ((mi_f h 14001) = ((3 : Int))) → (((lg_cmp (mx_b h 118 (Int.toNat zk)) (mx_l h 14004)).toInt) = ((0 : Int))) → ((0 ≤ zk ∧ zk < 20)) ∧ (∀ h1, ab_Sh sx_sk h1 → ab_Fr [] h h1 → Q (some (.inl (zk))) h1)) : me_E (d) 191 2 [some (.inr (.inr 109)), some (.inl (zk))] [] h Q := Or.elim (mi_em .ge (zk) ((mi_f h 13962))) (fun c0 => Or.elim (mi_em .ne ((mi_f h 13962)) (((20 : Int)))) (fun c1 => Or.elim (mi_em .ne ((mi_f h 14001)) (((3 : Int)))) (fun c2 => Or.elim (mi_em .ne ((mi_f h 14001)) (((4 : Int)))) (fun c3 => ms_liteB_0 hS ok_zk ⟨c0, c1, c2, (k0 (me_fb hS rfl) (me_fb hS rfl) c0 c1 c2 c3).1.1, (by decide), c3, (k0 (me_fb hS rfl) (me_fb hS rfl) c0 c1 c2 c3).1.1, (k0 (me_fb hS rfl) (me_fb hS rfl) c0 c1 c2 c3).1.2.1, (k0 (me_fb hS rfl) (me_fb hS rfl) c0 c1 c2 c3).1.2.2⟩ (fun h1 W => (k0 (me_fb hS rfl) (me_fb hS rfl) c0 c1 c2 c3).2 h1 W.1 (W.2.1 13962) (fun i => W.2.2.1 117 i) (fun i => W.2.2.2.2.1 118 i) (W.2.2.2.2.2 _ rfl))) (fun c3 => ms_liteB_1 hS ok_zk ⟨c0, c1, c2, (k1 (me_fb hS rfl) (me_fb hS rfl) c0 c1 c2 c3).1.1, (by decide), c3, (k1 (me_fb hS rfl) (me_fb hS rfl) c0 c1 c2 c3).1.1, (k1 (me_fb hS rfl) (me_fb hS rfl) c0 c1 c2 c3).1.2.1, (k1 (me_fb hS rfl) (me_fb hS rfl) c0 c1 c2 c3).1.2.2⟩ (fun h1 W => (k1 (me_fb hS rfl) (me_fb hS rfl) c0 c1 c2 c3).2 h1 W.1 (W.2.1 13962) (fun i => W.2.2.1 117 i) (fun i => W.2.2.2.2.1 118 i) (W.2.2.2.2.2 _ rfl)))) (fun c2 => Or.elim (mi_em .ne ((mi_f h 14001)) (((4 : Int)))) (fun c3 => ms_liteB_2 hS ok_zk ⟨c0, c1, c2, (k2 (me_fb hS rfl) (me_fb hS rfl) c0 c1 c2 c3).1.1, (k2 (me_fb hS rfl) (me_fb hS rfl) c0 c1 c2 c3).1.2.1, c3, (k2 (me_fb hS rfl) (me_fb hS rfl) c0 c1 c2 c3).1.1, (k2 (me_fb hS rfl) (me_fb hS rfl) c0 c1 c2 c3).1.2.2.1, (k2 (me_fb hS rfl) (me_fb hS rfl) c0 c1 c2 c3).1.2.2.2⟩ (fun h1 W => (k2 (me_fb hS rfl) (me_fb hS rfl) c0 c1 c2 c3).2 h1 W.1 (W.2.1 13962) (fun i => W.2.2.1 117 i) (fun i => W.2.2.2.2.1 118 i) (W.2.2.2.2.2 _ rfl))) (fun c3 => ms_liteB_3 hS ok_zk ⟨c0, c1, c2, (k3 (me_fb hS rfl) (me_fb hS rfl) c0 c1 c2 c3).1.1, (k3 (me_fb hS rfl) (me_fb hS rfl) c0 c1 c2 c3).1.2.1, c3, (k3 (me_fb hS rfl) (me_fb hS rfl) c0 c1 c2 c3).1.1, (k3 (me_fb hS rfl) (me_fb hS rfl) c0 c1 c2 c3).1.2.2.1, (k3 (me_fb hS rfl) (me_fb hS rfl) c0 c1 c2 c3).1.2.2.2⟩ (fun h1 W => (k3 (me_fb hS rfl) (me_fb hS rfl) c0 c1 c2 c3).2 h1 W.1 (W.2.1 13962) (fun i => W.2.2.1 117 i) (fun i => W.2.2.2.2.1 118 i) (W.2.2.2.2.2 _ rfl))))) (fun c1 => ms_liteB_4 hS ok_zk ⟨c0, c1⟩ (fun h1 W => (k4 (me_fb hS rfl) c0 c1) h1 W.1 (W.2.2.2.2.2 _ rfl)))) (fun c0 => Or.elim (mi_em .ne ((mi_f h 14001)) (((3 : Int)))) (fun c1 => Or.elim (mi_em .ne (((lg_cmp (mx_b h 118 (Int.toNat zk)) (Int64.ofNat 0)).toInt)) (((0 : Int)))) (fun c2 => ms_liteB_5 hS ok_zk ⟨c0, c1, (k5 (me_fb hS rfl) (me_fb hS rfl) c0 c1 c2).1.1, c2, (k5 (me_fb hS rfl) (me_fb hS rfl) c0 c1 c2).1.2⟩ (fun h1 W => (k5 (me_fb hS rfl) (me_fb hS rfl) c0 c1 c2).2 h1 W.1 (W.2.2.2.2.2 _ rfl))) (fun c2 => Or.elim (mi_em .ne (((lg_cmp ((Int32.ofInt (mi_a h 117 (Int.toNat zk))).toInt64) (mx_l h 14004)).toInt)) (((0 : Int)))) (fun c3 => ms_liteB_6 hS ok_zk ⟨c0, c1, (k6 (me_fb hS rfl) (me_fb hS rfl) c0 c1 c2 c3).1.1, c2, (k6 (me_fb hS rfl) (me_fb hS rfl) c0 c1 c2 c3).1.1, c3, (k6 (me_fb hS rfl) (me_fb hS rfl) c0 c1 c2 c3).1.2⟩ (fun h1 W => (k6 (me_fb hS rfl) (me_fb hS rfl) c0 c1 c2 c3).2 h1 W.1 (W.2.2.2.2.2 _ rfl))) (fun c3 => ms_liteB_7 hS ok_zk ⟨c0, c1, (k7 (me_fb hS rfl) (me_fb hS rfl) c0 c1 c2 c3).1, c2, (k7 (me_fb hS rfl) (me_fb hS rfl) c0 c1 c2 c3).1, c3⟩ (fun h1 W => (k7 (me_fb hS rfl) (me_fb hS rfl) c0 c1 c2 c3).2 h1 W.1 (W.2.2.2.2.2 _ rfl))))) (fun c1 => Or.elim (mi_em .ne (((lg_cmp (mx_b h 118 (Int.toNat zk)) (mx_l h 14004)).toInt)) (((0 : Int)))) (fun c2 => ms_liteB_8 hS ok_zk ⟨c0, c1, (k8 (me_fb hS rfl) (me_fb hS rfl) c0 c1 c2).1.1, c2, (k8 (me_fb hS rfl) (me_fb hS rfl) c0 c1 c2).1.2⟩ (fun h1 W => (k8 (me_fb hS rfl) (me_fb hS rfl) c0 c1 c2).2 h1 W.1 (W.2.2.2.2.2 _ rfl))) (fun c2 => ms_liteB_9 hS ok_zk ⟨c0, c1, (k9 (me_fb hS rfl) (me_fb hS rfl) c0 c1 c2).1, c2⟩ (fun h1 W => (k9 (me_fb hS rfl) (me_fb hS rfl) c0 c1 c2).2 h1 W.1 (W.2.2.2.2.2 _ rfl)))))
/-! the reference: sortOf, isPart, literal, exactly -/
theorem lg_cmpn {x y : Int64} (h : (lg_cmp x y).toInt ≠ 0) : x.toInt ≠ y.toInt := fun e => by
  have : x = y := Int64.toInt_inj.mp e
  subst this
  apply h
  unfold lg_cmp
  simp
/-- the sort of a word; none is -1 -/
def so_r (v : Int) : Int := if v = 609302190 then 1 else if v = 177198 then 2 else if v = 26886565 then 3 else if v = 11994498 then 4 else if v = 178476 then 5 else if v = 609752228 then 6 else if v = 363554 then 7 else -1
theorem so_rc (v : Int) : so_c v = if so_r v = -1 then 12 else so_r v := by
  unfold so_c so_r
  split
  · rfl
  split
  · rfl
  split
  · rfl
  split
  · rfl
  split
  · rfl
  split
  · rfl
  split
  · rfl
  · rfl
section RSX
variable {d : Nat} {h : sm_H}
theorem me_sortx {x : Int64} (hS : ab_Sh sx_sk h) : me_E d 189 0 [some (.inr (.inl x)), none] [] h (fun w h' => h' = h ∧ w = some (.inl (so_r x.toInt))) := by
  have n1 : (Int64.ofNat 609302190).toInt = 609302190 := rfl
  have n2 : (Int64.ofNat 177198).toInt = 177198 := rfl
  have n3 : (Int64.ofNat 26886565).toInt = 26886565 := rfl
  have n4 : (Int64.ofNat 11994498).toInt = 11994498 := rfl
  have n5 : (Int64.ofNat 178476).toInt = 178476 := rfl
  have n6 : (Int64.ofNat 609752228).toInt = 609752228 := rfl
  have n7 : (Int64.ofNat 363554).toInt = 363554 := rfl
  have N : ∀ {c : Int64} {z : Int}, c.toInt = z → (lg_cmp x c).toInt ≠ 0 → ¬ x.toInt = z := fun {c z} e hc => by rw [← e]; exact lg_cmpn hc
  have E : ∀ {c : Int64} {z : Int}, c.toInt = z → (lg_cmp x c).toInt = 0 → x.toInt = z := fun {c z} e hc => by rw [lg_cmp0 hc, e]
  refine mt_soA hS ?_ ?_ ?_ ?_ ?_ ?_ ?_ ?_
  · intro c1 c2 c3 c4 c5 c6 c7 h1 g1 g2
    exact ⟨me_nil g2, by unfold so_r; rw [if_neg (N n1 c1), if_neg (N n2 c2), if_neg (N n3 c3), if_neg (N n4 c4), if_neg (N n5 c5), if_neg (N n6 c6), if_neg (N n7 c7)]⟩
  · intro c1 c2 c3 c4 c5 c6 c7 h1 g1 g2
    exact ⟨me_nil g2, by unfold so_r; rw [if_neg (N n1 c1), if_neg (N n2 c2), if_neg (N n3 c3), if_neg (N n4 c4), if_neg (N n5 c5), if_neg (N n6 c6), if_pos (E n7 c7)]⟩
  · intro c1 c2 c3 c4 c5 c6 h1 g1 g2
    exact ⟨me_nil g2, by unfold so_r; rw [if_neg (N n1 c1), if_neg (N n2 c2), if_neg (N n3 c3), if_neg (N n4 c4), if_neg (N n5 c5), if_pos (E n6 c6)]⟩
  · intro c1 c2 c3 c4 c5 h1 g1 g2
    exact ⟨me_nil g2, by unfold so_r; rw [if_neg (N n1 c1), if_neg (N n2 c2), if_neg (N n3 c3), if_neg (N n4 c4), if_pos (E n5 c5)]⟩
  · intro c1 c2 c3 c4 h1 g1 g2
    exact ⟨me_nil g2, by unfold so_r; rw [if_neg (N n1 c1), if_neg (N n2 c2), if_neg (N n3 c3), if_pos (E n4 c4)]⟩
  · intro c1 c2 c3 h1 g1 g2
    exact ⟨me_nil g2, by unfold so_r; rw [if_neg (N n1 c1), if_neg (N n2 c2), if_pos (E n3 c3)]⟩
  · intro c1 c2 h1 g1 g2
    exact ⟨me_nil g2, by unfold so_r; rw [if_neg (N n1 c1), if_pos (E n2 c2)]⟩
  · intro c1 h1 g1 g2
    exact ⟨me_nil g2, by unfold so_r; rw [if_pos (E n1 c1)]⟩
/-- a part begins with this token -/
def ip_t (t v : Int) : Prop := (t = 1 ∧ 0 < so_r v) ∨ t = 2 ∨ t = 3 ∨ t = 4 ∨ t = 40
theorem me_isPartx (hS : ab_Sh sx_sk h) : me_E (d + 1) 188 0 [some (.inr (.inr 109))] [] h (fun w h' => h' = h ∧ ∃ z, w = some (.inl z) ∧ (z = 0 ∨ z = 1) ∧ (z = 1 ↔ ip_t (mi_f h 14001) (mx_l h 14004).toInt)) := by
  unfold ip_t
  refine mt_ipA hS ?_ ?_ ?_ ?_ ?_ ?_
  · intro b c1 c2 h1 g1 g2
    exact ⟨me_nil g2, 1, rfl, Or.inr rfl, by omega⟩
  · intro b c1 c2 c3 h1 g1 g2
    exact ⟨me_nil g2, 1, rfl, Or.inr rfl, by omega⟩
  · intro b c1 c2 c3 c4 h1 g1 g2
    exact ⟨me_nil g2, 1, rfl, Or.inr rfl, by omega⟩
  · intro b c1 c2 c3 c4 c5 h1 g1 g2
    exact ⟨me_nil g2, 0, rfl, Or.inl rfl, by omega⟩
  · intro b c1 c2 c3 c4 c5 h1 g1 g2
    exact ⟨me_nil g2, 1, rfl, Or.inr rfl, by omega⟩
  · intro b c1 h1 g1 g2
    have e := me_nil g2
    subst e
    refine ⟨_, me_sortx (d := d) hS, fun w h2 ow hq => ?_⟩
    obtain ⟨rfl, rfl⟩ := hq
    have os : mi_in (so_r (mx_l h2 14004).toInt) := ow _ rfl
    refine mt_ipB hS os ?_ ?_ ?_ ?_ ?_ ?_
    · intro c h3 g1 g2
      exact ⟨me_nil g2, 1, rfl, Or.inr rfl, by omega⟩
    · intro b2 c c2; exfalso; omega
    · intro b2 c c2 c3; exfalso; omega
    · intro b2 c c2 c3 c4; exfalso; omega
    · intro b2 c c2 c3 c4 c5 h3 g1 g2
      exact ⟨me_nil g2, 0, rfl, Or.inl rfl, by omega⟩
    · intro b2 c c2 c3 c4 c5; exfalso; omega
/-- the code of a literal, as the class has it -/
def lc_r (h : sm_H) (k : Nat) : Int := if (mx_b h 118 k).toInt = 0 then -(mi_a h 117 k) else (mx_b h 118 k).toInt
/-- the literals that are there -/
def lc_ok (h : sm_H) : Prop := ∀ k : Nat, (k : Int) < mi_f h 13962 → 0 ≤ (mx_b h 118 k).toInt ∧ 1 ≤ mi_a h 117 k + (mx_b h 118 k).toInt ∧ 0 ≤ mi_a h 117 k
def lc_t (t v : Int) : Int := if t = 3 then v else -v
def lt_Q (h : sm_H) (w : Option mi_V) (h' : sm_H) : Prop := ab_Sh sx_sk h' ∧ ab_Fr lt_W h h' ∧ ∃ z, w = some (.inl z) ∧
  ((0 ≤ z ∧ z < mi_f h 13962 ∧ lc_r h z.toNat = lc_t (mi_f h 14001) (mx_l h 14004).toInt ∧ (∀ j : Nat, (j : Int) < z → lc_r h j ≠ lc_t (mi_f h 14001) (mx_l h 14004).toInt) ∧ h' = h) ∨
   ((∀ j : Nat, (j : Int) < mi_f h 13962 → lc_r h j ≠ lc_t (mi_f h 14001) (mx_l h 14004).toInt) ∧ ((mi_f h 13962 = 20 ∧ z = 20 ∧ h' = h) ∨ (mi_f h 13962 < 20 ∧ z = mi_f h 13962 ∧ mi_f h' 13962 = mi_f h 13962 + 1 ∧ lc_ok h' ∧ ∀ i, lc_r h' i = if i = (mi_f h 13962).toNat then lc_t (mi_f h 14001) (mx_l h 14004).toInt else lc_r h i))))
theorem lite2 (hS : ab_Sh sx_sk h) (hl : lc_ok h) (ht : (mi_f h 14001 = 3 ∧ 1 ≤ (mx_l h 14004).toInt ∧ (mx_l h 14004).toInt ≤ 1073741823) ∨ (mi_f h 14001 = 4 ∧ 1 ≤ (mx_l h 14004).toInt ∧ (mx_l h 14004).toInt ≤ 255)) : ∀ (N : Nat) (zk : Int), 20 - zk < N → 0 ≤ zk → zk ≤ 20 → (∀ j : Nat, (j : Int) < zk → lc_r h j ≠ lc_t (mi_f h 14001) (mx_l h 14004).toInt) → me_E d 191 2 [some (.inr (.inr 109)), some (.inl zk)] [] h (lt_Q h) := by
  have bl := me_fb (c := 13962) hS rfl
  have z0 : (Int64.ofNat 0).toInt = 0 := rfl
  have sg : ∀ k : Nat, mi_in (mi_a h 117 k) := fun k => mi_inT _
  have es : ∀ k : Nat, ((Int32.ofInt (mi_a h 117 k)).toInt64).toInt = mi_a h 117 k := fun k => by rw [Int32.toInt_toInt64, mi_ti (sg k)]
  have e32 : mi_f h 14001 = 4 → (mx_l h 14004).toInt32.toInt = (mx_l h 14004).toInt := fun c => by
    rw [Int64.toInt_toInt32]
    exact Int.bmod_eq_of_le (by omega) (by omega)
  intro N
  induction N with
  | zero => intro zk hN k0 k1; exfalso; omega
  | succ N ih =>
    intro zk hN k0 k1 hn
    have ok : mi_in zk := ⟨by omega, by omega⟩
    have new : ∀ {h1 : sm_H} {s : Int} {k : Int64}, mi_f h 13962 ≤ zk → mi_f h 13962 ≠ 20 → ab_Sh sx_sk h1 → mi_f h1 13962 = mi_f h 13962 + 1 → (∀ i, mi_a h1 117 i = if i = (mi_f h 13962).toNat then s else mi_a h 117 i) → (∀ i, mx_b h1 118 i = if i = (mi_f h 13962).toNat then k else mx_b h 118 i) → (0 ≤ k.toInt ∧ 1 ≤ s + k.toInt ∧ 0 ≤ s) → (if k.toInt = 0 then -s else k.toInt) = lc_t (mi_f h 14001) (mx_l h 14004).toInt → ab_Fr lt_W h h1 → lt_Q h (some (.inl (mi_f h 13962))) h1 := fun {h1 s k} c c2 g1 g2 g3 g4 g5 g6 g7 => by
      refine ⟨g1, g7, mi_f h 13962, rfl, Or.inr ⟨fun j hj => hn j (by omega), Or.inr ⟨by omega, rfl, g2, fun i hi => ?_, fun i => ?_⟩⟩⟩
      · rw [g3, g4]
        by_cases e : i = (mi_f h 13962).toNat
        · rw [if_pos e, if_pos e]
          exact g5
        · rw [if_neg e, if_neg e]
          exact hl i (by omega)
      · unfold lc_r
        rw [g3, g4]
        by_cases e : i = (mi_f h 13962).toNat
        · rw [if_pos e, if_pos e, if_pos e]
          exact g6
        · rw [if_neg e, if_neg e, if_neg e]
    have nx : zk < mi_f h 13962 → ¬ (lc_r h zk.toNat = lc_t (mi_f h 14001) (mx_l h 14004).toInt) → ∀ h1, ab_Sh sx_sk h1 → ab_Fr [] h h1 → me_E d 191 2 [some (.inr (.inr 109)), some (.inl (zk + 1))] [] h1 (lt_Q h) := fun cl hc h1 g1 g2 => by
      have e := me_nil g2
      subst e
      refine ih (zk + 1) (by omega) (by omega) (by omega) (fun j hj => ?_)
      by_cases e : (j : Int) = zk
      · rw [show j = zk.toNat by omega]
        exact hc
      · exact hn j (by omega)
    have fd : zk < mi_f h 13962 → lc_r h zk.toNat = lc_t (mi_f h 14001) (mx_l h 14004).toInt → ∀ h1, ab_Sh sx_sk h1 → ab_Fr [] h h1 → lt_Q h (some (.inl zk)) h1 := fun c hc h1 g1 g2 => by
      have e := me_nil g2
      subst e
      exact ⟨hS, ab_Fr.refl, zk, rfl, Or.inl ⟨k0, c, hc, hn, rfl⟩⟩
    refine mt_liteB hS ok ?_ ?_ ?_ ?_ ?_ ?_ ?_ ?_ ?_ ?_
    · intro b b2 c c2 c3 c4; exfalso; omega
    · intro b b2 c c2 c3 c4
      refine ⟨⟨⟨by omega, by omega⟩, ⟨by omega, by omega⟩, ⟨by omega, by omega⟩⟩, fun h1 g1 g2 g3 g4 g5 => new c c2 g1 g2 g3 g4 ⟨by rw [z0]; decide, by rw [z0, e32 c4]; omega, by rw [e32 c4]; omega⟩ ?_ (g5.wide (fun c hc => ab_swr_ok (by decide) hc))⟩
      rw [z0, if_pos rfl, e32 c4]
      unfold lc_t
      rw [if_neg c3]
    · intro b b2 c c2 c3 c4
      refine ⟨⟨⟨by omega, by omega⟩, by omega, ⟨by omega, by omega⟩, ⟨by omega, by omega⟩⟩, fun h1 g1 g2 g3 g4 g5 => new c c2 g1 g2 g3 g4 ⟨by omega, by omega, by decide⟩ ?_ (g5.wide (fun c hc => ab_swr_ok (by decide) hc))⟩
      unfold lc_t
      rw [if_neg (by omega), if_pos c3]
    · intro b b2 c c2 c3 c4; exfalso; omega
    · intro b c c2 h1 g1 g2
      have e := me_nil g2
      subst e
      exact ⟨hS, ab_Fr.refl, 20, rfl, Or.inr ⟨fun j hj => hn j (by omega), Or.inl ⟨c2, rfl, rfl⟩⟩⟩
    · intro b b2 c c2 c3
      refine ⟨⟨⟨by omega, by omega⟩, ⟨by omega, by omega⟩⟩, nx c (fun x => ?_)⟩
      have y := lg_cmpn c3
      rw [z0] at y
      have := hl zk.toNat (by omega)
      unfold lc_r lc_t at x
      rw [if_neg y, if_neg c2] at x
      omega
    · intro b b2 c c2 c3 c4
      refine ⟨⟨⟨by omega, by omega⟩, ⟨by omega, by omega⟩⟩, nx c (fun x => ?_)⟩
      have y : (mx_b h 118 zk.toNat).toInt = 0 := by rw [lg_cmp0 c3]; rfl
      have y2 := lg_cmpn c4
      rw [es] at y2
      unfold lc_r lc_t at x
      rw [if_pos y, if_neg c2] at x
      omega
    · intro b b2 c c2 c3 c4
      refine ⟨⟨by omega, by omega⟩, fd c ?_⟩
      have y : (mx_b h 118 zk.toNat).toInt = 0 := by rw [lg_cmp0 c3]; rfl
      have y2 : mi_a h 117 zk.toNat = (mx_l h 14004).toInt := by
        rw [← es, lg_cmp0 c4]
      unfold lc_r lc_t
      rw [if_pos y, if_neg c2, y2]
    · intro b b2 c c2 c3
      refine ⟨⟨⟨by omega, by omega⟩, ⟨by omega, by omega⟩⟩, nx c (fun x => ?_)⟩
      have y := lg_cmpn c3
      have := hl zk.toNat (by omega)
      unfold lc_r lc_t at x
      rw [if_pos c2] at x
      split at x <;> omega
    · intro b b2 c c2 c3
      refine ⟨⟨by omega, by omega⟩, fd c ?_⟩
      have y : (mx_b h 118 zk.toNat).toInt = (mx_l h 14004).toInt := by rw [lg_cmp0 c3]
      unfold lc_r lc_t
      rw [if_neg (by omega), if_pos c2, y]
theorem me_literalx (hS : ab_Sh sx_sk h) (hl : lc_ok h) (ht : (mi_f h 14001 = 3 ∧ 1 ≤ (mx_l h 14004).toInt ∧ (mx_l h 14004).toInt ≤ 1073741823) ∨ (mi_f h 14001 = 4 ∧ 1 ≤ (mx_l h 14004).toInt ∧ (mx_l h 14004).toInt ≤ 255)) : me_E d 191 0 [some (.inr (.inr 109)), none] [] h (lt_Q h) := by
  refine mt_liteA hS (fun h1 g1 g2 => ?_)
  have e := me_nil g2
  subst e
  exact lite2 hS hl ht 22 0 (by decide) (by decide) (by decide) (fun j hj => by omega)
end RSX
