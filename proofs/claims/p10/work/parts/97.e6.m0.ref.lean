/-! the reference's node, set, carry, keep, exactly -/
theorem lgt9 (x y : Int64) : (y.toInt < x.toInt ∧ (lg_cmp x y).toInt = 1) ∨ (x.toInt = y.toInt ∧ (lg_cmp x y).toInt = 0) ∨ (x.toInt < y.toInt ∧ (lg_cmp x y).toInt = -1) := by
  unfold lg_cmp
  split
  · next hc =>
    rw [gt_iff_lt, Int64.lt_iff_toInt_lt] at hc
    exact Or.inl ⟨hc, by decide⟩
  · next hc =>
    rw [gt_iff_lt, Int64.lt_iff_toInt_lt] at hc
    split
    · next e =>
      subst e
      exact Or.inr (Or.inl ⟨rfl, by decide⟩)
    · next e =>
      have : x.toInt ≠ y.toInt := fun q => e (Int64.toInt_inj.mp q)
      exact Or.inr (Or.inr ⟨by omega, by decide⟩)
theorem lg_n31 {x : Int64} (h : 0 ≤ x.toInt) : (x &&& (Int64.ofNat 31)).toInt = x.toInt % 32 := by
  have toN : ∀ {a : Int64}, 0 ≤ a.toInt → (a.toBitVec.toNat : Int) = a.toInt := fun {a} h0 => by
    have e2 : a.toBitVec.toInt = a.toInt := rfl
    have e3 := BitVec.toInt_eq_toNat_cond a.toBitVec
    have e4 := a.toBitVec.isLt
    split at e3 <;> omega
  have n1 := toN h
  have e31 : (Int64.ofNat 31).toBitVec.toNat = 31 := by decide
  have main : (x &&& (Int64.ofNat 31)).toBitVec.toNat = x.toBitVec.toNat % 32 := by
    rw [Int64.toBitVec_and, BitVec.toNat_and, e31]
    exact Nat.and_two_pow_sub_one_eq_mod _ 5
  show (x &&& (Int64.ofNat 31)).toBitVec.toInt = _
  rw [BitVec.toInt_eq_toNat_of_lt (by rw [main]; omega), main]
  omega
/-- the level of a node -/
def lvl (T : List (Int × Int × Int)) (k : Nat) : Int := match T[k]? with
  | some x => x.2.2
  | none => 0
/-- the node that a node is in -/
def nd_p (T : List (Int × Int × Int)) (k : Nat) (j : Int) : Prop := -1 ≤ j ∧ j < (k : Int) ∧ (∀ i : Nat, j < (i : Int) → i < k → lvl T k ≤ lvl T i) ∧ (0 ≤ j → lvl T j.toNat < lvl T k)
theorem nd_p_u {T : List (Int × Int × Int)} {k : Nat} {j j' : Int} (a : nd_p T k j) (b : nd_p T k j') : j = j' := by
  obtain ⟨a1, a2, a3, a4⟩ := a
  obtain ⟨b1, b2, b3, b4⟩ := b
  rcases Int.lt_trichotomy j j' with c | c | c
  · have p := a3 j'.toNat (by omega) (by omega)
    have q := b4 (by omega)
    omega
  · exact c
  · have p := b3 j.toNat (by omega) (by omega)
    have q := a4 (by omega)
    omega
/-- how many nodes are in a node -/
def nd_s (T : List (Int × Int × Int)) (k : Nat) (m : Int) : Prop := 0 ≤ m ∧ (k : Int) + m < (T.length : Int) ∧ (∀ i : Nat, k < i → (i : Int) ≤ (k : Int) + m → lvl T k < lvl T i) ∧ ((k : Int) + m + 1 < (T.length : Int) → lvl T ((k : Int) + m + 1).toNat ≤ lvl T k)
theorem nd_s_u {T : List (Int × Int × Int)} {k : Nat} {m m' : Int} (a : nd_s T k m) (b : nd_s T k m') : m = m' := by
  obtain ⟨a1, a2, a3, a4⟩ := a
  obtain ⟨b1, b2, b3, b4⟩ := b
  rcases Int.lt_trichotomy m m' with c | c | c
  · have p := a4 (by omega)
    have q := b3 ((k : Int) + m + 1).toNat (by omega) (by omega)
    omega
  · exact c
  · have p := b4 (by omega)
    have q := a3 ((k : Int) + m' + 1).toNat (by omega) (by omega)
    omega
/-- what node answers -/
def nd_v (T : List (Int × Int × Int)) (k : Nat) (zw z : Int) : Prop := (zw = 0 ∧ ∃ x, T[k]? = some x ∧ z = x.1 % 10) ∨ (zw = 1 ∧ ∃ x, T[k]? = some x ∧ z = x.2.1) ∨ (zw = 2 ∧ nd_p T k z) ∨ (zw = 3 ∧ nd_s T k z)
theorem nd_v_u {T : List (Int × Int × Int)} {k : Nat} {zw z z' : Int} (a : nd_v T k zw z) (b : nd_v T k zw z') : z = z' := by
  rcases a with ⟨a0, x, a1, a2⟩ | ⟨a0, x, a1, a2⟩ | ⟨a0, a⟩ | ⟨a0, a⟩
  · rcases b with ⟨b0, y, b1, b2⟩ | ⟨b0, y, b1, b2⟩ | ⟨b0, b⟩ | ⟨b0, b⟩
    · rw [a1] at b1
      have e := Option.some.inj b1
      rw [a2, b2, e]
    all_goals omega
  · rcases b with ⟨b0, y, b1, b2⟩ | ⟨b0, y, b1, b2⟩ | ⟨b0, b⟩ | ⟨b0, b⟩
    · omega
    · rw [a1] at b1
      have e := Option.some.inj b1
      rw [a2, b2, e]
    all_goals omega
  · rcases b with ⟨b0, y, b1, b2⟩ | ⟨b0, y, b1, b2⟩ | ⟨b0, b⟩ | ⟨b0, b⟩
    · omega
    · omega
    · exact nd_p_u a b
    · omega
  · rcases b with ⟨b0, y, b1, b2⟩ | ⟨b0, y, b1, b2⟩ | ⟨b0, b⟩ | ⟨b0, b⟩
    · omega
    · omega
    · omega
    · exact nd_s_u a b
theorem gs_lvl {h : sm_H} {T : List (Int × Int × Int)} (hT : gs_T h T) {k : Nat} (hk : k < T.length) : lvl T k = mi_a h 156 (mi_a h 157 k).toNat := by
  have := (hT.2.1 k hk).2.2.1
  unfold lvl
  rw [this]
section NODR
variable {d : Nat} {h : sm_H} {T : List (Int × Int × Int)}
def nx_Q (h : sm_H) (T : List (Int × Int × Int)) (zk zw : Int) (w : Option mi_V) (h' : sm_H) : Prop := ab_Sh sx_sk h' ∧ ab_Fr [(13952, 13953)] h h' ∧ ∃ y : Int64, w = some (.inr (.inl y)) ∧ (((zk < 0 ∨ (T.length : Int) ≤ zk) ∧ mi_f h' 13952 = 1) ∨ (0 ≤ zk ∧ zk < (T.length : Int) ∧ (zw < 0 ∨ 3 < zw) ∧ mi_f h' 13952 = 2) ∨ (0 ≤ zk ∧ zk < (T.length : Int) ∧ 0 ≤ zw ∧ zw ≤ 3 ∧ mi_f h' 13952 = 0 ∧ nd_v T zk.toNat zw y.toInt))
theorem i2l_v {z : Int} (o : mi_in z) : ((Int32.ofInt z).toInt64).toInt = z := by
  rw [Int32.toInt_toInt64, mi_ti o]
theorem me_noder {zk zw : Int} (hS : ab_Sh sx_sk h) (ok : mi_in zk) (ow : mi_in zw) (hT : gs_T h T) (hl : T.length ≤ 100) : me_E (d + 1) 233 0 [some (.inr (.inr 109)), some (.inl zk), some (.inl zw), none] [] h (nx_Q h T zk zw) := by
  have e0 := hT.1
  have up : ∀ h1, ab_Sh sx_sk h1 → ab_Fr [(13952, 13953)] h h1 → mi_f h1 13952 = 0 → 0 ≤ zk → zk < (T.length : Int) → 0 ≤ zw → zw ≤ 3 → me_E (d + 1) 233 43 [some (.inr (.inr 109)), some (.inl zk), some (.inl zw), none] [] h1 (nx_Q h T zk zw) := by
    intro h1 g1 g2 g3 k0 k1 w0 w1
    have a5 : ∀ i, mi_a h1 155 i = mi_a h 155 i := fun i => me_a (k := 155) g2 hS rfl rfl
    have a6 : ∀ i, mi_a h1 156 i = mi_a h 156 i := fun i => me_a (k := 156) g2 hS rfl rfl
    have a7 : ∀ i, mi_a h1 157 i = mi_a h 157 i := fun i => me_a (k := 157) g2 hS rfl rfl
    have b2 : ∀ i, mx_b h1 162 i = mx_b h 162 i := fun i => me_b (k := 162) g2 hS rfl rfl
    have f5 : mi_f h1 14015 = mi_f h 14015 := me_f (c := 14015) g2 hS rfl rfl
    have ho : ∀ z : Int, 0 ≤ z → z < (T.length : Int) → 0 ≤ mi_a h1 157 z.toNat ∧ mi_a h1 157 z.toNat < (T.length : Int) ∧ lvl T z.toNat = mi_a h1 156 (mi_a h1 157 z.toNat).toNat := fun z z0 z1 => by
      have hz : z.toNat < T.length := by omega
      have p := hT.2.1 z.toNat hz
      rw [a7, a6]
      exact ⟨p.1, p.2.1, gs_lvl hT hz⟩
    have fin : ∀ (h2 : sm_H) (y : Int64), ab_Sh sx_sk h2 → ab_Fr [] h1 h2 → nd_v T zk.toNat zw y.toInt → nx_Q h T zk zw (some (.inr (.inl y))) h2 := fun h2 y s1 s2 hv => by
      have e := me_nil s2
      subst e
      exact ⟨g1, g2, y, rfl, Or.inr (Or.inr ⟨k0, k1, w0, w1, g3, hv⟩)⟩
    have hk := hT.2.1 zk.toNat (by omega)
    have hok := ho zk k0 k1
    have lp : ∀ (N : Nat) (zj : Int), zj < (N : Int) → -1 ≤ zj → zj ≤ zk → zw = 2 → (∀ i : Nat, zj < (i : Int) → i < zk.toNat → lvl T zk.toNat ≤ lvl T i) → me_E (d + 1) 233 86 [some (.inr (.inr 109)), some (.inl zk), some (.inl zw), some (.inl zj)] [] h1 (nx_Q h T zk zw) := by
      intro N
      induction N with
      | zero =>
        intro zj j0 j1 j2 ew hi
        refine mt_xnoC g1 ok ow ⟨by omega, by omega⟩ ?_ ?_ ?_
        · intro c h2 s1 s2
          refine fin h2 _ s1 s2 (Or.inr (Or.inr (Or.inl ⟨ew, ?_⟩)))
          rw [i2l_v ⟨by omega, by omega⟩]
          exact ⟨j1, by omega, hi, fun q => by omega⟩
        · intro c; omega
        · intro c; omega
      | succ N ih =>
        intro zj j0 j1 j2 ew hi
        refine mt_xnoC g1 ok ow ⟨by omega, by omega⟩ ?_ ?_ ?_
        · intro c h2 s1 s2
          refine fin h2 _ s1 s2 (Or.inr (Or.inr (Or.inl ⟨ew, ?_⟩)))
          rw [i2l_v ⟨by omega, by omega⟩]
          exact ⟨j1, by omega, hi, fun q => by omega⟩
        · intro c1 c2
          have hj := ho zj c1 (by omega)
          refine ⟨by omega, fun h2 s1 s2 => fin h2 _ s1 s2 (Or.inr (Or.inr (Or.inl ⟨ew, ?_⟩)))⟩
          rw [i2l_v ⟨by omega, by omega⟩]
          have ne : zj ≠ zk := fun q => by rw [q] at c2; omega
          exact ⟨j1, by omega, hi, fun _ => by rw [hj.2.2, hok.2.2]; exact c2⟩
        · intro c1 c2
          have hj := ho zj c1 (by omega)
          refine ⟨by omega, fun h2 s1 s2 => ?_⟩
          have e := me_nil s2
          subst e
          refine ih (zj + (-1)) (by omega) (by omega) (by omega) ew (fun i i0 i1 => ?_)
          by_cases q : (i : Int) = zj
          · have q2 : i = zj.toNat := by omega
            rw [q2, hj.2.2, hok.2.2]
            exact c2
          · exact hi i (by omega) i1
    have lq : ∀ (N : Nat) (zj : Int), (T.length : Int) - zj < (N : Int) → zk < zj → zj ≤ (T.length : Int) → zw = 3 → (∀ i : Nat, zk.toNat < i → (i : Int) < zj → lvl T zk.toNat < lvl T i) → me_E (d + 1) 233 116 [some (.inr (.inr 109)), some (.inl zk), some (.inl zw), some (.inl zj)] [] h1 (nx_Q h T zk zw) := by
      intro N
      induction N with
      | zero => intro zj j0 j1 j2 ew hi; omega
      | succ N ih =>
        intro zj j0 j1 j2 ew hi
        refine mt_xnoD g1 ok ow ⟨by omega, by omega⟩ ?_ ?_ ?_
        · intro b c
          refine ⟨by omega, fun h2 s1 s2 => fin h2 _ s1 s2 (Or.inr (Or.inr (Or.inr ⟨ew, ?_⟩)))⟩
          rw [i2l_v ⟨by omega, by omega⟩]
          exact ⟨by omega, by omega, fun i i0 i1 => hi i i0 (by omega), fun q => by omega⟩
        · intro b c1 c2
          have hj := ho zj (by omega) (by omega)
          refine ⟨by omega, fun h2 s1 s2 => fin h2 _ s1 s2 (Or.inr (Or.inr (Or.inr ⟨ew, ?_⟩)))⟩
          rw [i2l_v ⟨by omega, by omega⟩]
          refine ⟨by omega, by omega, fun i i0 i1 => hi i i0 (by omega), fun q => ?_⟩
          have e : ((zk.toNat : Int) + (zj - zk - 1) + 1).toNat = zj.toNat := by omega
          rw [e, hj.2.2, hok.2.2]
          exact c2
        · intro b c1 c2
          have hj := ho zj (by omega) (by omega)
          refine ⟨by omega, fun h2 s1 s2 => ?_⟩
          have e := me_nil s2
          subst e
          refine ih (zj + 1) (by omega) (by omega) (by omega) ew (fun i i0 i1 => ?_)
          by_cases q : (i : Int) = zj
          · have q2 : i = zj.toNat := by omega
            rw [q2, hj.2.2, hok.2.2]
            exact c2
          · exact hi i i0 (by omega)
    refine mt_xnoB g1 ok ow ?_ ?_ ?_ ?_
    · intro c1 c2
      refine ⟨by omega, fun h2 s1 s2 => ?_⟩
      have e := me_nil s2
      subst e
      exact lq (T.length + 1) (zk + 1) (by omega) (by omega) (by omega) (by omega) (fun i i0 i1 => by omega)
    · intro c1 c2 h2 s1 s2
      have e := me_nil s2
      subst e
      exact lp (zk.toNat + 1) zk (by omega) (by omega) (by omega) c2 (fun i i0 i1 => by omega)
    · intro c1 c2
      refine ⟨by omega, fun h2 s1 s2 => fin h2 _ s1 s2 (Or.inr (Or.inl ⟨by omega, _, hk.2.2.1, ?_⟩))⟩
      rw [b2, a7]
    · intro c1 c2
      refine ⟨by omega, fun h2 s1 s2 => fin h2 _ s1 s2 (Or.inl ⟨by omega, _, hk.2.2.1, ?_⟩)⟩
      have k2 := hk.2.2.2
      rw [a7, a5, i2l_v ⟨by omega, by omega⟩]
      show _ = (_ + _) % 10
      omega
  refine mt_xnoA hS ok ow ?_ ?_ ?_ ?_ ?_
  · intro c h1 g1 g2 g3
    exact ⟨g1, g3, _, rfl, Or.inl ⟨Or.inl c, g2⟩⟩
  · intro b c1 c2 c3 h1 g1 g2 g3
    exact ⟨g1, g3, _, rfl, Or.inr (Or.inl ⟨c1, by omega, Or.inl c3, g2⟩)⟩
  · intro b c1 c2 c3 c4 h1 g1 g2 g3
    exact up h1 g1 g3 g2 c1 (by omega) c3 c4
  · intro b c1 c2 c3 c4 h1 g1 g2 g3
    exact ⟨g1, g3, _, rfl, Or.inr (Or.inl ⟨c1, by omega, Or.inr c4, g2⟩)⟩
  · intro b c1 c2 h1 g1 g2 g3
    exact ⟨g1, g3, _, rfl, Or.inl ⟨Or.inr (by omega), g2⟩⟩
/-- carry -/
def xc_W : List (Nat × Nat) := [(13952, 13953), (13954, 13955), (14208, 14209)]
def xc_Q (h : sm_H) (w : Option mi_V) (h' : sm_H) : Prop := ab_Sh sx_sk h' ∧ ab_Fr xc_W h h' ∧ w = some (.inl (mi_f h 13955)) ∧ mi_f h' 13954 = mi_f h 13955 ∧ mi_f h' 13952 = 0 ∧ ∀ i : Nat, (i : Int) < mi_f h 13955 → mi_a h' 111 i = mi_a h 112 i
theorem me_carryr (hS : ab_Sh sx_sk h) : me_E d 238 0 [some (.inr (.inr 109)), none] [] h (xc_Q h) := by
  have b0 := me_fb (c := 13955) hS rfl
  have lp : ∀ (N : Nat) (zk : Int) (h1 : sm_H), mi_f h 13955 - zk < (N : Int) → 0 ≤ zk → zk ≤ mi_f h 13955 → ab_Sh sx_sk h1 → ab_Fr xc_W h h1 → mi_f h1 13952 = 0 → (∀ i : Nat, (i : Int) < zk → mi_a h1 111 i = mi_a h 112 i) → me_E d 238 7 [some (.inr (.inr 109)), some (.inl zk)] [] h1 (xc_Q h) := by
    intro N
    induction N with
    | zero => intro zk h1 n k0 k1; omega
    | succ N ih =>
      intro zk h1 n k0 k1 g1 g2 g3 hi
      have f5 : mi_f h1 13955 = mi_f h 13955 := me_f (c := 13955) g2 hS rfl rfl
      have a2 : ∀ i, mi_a h1 112 i = mi_a h 112 i := fun i => me_a (k := 112) g2 hS rfl rfl
      have b1 : mi_f h 13955 ≤ 160 := b0.2
      refine mt_xcaB g1 ⟨by omega, by omega⟩ ?_ ?_
      · intro b c
        refine ⟨b, fun h2 s1 s2 s3 => ?_⟩
        have F : ab_Fr xc_W h h2 := g2.trans (s3.wide (fun c hc => ab_swr_ok (by decide) hc))
        refine ⟨s1, F, by rw [f5], by rw [s2, f5], ?_, fun i i1 => ?_⟩
        · rw [me_f (c := 13952) s3 g1 rfl rfl, g3]
        · rw [me_a (k := 111) s3 g1 rfl rfl]
          exact hi i (by omega)
      · intro b c
        refine ⟨by omega, fun h2 s1 s2 s3 => ih (zk + 1) h2 (by omega) (by omega) (by omega) s1 (g2.trans (s3.wide (fun c hc => ab_swr_ok (by decide) hc))) ?_ (fun i i1 => ?_)⟩
        · rw [me_f (c := 13952) s3 g1 rfl rfl, g3]
        · rw [s2]
          by_cases q : i = zk.toNat
          · rw [if_pos q, a2, q]
          · rw [if_neg q]
            exact hi i (by omega)
  refine mt_xcaA hS (fun h1 g1 g2 g3 => ?_)
  exact lp ((mi_f h 13955).toNat + 1) 0 h1 (by omega) (by omega) b0.1 g1 (g3.wide (fun c hc => ab_swr_ok (by decide) hc)) g2 (fun i i1 => by omega)
/-- keep -/
def xk_W : List (Nat × Nat) := [(13952, 13953), (14017, 14018), (20608, 20609), (20992, 20993)]
def xk_Q (h : sm_H) (w : Option mi_V) (h' : sm_H) : Prop := ab_Sh sx_sk h' ∧ mi_f h' 13952 = 0 ∧ ((mi_f h 14015 = 0 ∧ w = some (.inl 0) ∧ ab_Fr [(13952, 13953)] h h') ∨ (mi_f h 14015 ≠ 0 ∧ w = some (.inl 1) ∧ ab_Fr xk_W h h' ∧ mi_f h' 14017 = mi_f h 14015 ∧ ∀ i : Nat, (i : Int) < mi_f h 14015 → mi_a h' 161 i = mi_a h 155 (mi_a h 157 i).toNat ∧ mx_b h' 164 i = mx_b h 162 (mi_a h 157 i).toNat))
theorem me_keepr (hS : ab_Sh sx_sk h) : me_E d 239 0 [some (.inr (.inr 109)), none] [] h (xk_Q h) := by
  have b0 := me_fb (c := 14015) hS rfl
  have b1 : mi_f h 14015 ≤ 100 := b0.2
  have lp : ∀ (N : Nat) (zk : Int) (h1 : sm_H), mi_f h 14015 - zk < (N : Int) → 0 ≤ zk → zk ≤ mi_f h 14015 → ab_Sh sx_sk h1 → ab_Fr xk_W h h1 → mi_f h1 13952 = 0 → mi_f h 14015 ≠ 0 → (∀ i : Nat, (i : Int) < zk → mi_a h1 161 i = mi_a h 155 (mi_a h 157 i).toNat ∧ mx_b h1 164 i = mx_b h 162 (mi_a h 157 i).toNat) → me_E d 239 16 [some (.inr (.inr 109)), some (.inl zk)] [] h1 (xk_Q h) := by
    intro N
    induction N with
    | zero => intro zk h1 n k0 k1; omega
    | succ N ih =>
      intro zk h1 n k0 k1 g1 g2 g3 nz hi
      have f5 : mi_f h1 14015 = mi_f h 14015 := me_f (c := 14015) g2 hS rfl rfl
      have a5 : ∀ i, mi_a h1 155 i = mi_a h 155 i := fun i => me_a (k := 155) g2 hS rfl rfl
      have a7 : ∀ i, mi_a h1 157 i = mi_a h 157 i := fun i => me_a (k := 157) g2 hS rfl rfl
      have b2 : ∀ i, mx_b h1 162 i = mx_b h 162 i := fun i => me_b (k := 162) g2 hS rfl rfl
      refine mt_xkeB g1 ⟨by omega, by omega⟩ ?_ ?_
      · intro b c
        refine ⟨b, fun h2 s1 s2 s3 => ?_⟩
        have F : ab_Fr xk_W h h2 := g2.trans (s3.wide (fun c hc => ab_swr_ok (by decide) hc))
        refine ⟨s1, ?_, Or.inr ⟨nz, rfl, F, by rw [s2, f5], fun i i1 => ?_⟩⟩
        · rw [me_f (c := 13952) s3 g1 rfl rfl, g3]
        · rw [me_a (k := 161) s3 g1 rfl rfl, me_b (k := 164) s3 g1 rfl rfl]
          exact hi i (by omega)
      · intro b c
        have bb := me_ab (k := 157) (i := zk.toNat) g1 rfl (by decide) (by omega)
        refine ⟨by omega, fun h2 s1 s2 s4 s3 => ih (zk + 1) h2 (by omega) (by omega) (by omega) s1 (g2.trans (s3.wide (fun c hc => ab_swr_ok (by decide) hc))) ?_ nz (fun i i1 => ?_)⟩
        · rw [me_f (c := 13952) s3 g1 rfl rfl, g3]
        · rw [s2, s4]
          by_cases q : i = zk.toNat
          · rw [if_pos q, if_pos q, a7, a5, b2, q]
            exact ⟨rfl, rfl⟩
          · rw [if_neg q, if_neg q]
            exact hi i (by omega)
  refine mt_xkeA hS ?_ ?_
  · intro b c h1 g1 g2 g3
    exact lp ((mi_f h 14015).toNat + 1) 0 h1 (by omega) (by omega) b0.1 g1 (g3.wide (fun c hc => ab_swr_ok (by decide) hc)) g2 c (fun i i1 => by omega)
  · intro b c h1 g1 g2 g3
    exact ⟨g1, g2, Or.inl ⟨c, rfl, g3⟩⟩
end NODR
/-! grow again: what is left alone where it fails -/
section GC9
variable {d : Nat} {h : sm_H}
def gcn_W : List (Nat × Nat) := [(13056, 13057), (13184, 13185), (13312, 13313), (13440, 13441), (13699, 13704)]
def gcn_T (h : sm_H) (zx : Int64) (zf : Int) (x : Nat) (h' : sm_H) : Prop := ∃ h1, h' = h1 ++ [sm_exc x] ∧ ab_Sh sx_sk h1 ∧ ab_Fr gcn_W h h1 ∧ ((x = 13 ∧ (zf < 0 ∨ 20 < zf)) ∨ (x = 14 ∧ (0 ≤ zf ∧ zf ≤ 20) ∧ mi_f h 6543 = 0) ∨ (x = 15 ∧ (0 ≤ zf ∧ zf ≤ 20) ∧ mi_f h 6543 ≠ 0 ∧ gm_NO (mi_a h) (gx_k h) (gc_0 (mi_a h) zx zf)))
theorem me_growcn {zx : Int64} {zf : Int} (hS : ab_Sh sx_sk h) (of : mi_in zf) (hG : mi_f h 6543 ≠ 0 → ∃ f it Y, cg_G f it (mi_a h) Y (gx_k h) h ∧ wk_Lrule Y (mi_a h 114 0) ∧ f (mi_a h 114 0) = 0) : mg_E (gcn_T h zx zf) 245 158 0 [some (.inr (.inr 51)), some (.inr (.inl zx)), none, some (.inl zf)] [] h (gc_Q h zx zf) := by
  refine mt_khgA (d := 244) hS of ?_ ?_ ?_ ?_
  · intro c h1 g1 g2
    have e := me_nil g2
    subst e
    exact mg_thr (M := (4, 1, sb_158)) (x := 13) rfl rfl rfl ⟨h1, rfl, g1, ab_Fr.refl, Or.inl ⟨rfl, Or.inl c⟩⟩
  · intro b c1 c2 c3 h1 g1 g2 g3 g4
    obtain ⟨f, it, Y, k1, k2, k3⟩ := hG c3
    have hG1 := cg_G_fr k1 g4 hS rfl
    refine ⟨_, me_gwalk g1 hG1 k2.1 k2.2.1 k3 g2 g3 c1 c2, fun w h2 hw hq => ?_⟩
    obtain ⟨rfl, q1, q2, q3, q4⟩ := hq
    have F2n : ab_Fr gcn_W h h2 := (g4.wide (fun c hc => ab_swr_ok (by decide) hc)).trans (q2.wide (fun c hc => ab_swr_ok (by decide) hc))
    have F2 : ab_Fr gc_W h h2 := (g4.wide (fun c hc => ab_swr_ok (by decide) hc)).trans (q2.wide (fun c hc => ab_swr_ok (by decide) hc))
    refine mt_khgB (d := 244) q1 of ?_ ?_
    · intro b1 z h3 r1 r2
      have e := me_nil r2
      subst e
      rcases q4 with ⟨-, q4, -⟩ | ⟨-, -, s', q5, ⟨-, -, A, qa, qb, qc, -⟩, q6⟩
      · exfalso; omega
      obtain ⟨⟨t1, t2⟩, -, -, t3, -⟩ := q5
      have t3 : ((gm_T s').length : Int) ≤ 100 := t3
      refine ⟨_, me_gtake (d := 242) q1 (by omega) (by omega), fun w h4 hw hq => ?_⟩
      obtain ⟨rfl, u1, u2, u3, u4⟩ := hq
      refine mt_khgC (d := 244) u1 of ?_
      intro h5 v1 v2
      have e := me_nil v2
      subst e
      refine ⟨u1, F2.trans (u2.wide (fun c hc => ab_swr_ok (by decide) hc)), ⟨c1, c2⟩, c3, s', q6 [] rfl, by rw [u3, t1], by omega, ⟨u3.trans t1, fun k hk => ?_⟩, ?_, fun k hk => ?_⟩
      · obtain ⟨l, q, hl⟩ := t2 k hk
        obtain ⟨x1, x2, -⟩ := u4 k (by omega)
        exact ⟨l, q, by rw [x1, x2]; exact hl⟩
      · rw [show gm_T ((zx, zf, [], 0, []) : gm_S) = [] from gm_T_mk _ _ _ _ _, List.nil_append] at qa
        rw [qa]
        rw [show gm_D ((zx, zf, [], 0, []) : gm_S) = 0 from gm_D_mk _ _ _ _ _] at qb
        exact qb
      · rw [show gm_T ((zx, zf, [], 0, []) : gm_S) = [] from gm_T_mk _ _ _ _ _] at qa qc
        rw [List.nil_append] at qa
        have := qc k (by rw [← qa]; exact hk)
        rw [← qa] at this
        have e0 : ([] : List (Int × Int × Int)).length + k = k := Nat.zero_add k
        rw [e0] at this
        rw [this, (u4 k (by omega)).2.2]
    · intro b1 z h3 r1 r2
      have e := me_nil r2
      subst e
      rcases q4 with ⟨-, -, q4⟩ | ⟨-, q4, -⟩
      · exact mg_thr (M := (4, 1, sb_158)) (x := 15) rfl rfl rfl ⟨h3, rfl, q1, F2n, Or.inr (Or.inr ⟨rfl, ⟨c1, c2⟩, c3, q4 [] rfl⟩)⟩
      · exfalso; omega
  · intro b c1 c2 c3 h1 g1 g2
    have e := me_nil g2
    subst e
    exact mg_thr (M := (4, 1, sb_158)) (x := 14) rfl rfl rfl ⟨h1, rfl, g1, ab_Fr.refl, Or.inr (Or.inl ⟨rfl, ⟨c1, c2⟩, c3⟩)⟩
  · intro c1 c h1 g1 g2
    have e := me_nil g2
    subst e
    exact mg_thr (M := (4, 1, sb_158)) (x := 13) rfl rfl rfl ⟨h1, rfl, g1, ab_Fr.refl, Or.inl ⟨rfl, Or.inr c⟩⟩
/-- the reference's grow: frames -/
theorem me_growr0 {zx : Int64} {zf : Int} (hS : ab_Sh sx_sk h) (of : mi_in zf) (hY : 2 ≤ mi_f h 13959 → ∃ Y, wk_L (mi_a h) Y ∧ wk_Lrule Y (mi_a h 114 0) ∧ ∀ f, 0 ≤ f → f < wk_f Y → mi_a h 130 f.toNat ≤ 10000) : me_E (d + 20) 232 0 [some (.inr (.inr 109)), some (.inr (.inl zx)), none, some (.inl zf)] [] h (fun w h' => ab_Fr pr_Y h h' ∧ (mi_f h' 13952 ≠ 0 → ab_Fr pr_N h h')) := by
  refine mt_groA hS of ?_ ?_ ?_ ?_
  · intro c h1 g1 g2 g3
    exact ⟨g3.wide (fun c hc => ab_swr_ok (by decide) hc), fun _ => g3.wide (fun c hc => ab_swr_ok (by decide) hc)⟩
  · intro b c1 c2 c3 h2 g1 g2 g3 g4 g5
    obtain ⟨Y, l1, l2, l3⟩ := hY c3
    have hg : wk_gc (mi_a h) (mi_a h2) := wk_gc_fr g5 hS rfl
    have e14 : mi_a h2 114 0 = mi_a h 114 0 := hg 114 (by decide) 0
    have L2 : wk_L (mi_a h2) Y := wk_L_g l1 hg
    refine ⟨_, me_walkx (d := d + 12) (Y := Y) g1 L2 (by rw [e14]; exact l2) (by omega) (by omega), fun w h3 ow hq => ?_⟩
    obtain ⟨rfl, q4, q5, -⟩ := hq
    have F3 : ab_Fr pr_N h h3 := (g5.wide (fun c hc => ab_swr_ok (by decide) hc)).trans (q5.wide (fun c hc => ab_swr_ok (by decide) hc))
    refine mt_groB q4 of ?_ ?_
    · intro b1 c4 h4 r1 r2 r3
      refine ⟨_, me_takex (d := d + 19) r1, fun w h5 ow hq => ?_⟩
      obtain ⟨rfl, t0, t1, t2, t3⟩ := hq
      refine mt_groC t0 of (ow _ rfl) ?_
      intro h6 u1 u2
      have e6 := me_nil u2
      subst e6
      refine ⟨((F3.wide (fun c hc => ab_swr_ok (by decide) hc)).trans (r3.wide (fun c hc => ab_swr_ok (by decide) hc))).trans (t1.wide (fun c hc => ab_swr_ok (by decide) hc)), fun q => absurd ?_ q⟩
      rw [me_f (c := 13952) t1 r1 rfl rfl]
      exact r2
    · intro b1 c4 h4 r1 r2 r3
      have F4 : ab_Fr pr_N h h4 := F3.trans (r3.wide (fun c hc => ab_swr_ok (by decide) hc))
      exact ⟨F4.wide (fun c hc => ab_swr_ok (by decide) hc), fun _ => F4⟩
  · intro b c1 c2 c3 h1 g1 g2 g3
    exact ⟨g3.wide (fun c hc => ab_swr_ok (by decide) hc), fun _ => g3.wide (fun c hc => ab_swr_ok (by decide) hc)⟩
  · intro c1 c2 h1 g1 g2 g3
    exact ⟨g3.wide (fun c hc => ab_swr_ok (by decide) hc), fun _ => g3.wide (fun c hc => ab_swr_ok (by decide) hc)⟩
end GC9
