/-! p9: both calls together: set, type, clear, sample, carry, keep, compile -/
section PAJ
variable {h h1 h2 : sm_H} {w : Option mi_V} {T : List (Int × Int × Int)}
def xs_Y : List (Nat × Nat) := [(12288, 12289), (21888, 21889)]
def XS (h : sm_H) (T : List (Int × Int × Int)) (zk : Int) (zv : Int64) (k : Int) (y : Int64) (h1 : sm_H) : Prop := rq xs_Y h h1 ∧ ((k = 1 ∧ (zk < 0 ∨ (T.length : Int) ≤ zk) ∧ rq xq_W h h1) ∨ (k = 0 ∧ 0 ≤ zk ∧ zk < (T.length : Int) ∧ ∃ x, T[zk.toNat]? = some x ∧ ((st9_f (mi_f h 7698) (mi_a h 75) x zv.toInt ∧ y.toInt = 1 ∧ ∀ i, mi_a h1 96 i = if i = zk.toNat then zv.toInt else mi_a h 96 i) ∨ (¬ st9_f (mi_f h 7698) (mi_a h 75) x zv.toInt ∧ y.toInt = 0 ∧ rq xq_W h h1))))
theorem st9_c {m m' : Int} {L L' : Nat → Int} {x : Int × Int × Int} {v : Int} (em : m' = m) (eL : ∀ l : Nat, (l : Int) < m → L' l = L l) : st9_f m' L' x v ↔ st9_f m L x v := by
  subst em
  constructor
  · rintro (q | ⟨q1, q2, q3, q4, q5⟩)
    · exact Or.inl q
    · exact Or.inr ⟨q1, q2, q3, q4, fun l hl => by rw [← eL l hl]; exact q5 l hl⟩
  · rintro (q | ⟨q1, q2, q3, q4, q5⟩)
    · exact Or.inl q
    · exact Or.inr ⟨q1, q2, q3, q4, fun l hl => by rw [eL l hl]; exact q5 l hl⟩
def ys_N : List (Nat × Nat) := [(13952, 13953), (21888, 21889)]
def ys_Y : List (Nat × Nat) := [(12288, 12289), (13952, 13953), (20736, 20737), (21888, 21889)]
theorem P9_set {zk : Int} {zv : Int64} {k : Int} {y : Int64} (hR : R9 h) (hT : r9_T h T) (hS1 : ab_Sh sx_sk h1) (hX : XS h T zk zv k y h1) (hX2 : xs_Q h1 T zk zv w h2) : R9 h2 ∧ mi_f h2 13952 = k ∧ (k = 0 → w = some (.inl y.toInt)) := by
  have hR' := hR
  obtain ⟨k1, k2, k3, k4, -, k6⟩ := hR
  obtain ⟨qY, hX⟩ := hX
  obtain ⟨-, hX2⟩ := hX2
  have noch : rq xq_W h h1 → ab_Fr [(13952, 13953)] h1 h2 → R9 h2 := fun a b => by
    have q : rq ys_N h h2 := (a.wide (by decide)).trans ((rq_fr hS1 b).wide (by decide))
    exact R9_q q (by decide) hR'
  rcases hX with ⟨rfl, x1, x2⟩ | ⟨rfl, x0, x1, x, x2, x3⟩
  · rcases hX2 with ⟨-, z1, z2, z3⟩ | ⟨z0, z1, -⟩
    · exact ⟨noch x2 z3, z1, fun q => absurd q (by decide)⟩
    · exfalso; omega
  · rcases hX2 with ⟨z0, -⟩ | ⟨-, -, z1, x', z2, z3⟩
    · exfalso; omega
    · rw [x2] at z2
      have ex := Option.some.inj z2
      subst ex
      have hne : T ≠ [] := fun q => by rw [q] at x1; exact absurd x1 (by simp only [List.length_nil]; omega)
      obtain ⟨st2, tr, vals⟩ := hT.2.2.2 hne
      obtain ⟨f, it, Y, hk⟩ := k4.2.1 st2
      have lt := hk.2.2.2.2.2.2
      have e9 := eq9_rq qY s9_c.1 s9_c.2 (by decide)
      have iff1 : st9_f (mi_f h1 13962) (tq_L h1) x zv.toInt ↔ st9_f (mi_f h 7698) (mi_a h 75) x zv.toInt := by
        refine st9_c (by rw [e9.2.2 13962 (by decide), lt.1]) (fun l hl => ?_)
        have e : tq_L h1 l = tq_L h l := by
          unfold tq_L
          rw [e9.2.1 118 (by decide), e9.1 117 (by decide)]
        rw [e]
        exact ((lt.2.2 l (by rw [← lt.1]; exact hl)).1).symm
      rcases x3 with ⟨x4, x5, x6⟩ | ⟨x4, x5, x6⟩
      · rcases z3 with ⟨-, z5, z6, z7⟩ | ⟨z4, -⟩
        · have q2 := rq_fr hS1 z6
          have q : rq ys_Y h h2 := (qY.wide (by decide)).trans (q2.wide (by decide))
          refine ⟨⟨rl_t_q q (by decide) k1, r9_i_q q (by decide) k2, r9_o_q q (by decide) k3, r9_c_q q (by decide) k4, ⟨vT (yv h2) T, ?_, ?_, by rw [vT_len]; exact hT.2.2.1, fun _ => ⟨by rw [q.f (c := 13959) rfl (by decide)]; exact st2, ?_, ?_⟩⟩, r9_p_q q (by decide) k6⟩, z1, fun _ => by rw [z5, x5]⟩
          all_goals
            have o7 : ∀ i, mi_a h1 157 i = mi_a h 157 i := fun i => qY.a rfl (by decide) i
            have gT := hT.1
            have kx := gT.2.1 zk.toNat (by omega)
            have eT := kx.2.2.1
            rw [x2] at eT
            have eT := Option.some.inj eT
            -- the new values
            have nv : ∀ j : Nat, j < T.length → yv h2 (mi_a h 157 j) = if j = zk.toNat then zv.toInt else (mx_b h 162 (mi_a h 157 j).toNat).toInt := fun j hj => by
              unfold yv
              rw [z7, o7]
              have pj := gT.2.1 j hj
              by_cases c : j = zk.toNat
              · rw [if_pos c, c, if_pos rfl]
              · rw [if_neg c, if_neg (fun e => c (gT.2.2 j zk.toNat hj (by omega) (by omega))), qY.b (k := 162) rfl (by decide)]
          · refine ⟨?_, fun j hj => ?_, fun i j hi hj e => ?_⟩
            · rw [q.f (c := 14015) rfl (by decide), vT_len]
              exact gT.1
            · rw [vT_len] at hj
              obtain ⟨a1, a2, a3, a4, a5⟩ := gT.2.1 j hj
              rw [q.a (k := 157) rfl (by decide), q.a (k := 155) rfl (by decide), q.a (k := 156) rfl (by decide), vT_len]
              refine ⟨a1, a2, ?_, a4, a5⟩
              rw [vT_get a3]
              have e : (mi_a h 155 (mi_a h 157 j).toNat + 10 * mi_a h 157 j) / 10 = mi_a h 157 j := by omega
              show some (_, yv h2 ((mi_a h 155 (mi_a h 157 j).toNat + 10 * mi_a h 157 j) / 10), _) = _
              rw [e]
              rfl
            · rw [vT_len] at hi hj
              rw [q.a (k := 157) rfl (by decide), q.a (k := 157) rfl (by decide)] at e
              exact gT.2.2 i j hi hj e
          · obtain ⟨⟨c1, c2⟩, c3, c4⟩ := hT.2.1
            have a6 : ∀ i, mi_a h2 96 i = mi_a h1 96 i := fun i => q2.a rfl (by decide) i
            refine ⟨⟨?_, fun j hj => ?_⟩, fo_vT c3, fun j hj => ?_⟩
            · rw [q.f (c := 12032) rfl (by decide), vT_len]
              exact c1
            · rw [vT_len] at hj
              obtain ⟨l, qq, d1, d2, d3⟩ := c2 j hj
              obtain ⟨a1, a2, a3, a4, a5⟩ := gT.2.1 j hj
              have dd := d1
              rw [a3] at dd
              have dd := Option.some.inj dd
              injection dd with dd1 dd2
              injection dd2 with dd2 dd3
              rw [q.a (k := 95) rfl (by decide), a6, x6]
              refine ⟨l, qq, ?_, d2, d3⟩
              rw [vT_get d1]
              have e : (mi_a h 95 j + 10 * qq) / 10 = mi_a h 157 j := by omega
              show some (_, yv h2 ((mi_a h 95 j + 10 * qq) / 10), _) = _
              rw [e, nv j hj]
              by_cases c : j = zk.toNat
              · rw [if_pos c, if_pos c]
              · rw [if_neg c, if_neg c, dd2]
            · rw [vT_len] at hj
              rw [sz_vT, q.a (k := 97) rfl (by decide)]
              exact c4 j hj
          · refine tr_R_g (rq_gc q (by decide)) (tr_set tr (fun z hz n2 n3 => ?_))
            obtain ⟨j, hj⟩ := List.getElem?_of_mem hz
            have jl : j < T.length := by
              by_cases c : j < T.length
              · exact c
              · rw [List.getElem?_eq_none (by omega)] at hj
                cases hj
            obtain ⟨a1, a2, a3, a4, a5⟩ := gT.2.1 j jl
            have a3' := a3
            rw [hj] at a3
            have a3 := Option.some.inj a3
            have e : z.1 / 10 = mi_a h 157 j := by rw [a3]; show (_ + _) / 10 = _; omega
            rw [e, nv j jl]
            by_cases c : j = zk.toNat
            · exfalso
              rw [← c, hj] at x2
              have x2 := Option.some.inj x2
              rw [← x2] at x4
              rcases x4 with ⟨q1, -⟩ | ⟨q1, -⟩
              · exact n2 q1
              · exact n3 q1
            · rw [if_neg c, a3]
          · intro z hz
            obtain ⟨j, hj⟩ := List.getElem?_of_mem hz
            have jl : j < T.length := by
              by_cases c : j < T.length
              · exact c
              · rw [List.getElem?_eq_none (by rw [vT_len]; omega)] at hj
                cases hj
            obtain ⟨a1, a2, a3, a4, a5⟩ := gT.2.1 j jl
            rw [vT_get a3] at hj
            have hj := Option.some.inj hj
            have e : (mi_a h 155 (mi_a h 157 j).toNat + 10 * mi_a h 157 j) / 10 = mi_a h 157 j := by omega
            have ev : z.2.1 = yv h2 (mi_a h 157 j) := by
              rw [← hj]
              show yv h2 ((mi_a h 155 (mi_a h 157 j).toNat + 10 * mi_a h 157 j) / 10) = _
              rw [e]
            have e1 : z.1 = mi_a h 155 (mi_a h 157 j).toNat + 10 * mi_a h 157 j := by rw [← hj]
            rw [nv j jl] at ev
            have old := vals _ (List.mem_of_getElem? a3)
            by_cases c : j = zk.toNat
            · rw [if_pos c] at ev
              have ex : x.1 = z.1 := by rw [eT, e1, c]
              unfold nv_ok
              rw [ev, ← ex]
              rcases x4 with ⟨q1, q2, q3⟩ | ⟨q1, q2, q3, q4, -⟩
              · exact ⟨⟨fun _ => ⟨q2, q3⟩, fun qq => by omega⟩, fun qq => by omega⟩
              · exact ⟨⟨fun qq => by omega, fun _ => ⟨q2, q4⟩⟩, fun qq => by omega⟩
            · rw [if_neg c] at ev
              unfold nv_ok at old ⊢
              rw [ev, e1]
              exact old
        · exact absurd (iff1.mpr x4) z4
      · rcases z3 with ⟨z4, -⟩ | ⟨-, z5, z6⟩
        · exact absurd (iff1.mp z4) x4
        · exact ⟨noch x6 z6, z1, fun _ => by rw [z5, x5]⟩
/-- type -/
def XTy (h : sm_H) (zt zc : Int) (k : Int) (y : Int64) (h1 : sm_H) : Prop := (k = 1 ∧ (zt < 0 ∨ 1 < zt) ∧ rq xq_W h h1) ∨ (k = 0 ∧ zt = 0 ∧ rq ((6657, 6658) :: (6784, 6785) :: xq_W) h h1 ∧ ef9 240 zc y.toInt (mi_f h 6657) (mi_f h1 6657) (mi_a h 53) (mi_a h1 53)) ∨ (k = 0 ∧ zt = 1 ∧ rq ((6913, 6914) :: (7040, 7041) :: xq_W) h h1 ∧ ef9 160 zc y.toInt (mi_f h 6913) (mi_f h1 6913) (mi_a h 55) (mi_a h1 55))
def yt_0 : List (Nat × Nat) := (6657, 6658) :: (6784, 6785) :: xq_W ++ rt_W
def yt_1 : List (Nat × Nat) := (6913, 6914) :: (7040, 7041) :: xq_W ++ rt_V
theorem P9_type {zt zc k : Int} {y : Int64} (hR : R9 h) (hS : ab_Sh sx_sk h) (hS1 : ab_Sh sx_sk h1) (hX : XTy h zt zc k y h1) (hX2 : xt_Q zt zc h1 w h2) : R9 h2 ∧ mi_f h2 13952 = k ∧ (k = 0 → w = some (.inl y.toInt)) := by
  have hR' := hR
  obtain ⟨k1, k2, k3, k4, ⟨T, k5⟩, k6⟩ := hR
  obtain ⟨-, yr, rfl, hX2⟩ := hX2
  rcases hX with ⟨rfl, x1, x2⟩ | ⟨rfl, rfl, x2, x3⟩ | ⟨rfl, rfl, x2, x3⟩
  · rcases hX2 with ⟨-, z1, -, z3⟩ | ⟨z0, -⟩ | ⟨z0, -⟩
    · have q : rq ys_N h h2 := (x2.wide (by decide)).trans ((rq_fr hS1 z3).wide (by decide))
      exact ⟨R9_q q (by decide) hR', z1, fun q => absurd q (by decide)⟩
    · omega
    · omega
  · rcases hX2 with ⟨z0, -⟩ | ⟨-, z1, z2, z3⟩ | ⟨z0, -⟩
    · omega
    · have q2 := rq_fr hS1 z2
      have q : rq yt_0 h h2 := (x2.wide (by decide)).trans (q2.wide (by decide))
      obtain ⟨t1, t2, t3⟩ := k1
      have f53 : mi_f h1 13953 = mi_f h 13953 := x2.f rfl (by decide)
      have a10 : ∀ i, mi_a h1 110 i = mi_a h 110 i := fun i => x2.a rfl (by decide) i
      have f57 : mi_f h2 6657 = mi_f h1 6657 := q2.f rfl (by decide)
      have a53 : ∀ i, mi_a h2 53 i = mi_a h1 53 i := fun i => q2.a rfl (by decide) i
      have n0 := (me_fb (c := 6657) hS rfl).1
      rw [f53, ← t1] at z3
      have main : yr = y.toInt ∧ mi_f h2 6657 = mi_f h2 13953 ∧ (∀ j, mi_a h2 53 j = mi_a h2 110 j) ∧ ∀ i : Nat, (i : Int) < mi_f h2 6657 → tx_al (mi_a h2 53 i) := by
        rcases x3 with ⟨u1, u2, u3, u4, u5⟩ | ⟨u1, u3, u4, u5⟩
        · rcases z3 with ⟨-, -, v3, v4, v5⟩ | ⟨v1, -⟩
          · refine ⟨by rw [u3, v3], by rw [f57, u4, v4], fun j => ?_, fun i hi => ?_⟩
            · rw [a53, u5, v5, a10, t2]
            · rw [a53, u5]
              by_cases c : i = (mi_f h 6657).toNat
              · rw [if_pos c]; exact u1
              · rw [if_neg c]
                exact t3 i (by rw [f57, u4] at hi; omega)
          · exact absurd ⟨u1, u2⟩ v1
        · rcases z3 with ⟨v1, v2, -⟩ | ⟨-, v3, v4, v5⟩
          · exact absurd ⟨v1, v2⟩ u1
          · refine ⟨by rw [u3, v3], by rw [f57, u4, v4], fun j => ?_, fun i hi => ?_⟩
            · rw [a53, u5, v5, a10, t2]
            · rw [a53, u5]
              exact t3 i (by rw [f57, u4] at hi; omega)
      obtain ⟨m1, m2, m3, m4⟩ := main
      exact ⟨⟨⟨m2, funext m3, m4⟩, r9_i_q q (by decide) k2, r9_o_q q (by decide) k3, r9_c_q q (by decide) k4, ⟨T, r9_T_q q (by decide) k5⟩, r9_p_q q (by decide) k6⟩, z1, fun _ => by rw [m1]⟩
    · omega
  · rcases hX2 with ⟨z0, -⟩ | ⟨z0, -⟩ | ⟨-, z1, z2, z3⟩
    · omega
    · omega
    · have q2 := rq_fr hS1 z2
      have q : rq yt_1 h h2 := (x2.wide (by decide)).trans (q2.wide (by decide))
      obtain ⟨t1, t2⟩ := k2
      have f54 : mi_f h1 13954 = mi_f h 13954 := x2.f rfl (by decide)
      have a11 : ∀ i, mi_a h1 111 i = mi_a h 111 i := fun i => x2.a rfl (by decide) i
      have f13 : mi_f h2 6913 = mi_f h1 6913 := q2.f rfl (by decide)
      have a55 : ∀ i, mi_a h2 55 i = mi_a h1 55 i := fun i => q2.a rfl (by decide) i
      have n0 := (me_fb (c := 13954) hS rfl).1
      rw [t1] at x3
      rw [f54] at z3
      have main : yr = y.toInt ∧ mi_f h2 6913 = mi_f h2 13954 ∧ ∀ i : Nat, (i : Int) < mi_f h2 13954 → mi_a h2 55 i = mi_a h2 111 i ∧ tx_al (mi_a h2 111 i) := by
        rcases x3 with ⟨u1, u2, u3, u4, u5⟩ | ⟨u1, u3, u4, u5⟩
        · rcases z3 with ⟨-, -, v3, v4, v5⟩ | ⟨v1, -⟩
          · refine ⟨by rw [u3, v3], by rw [f13, u4, v4], fun i hi => ?_⟩
            rw [a55, u5, v5, a11]
            by_cases c : i = (mi_f h 13954).toNat
            · rw [if_pos c, if_pos c]; exact ⟨rfl, u1⟩
            · rw [if_neg c, if_neg c]
              exact t2 i (by rw [v4] at hi; omega)
          · exact absurd ⟨u1, u2⟩ v1
        · rcases z3 with ⟨v1, v2, -⟩ | ⟨-, v3, v4, v5⟩
          · exact absurd ⟨v1, v2⟩ u1
          · refine ⟨by rw [u3, v3], by rw [f13, u4, v4], fun i hi => ?_⟩
            rw [a55, u5, v5, a11]
            exact t2 i (by rw [v4] at hi; omega)
      obtain ⟨m1, m2, m3⟩ := main
      exact ⟨⟨rl_t_q q (by decide) k1, ⟨m2, m3⟩, r9_o_q q (by decide) k3, r9_c_q q (by decide) k4, ⟨T, r9_T_q q (by decide) k5⟩, r9_p_q q (by decide) k6⟩, z1, fun _ => by rw [m1]⟩
/-- clear -/
def XCl (h : sm_H) (zt : Int) (k : Int) (y : Int64) (h1 : sm_H) : Prop := (k = 1 ∧ (zt < 0 ∨ 1 < zt) ∧ rq xq_W h h1) ∨ (k = 0 ∧ zt = 0 ∧ rq ((6657, 6658) :: xq_W) h h1 ∧ mi_f h1 6657 = 0 ∧ y.toInt = mi_f h 6657) ∨ (k = 0 ∧ zt = 1 ∧ rq ((6913, 6914) :: xq_W) h h1 ∧ mi_f h1 6913 = 0 ∧ y.toInt = mi_f h 6913)
def yc_0 : List (Nat × Nat) := (6657, 6658) :: xq_W ++ [(13952, 13955)]
def yc_1 : List (Nat × Nat) := (6913, 6914) :: xq_W ++ [(13952, 13955)]
theorem P9_clear {zt k : Int} {y : Int64} (hR : R9 h) (hS1 : ab_Sh sx_sk h1) (hX : XCl h zt k y h1) (hX2 : xl_Q zt h1 w h2) : R9 h2 ∧ mi_f h2 13952 = k ∧ (k = 0 → w = some (.inl y.toInt)) := by
  have hR' := hR
  obtain ⟨k1, k2, k3, k4, ⟨T, k5⟩, k6⟩ := hR
  obtain ⟨-, yr, rfl, hX2⟩ := hX2
  rcases hX with ⟨rfl, x1, x2⟩ | ⟨rfl, rfl, x2, x3, x4⟩ | ⟨rfl, rfl, x2, x3, x4⟩
  · rcases hX2 with ⟨-, z1, -, z3⟩ | ⟨z0, -⟩ | ⟨z0, -⟩
    · have q : rq ys_N h h2 := (x2.wide (by decide)).trans ((rq_fr hS1 z3).wide (by decide))
      exact ⟨R9_q q (by decide) hR', z1, fun q => absurd q (by decide)⟩
    · omega
    · omega
  · rcases hX2 with ⟨z0, -⟩ | ⟨-, z1, z2, z3, z4, z5⟩ | ⟨z0, -⟩
    · omega
    · have q2 := rq_fr hS1 z2
      have q : rq yc_0 h h2 := (x2.wide (by decide)).trans (q2.wide (by decide))
      obtain ⟨t1, t2, t3⟩ := k1
      have f53 : mi_f h1 13953 = mi_f h 13953 := x2.f rfl (by decide)
      have f54 : mi_f h1 13954 = mi_f h 13954 := x2.f rfl (by decide)
      have f57 : mi_f h2 6657 = 0 := by rw [q2.f (c := 6657) rfl (by decide)]; exact x3
      refine ⟨⟨⟨by rw [f57, z3], funext fun j => ?_, fun i hi => by rw [f57] at hi; omega⟩, ?_, r9_o_q q (by decide) k3, r9_c_q q (by decide) k4, ⟨T, r9_T_q q (by decide) k5⟩, r9_p_q q (by decide) k6⟩, z1, fun _ => by rw [x4, t1, ← f53, ← z5]⟩
      · rw [q.a (k := 53) rfl (by decide), q.a (k := 110) rfl (by decide), t2]
      · obtain ⟨u1, u2⟩ := k2
        unfold r9_i
        rw [q.f (c := 6913) rfl (by decide), z4, f54]
        exact ⟨u1, fun i hi => by rw [q.a (k := 55) rfl (by decide), q.a (k := 111) rfl (by decide)]; exact u2 i hi⟩
    · omega
  · rcases hX2 with ⟨z0, -⟩ | ⟨z0, -⟩ | ⟨-, z1, z2, z3, z4, z5⟩
    · omega
    · omega
    · have q2 := rq_fr hS1 z2
      have q : rq yc_1 h h2 := (x2.wide (by decide)).trans (q2.wide (by decide))
      have f53 : mi_f h1 13953 = mi_f h 13953 := x2.f rfl (by decide)
      have f54 : mi_f h1 13954 = mi_f h 13954 := x2.f rfl (by decide)
      have f13 : mi_f h2 6913 = 0 := by rw [q2.f (c := 6913) rfl (by decide)]; exact x3
      refine ⟨⟨?_, ⟨by rw [f13, z4], fun i hi => by rw [z4] at hi; omega⟩, r9_o_q q (by decide) k3, r9_c_q q (by decide) k4, ⟨T, r9_T_q q (by decide) k5⟩, r9_p_q q (by decide) k6⟩, z1, fun _ => by rw [x4, k2.1, ← f54, ← z5]⟩
      obtain ⟨t1, t2, t3⟩ := k1
      have e57 : mi_f h2 6657 = mi_f h 6657 := q.f rfl (by decide)
      have a53 : mi_a h2 53 = mi_a h 53 := funext fun i => q.a rfl (by decide) i
      have a10 : mi_a h2 110 = mi_a h 110 := funext fun i => q.a rfl (by decide) i
      unfold rl_t cx_ok
      rw [e57, a53, a10, z3, f53]
      exact ⟨t1, t2, t3⟩
/-- sample -/
def XSa (h : sm_H) (zk : Int) (k : Int) (h1 : sm_H) : Prop := (k = 1 ∧ ¬ (0 ≤ zk ∧ zk ≤ 2) ∧ rq xq_W h h1) ∨ (k = 0 ∧ (0 ≤ zk ∧ zk ≤ 2) ∧ rq ((6657, 6658) :: (6784, 6785) :: xq_W) h h1 ∧ mi_f h1 6657 = (sw_k zk).length ∧ mi_a h1 53 = apl (sw_k zk) 0 (mi_a h 53))
theorem sw9_al (k : Int) : ∀ x ∈ sw_k k, tx_al x := by
  unfold sw_k
  split
  · exact sw_al11
  · split
    · exact sw_al12
    · exact sw_al13
theorem P9_sample {zk k : Int} (hR : R9 h) (hS1 : ab_Sh sx_sk h1) (hX : XSa h zk k h1) (hF : ab_Fr rt_W h1 h2) (hX2 : (0 ≤ zk ∧ zk ≤ 2 ∧ mi_f h2 13953 = (sw_k zk).length ∧ mi_a h2 110 = apl (sw_k zk) 0 (mi_a h1 110)) ∨ (¬ (0 ≤ zk ∧ zk ≤ 2) ∧ ab_Fr [(13952, 13953)] h1 h2)) : R9 h2 := by
  have hR' := hR
  obtain ⟨k1, k2, k3, k4, ⟨T, k5⟩, k6⟩ := hR
  rcases hX with ⟨-, x1, x2⟩ | ⟨-, x1, x2, x3, x4⟩
  · rcases hX2 with ⟨z0, z1, -⟩ | ⟨-, z3⟩
    · exact absurd ⟨z0, z1⟩ x1
    · have q : rq ys_N h h2 := (x2.wide (by decide)).trans ((rq_fr hS1 z3).wide (by decide))
      exact R9_q q (by decide) hR'
  · rcases hX2 with ⟨z0, z1, z2, z3⟩ | ⟨z0, -⟩
    · have q2 := rq_fr hS1 hF
      have q : rq yt_0 h h2 := (x2.wide (by decide)).trans (q2.wide (by decide))
      obtain ⟨t1, t2, t3⟩ := k1
      have a10 : mi_a h1 110 = mi_a h 110 := funext fun i => x2.a rfl (by decide) i
      have f57 : mi_f h2 6657 = mi_f h1 6657 := q2.f rfl (by decide)
      have a53 : mi_a h2 53 = mi_a h1 53 := funext fun i => q2.a rfl (by decide) i
      refine ⟨⟨by rw [f57, x3, z2], by rw [a53, x4, z3, a10, t2], fun i hi => ?_⟩, r9_i_q q (by decide) k2, r9_o_q q (by decide) k3, r9_c_q q (by decide) k4, ⟨T, r9_T_q q (by decide) k5⟩, r9_p_q q (by decide) k6⟩
      rw [a53, x4]
      rw [f57, x3] at hi
      exact apl_ok (sw_k zk) 0 (mi_a h 53) (sw9_al _) (fun i hi => absurd hi (Nat.not_lt_zero i)) i (by omega)
    · exact absurd x1 z0
/-- keep -/
def yk_W : List (Nat × Nat) := ck_W ++ xk_W
theorem P9_keep {w1 : Option mi_V} (hR : R9 h) (hS : ab_Sh sx_sk h) (hX : ck_Qk h w1 h1) (hX2 : xk_Q h1 w h2) : R9 h2 ∧ mi_f h2 13952 = 0 ∧ w = w1 := by
  have hR' := hR
  obtain ⟨k1, k2, k3, k4, ⟨T, k5⟩, k6⟩ := hR
  obtain ⟨hS1, hX⟩ := hX
  obtain ⟨-, z0, hX2⟩ := hX2
  have e32 : mi_f h 12032 = mi_f h 14015 := by rw [k5.2.1.1.1, k5.1.1]
  rcases hX with ⟨x1, rfl, rfl⟩ | ⟨x1, rfl, x2, x3, x4⟩
  · rcases hX2 with ⟨-, rfl, z2⟩ | ⟨z1, -⟩
    · exact ⟨R9_q (rq_fr hS z2) (by decide) hR', z0, rfl⟩
    · omega
  · have q1 := rq_fr hS x2
    have f15 : mi_f h1 14015 = mi_f h 14015 := q1.f rfl (by decide)
    rcases hX2 with ⟨z1, -⟩ | ⟨-, rfl, z2, z3, z4⟩
    · omega
    · have q2 := rq_fr hS1 z2
      have q : rq yk_W h h2 := (q1.wide (by decide)).trans (q2.wide (by decide))
      refine ⟨⟨rl_t_q q (by decide) k1, r9_i_q q (by decide) k2, r9_o_q q (by decide) k3, r9_c_q q (by decide) k4, ⟨T, r9_T_q q (by decide) k5⟩, ⟨⟨?_, fun i hi => ?_⟩, fun c => ?_⟩⟩, z0, rfl⟩
      · rw [q2.f (c := 12544) rfl (by decide), x3, z3, f15, e32]
      · rw [z3, f15] at hi
        have il : i < T.length := by have := k5.1.1; omega
        obtain ⟨y1, y2⟩ := x4 i (by omega)
        obtain ⟨v1, v2⟩ := z4 i (by rw [f15]; exact hi)
        obtain ⟨l, qq, d1, d2, d3⟩ := k5.2.1.1.2 i il
        obtain ⟨a1, a2, a3, a4, a5⟩ := k5.1.2.1 i il
        rw [a3] at d1
        have dd := Option.some.inj d1
        injection dd with dd1 dd2
        injection dd2 with dd2 dd3
        rw [q2.a (k := 99) rfl (by decide), q2.a (k := 100) rfl (by decide), y1, y2, v1, v2, q1.a (k := 157) rfl (by decide), q1.a (k := 155) rfl (by decide), q1.b (k := 162) rfl (by decide)]
        exact ⟨by omega, dd2.symm⟩
      · rw [q.f (c := 13959) rfl (by decide)] at c
        rw [q.f (c := 13961) rfl (by decide), q.f (c := 13962) rfl (by decide)]
        exact k6.2 c
/-- carry -/
theorem P9_carry {wr : List (Nat × Nat)} (hR : R9 h) (hS1 : ab_Sh sx_sk h1) (q1 : rq [(6913, 6914), (7040, 7041)] h h1) (x1 : mi_f h1 6913 = mi_f h 7169) (x2 : ∀ i : Nat, (i : Int) < mi_f h 7169 → mi_a h1 55 i = mi_a h 57 i) (hX2 : xc_Q h1 w h2) : R9 h2 ∧ mi_f h2 13952 = 0 ∧ w = some (.inl (mi_f h 7169)) := by
  obtain ⟨k1, k2, k3, k4, ⟨T, k5⟩, k6⟩ := hR
  obtain ⟨-, z1, z2, z3, z4, z5⟩ := hX2
  have q2 := rq_fr hS1 z1
  have q : rq ([(6913, 6914), (7040, 7041)] ++ xc_W) h h2 := (q1.wide (by decide)).trans (q2.wide (by decide))
  have f55 : mi_f h1 13955 = mi_f h 13955 := q1.f rfl (by decide)
  refine ⟨⟨rl_t_q q (by decide) k1, ⟨?_, fun i hi => ?_⟩, r9_o_q q (by decide) k3, r9_c_q q (by decide) k4, ⟨T, r9_T_q q (by decide) k5⟩, r9_p_q q (by decide) k6⟩, z4, by rw [z2, f55, k3.1]⟩
  · rw [q2.f (c := 6913) rfl (by decide), x1, z3, f55, k3.1]
  · rw [z3, f55] at hi
    rw [q2.a (k := 55) rfl (by decide), x2 i (by rw [k3.1]; exact hi), z5 i (by rw [f55]; exact hi), q1.a (k := 112) rfl (by decide)]
    exact k3.2 i hi
end PAJ
