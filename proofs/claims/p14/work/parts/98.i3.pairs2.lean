/-! p9: both calls together: set, type, clear, sample, carry, keep, compile -/
section PAJ
variable {h h1 h2 : sm_H} {w : Option mi_V} {T : List (Int × Int × Int)}
def xs_Y : List (Nat × Nat) := [(12288, 12289), (21888, 21889)]
def XS (h : sm_H) (T : List (Int × Int × Int)) (zk : Int) (zv : Int64) (k : Int) (y : Int64) (h1 : sm_H) : Prop := rq xs_Y h h1 ∧ ((k = 1 ∧ (zk < 0 ∨ (T.length : Int) ≤ zk) ∧ rq xq_W h h1) ∨ (k = 0 ∧ 0 ≤ zk ∧ zk < (T.length : Int) ∧ ∃ x, T[zk.toNat]? = some x ∧ ((st9_f (mi_f h 7698) (mi_a h 75) x zv.toInt ∧ y.toInt = 1 ∧ ∀ i, mi_a h1 96 i = if i = zk.toNat then zv.toInt else mi_a h 96 i) ∨ (¬ st9_f (mi_f h 7698) (mi_a h 75) x zv.toInt ∧ y.toInt = 0 ∧ rq xq_W h h1))))
theorem st9_c {m m' : Int} {L L' : Nat → Int} {x : Int × Int × Int} {v : Int} (em : m' = m) (eL : ∀ l : Nat, (l : Int) < m → L' l = L l) : st9_f m' L' x v ↔ st9_f m L x v := by
  subst em
  constructor
  · rintro (q | ⟨q1, q2, q3, q4, q5⟩)
    · exact Or.inl q
    · exact Or.inr ⟨q1, q2, q3, q4, fun l hl => by rw [← eL l hl]; exact q5 l hl⟩
  · rintro (q | ⟨q1, q2, q3, q4, q5⟩)
    · exact Or.inl q
    · exact Or.inr ⟨q1, q2, q3, q4, fun l hl => by rw [eL l hl]; exact q5 l hl⟩
def ys_N : List (Nat × Nat) := [(13952, 13953), (21888, 21889)]
def ys_Y : List (Nat × Nat) := [(12288, 12289), (13952, 13953), (20736, 20737), (21888, 21889)]
theorem P9_set {zk : Int} {zv : Int64} {k : Int} {y : Int64} (hR : R9 h) (hT : r9_T h T) (hS1 : ab_Sh sx_sk h1) (hX : XS h T zk zv k y h1) (hX2 : xs_Q h1 T zk zv w h2) : R9 h2 ∧ mi_f h2 13952 = k ∧ (k = 0 → w = some (.inl y.toInt)) := by
  have hR' := hR
  obtain ⟨k1, k2, k3, k4, -, k6⟩ := hR
  obtain ⟨qY, hX⟩ := hX
  obtain ⟨-, hX2⟩ := hX2
  have noch : rq xq_W h h1 → ab_Fr [(13952, 13953)] h1 h2 → R9 h2 := fun a b => by
    have q : rq ys_N h h2 := (a.wide (by decide)).trans ((rq_fr hS1 b).wide (by decide))
    exact R9_q q (by decide) hR'
  rcases hX with ⟨rfl, x1, x2⟩ | ⟨rfl, x0, x1, x, x2, x3⟩
  · rcases hX2 with ⟨-, z1, z2, z3⟩ | ⟨z0, z1, -⟩
    · exact ⟨noch x2 z3, z1, fun q => absurd q (by decide)⟩
    · exfalso; omega
  · rcases hX2 with ⟨z0, -⟩ | ⟨-, -, z1, x', z2, z3⟩
    · exfalso; omega
    · rw [x2] at z2
      have ex := Option.some.inj z2
      subst ex
      have hne : T ≠ [] := fun q => by rw [q] at x1; exact absurd x1 (by simp only [List.length_nil]; omega)
      obtain ⟨st2, tr, vals⟩ := hT.2.2.2 hne
      obtain ⟨f, it, Y, hk⟩ := k4.2.1 st2
      have lt := hk.2.2.2.2.2.2
      have e9 := eq9_rq qY s9_c.1 s9_c.2 (by decide)
      have iff1 : st9_f (mi_f h1 13962) (tq_L h1) x zv.toInt ↔ st9_f (mi_f h 7698) (mi_a h 75) x zv.toInt := by
        refine st9_c (by rw [e9.2.2 13962 (by decide), lt.1]) (fun l hl => ?_)
        have e : tq_L h1 l = tq_L h l := by
          unfold tq_L
          rw [e9.2.1 118 (by decide), e9.1 117 (by decide)]
        rw [e]
        exact ((lt.2.2 l (by rw [← lt.1]; exact hl)).1).symm
      rcases x3 with ⟨x4, x5, x6⟩ | ⟨x4, x5, x6⟩
      · rcases z3 with ⟨-, z5, z6, z7⟩ | ⟨z4, -⟩
        · have q2 := rq_fr hS1 z6
          have q : rq ys_Y h h2 := (qY.wide (by decide)).trans (q2.wide (by decide))
          refine ⟨⟨rl_t_q q (by decide) k1, r9_i_q q (by decide) k2, r9_o_q q (by decide) k3, r9_c_q q (by decide) k4, ⟨vT (yv h2) T, ?_, ?_, by rw [vT_len]; exact hT.2.2.1, fun _ => ⟨by rw [q.f (c := 13959) rfl (by decide)]; exact st2, ?_, ?_⟩⟩, r9_p_q q (by decide) k6⟩, z1, fun _ => by rw [z5, x5]⟩
          all_goals
            have o7 : ∀ i, mi_a h1 157 i = mi_a h 157 i := fun i => qY.a rfl (by decide) i
            have gT := hT.1
            have kx := gT.2.1 zk.toNat (by omega)
            have eT := kx.2.2.1
            rw [x2] at eT
            have eT := Option.some.inj eT
            -- the new values
            have nv : ∀ j : Nat, j < T.length → yv h2 (mi_a h 157 j) = if j = zk.toNat then zv.toInt else (mx_b h 162 (mi_a h 157 j).toNat).toInt := fun j hj => by
              unfold yv
              rw [z7, o7]
              have pj := gT.2.1 j hj
              by_cases c : j = zk.toNat
              · rw [if_pos c, c, if_pos rfl]
              · rw [if_neg c, if_neg (fun e => c (gT.2.2 j zk.toNat hj (by omega) (by omega))), qY.b (k := 162) rfl (by decide)]
          · refine ⟨?_, fun j hj => ?_, fun i j hi hj e => ?_⟩
            · rw [q.f (c := 14015) rfl (by decide), vT_len]
              exact gT.1
            · rw [vT_len] at hj
              obtain ⟨a1, a2, a3, a4, a5⟩ := gT.2.1 j hj
              rw [q.a (k := 157) rfl (by decide), q.a (k := 155) rfl (by decide), q.a (k := 156) rfl (by decide), vT_len]
              refine ⟨a1, a2, ?_, a4, a5⟩
              rw [vT_get a3]
              have e : (mi_a h 155 (mi_a h 157 j).toNat + 10 * mi_a h 157 j) / 10 = mi_a h 157 j := by omega
              show some (_, yv h2 ((mi_a h 155 (mi_a h 157 j).toNat + 10 * mi_a h 157 j) / 10), _) = _
              rw [e]
              rfl
            · rw [vT_len] at hi hj
              rw [q.a (k := 157) rfl (by decide), q.a (k := 157) rfl (by decide)] at e
              exact gT.2.2 i j hi hj e
          · obtain ⟨⟨c1, c2⟩, c3, c4⟩ := hT.2.1
            have a6 : ∀ i, mi_a h2 96 i = mi_a h1 96 i := fun i => q2.a rfl (by decide) i
            refine ⟨⟨?_, fun j hj => ?_⟩, fo_vT c3, fun j hj => ?_⟩
            · rw [q.f (c := 12032) rfl (by decide), vT_len]
              exact c1
            · rw [vT_len] at hj
              obtain ⟨l, qq, d1, d2, d3⟩ := c2 j hj
              obtain ⟨a1, a2, a3, a4, a5⟩ := gT.2.1 j hj
              have dd := d1
              rw [a3] at dd
              have dd := Option.some.inj dd
              injection dd with dd1 dd2
              injection dd2 with dd2 dd3
              rw [q.a (k := 95) rfl (by decide), a6, x6]
              refine ⟨l, qq, ?_, d2, d3⟩
              rw [vT_get d1]
              have e : (mi_a h 95 j + 10 * qq) / 10 = mi_a h 157 j := by omega
              show some (_, yv h2 ((mi_a h 95 j + 10 * qq) / 10), _) = _
              rw [e, nv j hj]
              by_cases c : j = zk.toNat
              · rw [if_pos c, if_pos c]
              · rw [if_neg c, if_neg c, dd2]
            · rw [vT_len] at hj
              rw [sz_vT, q.a (k := 97) rfl (by decide)]
              exact c4 j hj
          · refine tr_R_g (rq_gc q (by decide)) (tr_set tr (fun z hz n2 n3 => ?_))
            obtain ⟨j, hj⟩ := List.getElem?_of_mem hz
            have jl : j < T.length := by
              by_cases c : j < T.length
              · exact c
              · rw [List.getElem?_eq_none (by omega)] at hj
                cases hj
            obtain ⟨a1, a2, a3, a4, a5⟩ := gT.2.1 j jl
            have a3' := a3
            rw [hj] at a3
            have a3 := Option.some.inj a3
            have e : z.1 / 10 = mi_a h 157 j := by rw [a3]; show (_ + _) / 10 = _; omega
            rw [e, nv j jl]
            by_cases c : j = zk.toNat
            · exfalso
              rw [← c, hj] at x2
              have x2 := Option.some.inj x2
              rw [← x2] at x4
              rcases x4 with ⟨q1, -⟩ | ⟨q1, -⟩
              · exact n2 q1
              · exact n3 q1
            · rw [if_neg c, a3]
          · intro z hz
            obtain ⟨j, hj⟩ := List.getElem?_of_mem hz
            have jl : j < T.length := by
              by_cases c : j < T.length
              · exact c
              · rw [List.getElem?_eq_none (by rw [vT_len]; omega)] at hj
                cases hj
            obtain ⟨a1, a2, a3, a4, a5⟩ := gT.2.1 j jl
            rw [vT_get a3] at hj
            have hj := Option.some.inj hj
            have e : (mi_a h 155 (mi_a h 157 j).toNat + 10 * mi_a h 157 j) / 10 = mi_a h 157 j := by omega
            have ev : z.2.1 = yv h2 (mi_a h 157 j) := by
              rw [← hj]
              show yv h2 ((mi_a h 155 (mi_a h 157 j).toNat + 10 * mi_a h 157 j) / 10) = _
              rw [e]
            have e1 : z.1 = mi_a h 155 (mi_a h 157 j).toNat + 10 * mi_a h 157 j := by rw [← hj]
            rw [nv j jl] at ev
            have old := vals _ (List.mem_of_getElem? a3)
            by_cases c : j = zk.toNat
            · rw [if_pos c] at ev
              have ex : x.1 = z.1 := by rw [eT, e1, c]
              unfold nv_ok
              rw [ev, ← ex]
              rcases x4 with ⟨q1, q2, q3⟩ | ⟨q1, q2, q3, q4, -⟩
              · exact ⟨⟨fun _ => ⟨q2, q3⟩, fun qq => by omega⟩, fun qq => by omega⟩
              · exact ⟨⟨fun qq => by omega, fun _ => ⟨q2, q4⟩⟩, fun qq => by omega⟩
            · rw [if_neg c] at ev
              unfold nv_ok at old ⊢
              rw [ev, e1]
              exact old
        · exact absurd (iff1.mpr x4) z4
      · rcases z3 with ⟨z4, -⟩ | ⟨-, z5, z6⟩
        · exact absurd (iff1.mp z4) x4
        · exact ⟨noch x6 z6, z1, fun _ => by rw [z5, x5]⟩
/-- type -/
def XTy (h : sm_H) (zt zc : Int) (k : Int) (y : Int64) (h1 : sm_H) : Prop := (k = 1 ∧ (zt < 0 ∨ 1 < zt) ∧ rq xq_W h h1) ∨ (k = 0 ∧ zt = 0 ∧ rq ((6657, 6658) :: (6784, 6785) :: xq_W) h h1 ∧ ef9 240 zc y.toInt (mi_f h 6657) (mi_f h1 6657) (mi_a h 53) (mi_a h1 53)) ∨ (k = 0 ∧ zt = 1 ∧ rq ((6913, 6914) :: (7040, 7041) :: xq_W) h h1 ∧ ef9 160 zc y.toInt (mi_f h 6913) (mi_f h1 6913) (mi_a h 55) (mi_a h1 55))
def yt_0 : List (Nat × Nat) := (6657, 6658) :: (6784, 6785) :: xq_W ++ rt_W
def yt_1 : List (Nat × Nat) := (6913, 6914) :: (7040, 7041) :: xq_W ++ rt_V
theorem P9_type {zt zc k : Int} {y : Int64} (hR : R9 h) (hS : ab_Sh sx_sk h) (hS1 : ab_Sh sx_sk h1) (hX : XTy h zt zc k y h1) (hX2 : xt_Q zt zc h1 w h2) : R9 h2 ∧ mi_f h2 13952 = k ∧ (k = 0 → w = some (.inl y.toInt)) := by
  have hR' := hR
  obtain ⟨k1, k2, k3, k4, ⟨T, k5⟩, k6⟩ := hR
  obtain ⟨-, yr, rfl, hX2⟩ := hX2
  rcases hX with ⟨rfl, x1, x2⟩ | ⟨rfl, rfl, x2, x3⟩ | ⟨rfl, rfl, x2, x3⟩
  · rcases hX2 with ⟨-, z1, -, z3⟩ | ⟨z0, -⟩ | ⟨z0, -⟩
    · have q : rq ys_N h h2 := (x2.wide (by decide)).trans ((rq_fr hS1 z3).wide (by decide))
      exact ⟨R9_q q (by decide) hR', z1, fun q => absurd q (by decide)⟩
    · omega
    · omega
  · rcases hX2 with ⟨z0, -⟩ | ⟨-, z1, z2, z3⟩ | ⟨z0, -⟩
    · omega
    · have q2 := rq_fr hS1 z2
      have q : rq yt_0 h h2 := (x2.wide (by decide)).trans (q2.wide (by decide))
      obtain ⟨t1, t2, t3⟩ := k1
      have f53 : mi_f h1 13953 = mi_f h 13953 := x2.f rfl (by decide)
      have a10 : ∀ i, mi_a h1 110 i = mi_a h 110 i := fun i => x2.a rfl (by decide) i
      have f57 : mi_f h2 6657 = mi_f h1 6657 := q2.f rfl (by decide)
      have a53 : ∀ i, mi_a h2 53 i = mi_a h1 53 i := fun i => q2.a rfl (by decide) i
      have n0 := (me_fb (c := 6657) hS rfl).1
      rw [f53, ← t1] at z3
      have main : yr = y.toInt ∧ mi_f h2 6657 = mi_f h2 13953 ∧ (∀ j, mi_a h2 53 j = mi_a h2 110 j) ∧ ∀ i : Nat, (i : Int) < mi_f h2 6657 → tx_al (mi_a h2 53 i) := by
        rcases x3 with ⟨u1, u2, u3, u4, u5⟩ | ⟨u1, u3, u4, u5⟩
        · rcases z3 with ⟨-, -, v3, v4, v5⟩ | ⟨v1, -⟩
          · refine ⟨by rw [u3, v3], by rw [f57, u4, v4], fun j => ?_, fun i hi => ?_⟩
            · rw [a53, u5, v5, a10, t2]
            · rw [a53, u5]
              by_cases c : i = (mi_f h 6657).toNat
              · rw [if_pos c]; exact u1
              · rw [if_neg c]
                exact t3 i (by rw [f57, u4] at hi; omega)
          · exact absurd ⟨u1, u2⟩ v1
        · rcases z3 with ⟨v1, v2, -⟩ | ⟨-, v3, v4, v5⟩
          · exact absurd ⟨v1, v2⟩ u1
          · refine ⟨by rw [u3, v3], by rw [f57, u4, v4], fun j => ?_, fun i hi => ?_⟩
            · rw [a53, u5, v5, a10, t2]
            · rw [a53, u5]
              exact t3 i (by rw [f57, u4] at hi; omega)
      obtain ⟨m1, m2, m3, m4⟩ := main
      exact ⟨⟨⟨m2, funext m3, m4⟩, r9_i_q q (by decide) k2, r9_o_q q (by decide) k3, r9_c_q q (by decide) k4, ⟨T, r9_T_q q (by decide) k5⟩, r9_p_q q (by decide) k6⟩, z1, fun _ => by rw [m1]⟩
    · omega
  · rcases hX2 with ⟨z0, -⟩ | ⟨z0, -⟩ | ⟨-, z1, z2, z3⟩
    · omega
    · omega
    · have q2 := rq_fr hS1 z2
      have q : rq yt_1 h h2 := (x2.wide (by decide)).trans (q2.wide (by decide))
      obtain ⟨t1, t2⟩ := k2
      have f54 : mi_f h1 13954 = mi_f h 13954 := x2.f rfl (by decide)
      have a11 : ∀ i, mi_a h1 111 i = mi_a h 111 i := fun i => x2.a rfl (by decide) i
      have f13 : mi_f h2 6913 = mi_f h1 6913 := q2.f rfl (by decide)
      have a55 : ∀ i, mi_a h2 55 i = mi_a h1 55 i := fun i => q2.a rfl (by decide) i
      have n0 := (me_fb (c := 13954) hS rfl).1
      rw [t1] at x3
      rw [f54] at z3
      have main : yr = y.toInt ∧ mi_f h2 6913 = mi_f h2 13954 ∧ ∀ i : Nat, (i : Int) < mi_f h2 13954 → mi_a h2 55 i = mi_a h2 111 i ∧ tx_al (mi_a h2 111 i) := by
        rcases x3 with ⟨u1, u2, u3, u4, u5⟩ | ⟨u1, u3, u4, u5⟩
        · rcases z3 with ⟨-, -, v3, v4, v5⟩ | ⟨v1, -⟩
          · refine ⟨by rw [u3, v3], by rw [f13, u4, v4], fun i hi => ?_⟩
            rw [a55, u5, v5, a11]
            by_cases c : i = (mi_f h 13954).toNat
            · rw [if_pos c, if_pos c]; exact ⟨rfl, u1⟩
            · rw [if_neg c, if_neg c]
              exact t2 i (by rw [v4] at hi; omega)
          · exact absurd ⟨u1, u2⟩ v1
        · rcases z3 with ⟨v1, v2, -⟩ | ⟨-, v3, v4, v5⟩
          · exact absurd ⟨v1, v2⟩ u1
          · refine ⟨by rw [u3, v3], by rw [f13, u4, v4], fun i hi => ?_⟩
            rw [a55, u5, v5, a11]
            exact t2 i (by rw [v4] at hi; omega)
      obtain ⟨m1, m2, m3⟩ := main
      exact ⟨⟨rl_t_q q (by decide) k1, ⟨m2, m3⟩, r9_o_q q (by decide) k3, r9_c_q q (by decide) k4, ⟨T, r9_T_q q (by decide) k5⟩, r9_p_q q (by decide) k6⟩, z1, fun _ => by rw [m1]⟩
/-- clear -/
def XCl (h : sm_H) (zt : Int) (k : Int) (y : Int64) (h1 : sm_H) : Prop := (k = 1 ∧ (zt < 0 ∨ 1 < zt) ∧ rq xq_W h h1) ∨ (k = 0 ∧ zt = 0 ∧ rq ((6657, 6658) :: xq_W) h h1 ∧ mi_f h1 6657 = 0 ∧ y.toInt = mi_f h 6657) ∨ (k = 0 ∧ zt = 1 ∧ rq ((6913, 6914) :: xq_W) h h1 ∧ mi_f h1 6913 = 0 ∧ y.toInt = mi_f h 6913)
def yc_0 : List (Nat × Nat) := (6657, 6658) :: xq_W ++ [(13952, 13955)]
def yc_1 : List (Nat × Nat) := (6913, 6914) :: xq_W ++ [(13952, 13955)]
theorem P9_clear {zt k : Int} {y : Int64} (hR : R9 h) (hS1 : ab_Sh sx_sk h1) (hX : XCl h zt k y h1) (hX2 : xl_Q zt h1 w h2) : R9 h2 ∧ mi_f h2 13952 = k ∧ (k = 0 → w = some (.inl y.toInt)) := by
  have hR' := hR
  obtain ⟨k1, k2, k3, k4, ⟨T, k5⟩, k6⟩ := hR
  obtain ⟨-, yr, rfl, hX2⟩ := hX2
  rcases hX with ⟨rfl, x1, x2⟩ | ⟨rfl, rfl, x2, x3, x4⟩ | ⟨rfl, rfl, x2, x3, x4⟩
  · rcases hX2 with ⟨-, z1, -, z3⟩ | ⟨z0, -⟩ | ⟨z0, -⟩
    · have q : rq ys_N h h2 := (x2.wide (by decide)).trans ((rq_fr hS1 z3).wide (by decide))
      exact ⟨R9_q q (by decide) hR', z1, fun q => absurd q (by decide)⟩
    · omega
    · omega
  · rcases hX2 with ⟨z0, -⟩ | ⟨-, z1, z2, z3, z4, z5⟩ | ⟨z0, -⟩
    · omega
    · have q2 := rq_fr hS1 z2
      have q : rq yc_0 h h2 := (x2.wide (by decide)).trans (q2.wide (by decide))
      obtain ⟨t1, t2, t3⟩ := k1
      have f53 : mi_f h1 13953 = mi_f h 13953 := x2.f rfl (by decide)
      have f54 : mi_f h1 13954 = mi_f h 13954 := x2.f rfl (by decide)
      have f57 : mi_f h2 6657 = 0 := by rw [q2.f (c := 6657) rfl (by decide)]; exact x3
      refine ⟨⟨⟨by rw [f57, z3], funext fun j => ?_, fun i hi => by rw [f57] at hi; omega⟩, ?_, r9_o_q q (by decide) k3, r9_c_q q (by decide) k4, ⟨T, r9_T_q q (by decide) k5⟩, r9_p_q q (by decide) k6⟩, z1, fun _ => by rw [x4, t1, ← f53, ← z5]⟩
      · rw [q.a (k := 53) rfl (by decide), q.a (k := 110) rfl (by decide), t2]
      · obtain ⟨u1, u2⟩ := k2
        unfold r9_i
        rw [q.f (c := 6913) rfl (by decide), z4, f54]
        exact ⟨u1, fun i hi => by rw [q.a (k := 55) rfl (by decide), q.a (k := 111) rfl (by decide)]; exact u2 i hi⟩
    · omega
  · rcases hX2 with ⟨z0, -⟩ | ⟨z0, -⟩ | ⟨-, z1, z2, z3, z4, z5⟩
    · omega
    · omega
    · have q2 := rq_fr hS1 z2
      have q : rq yc_1 h h2 := (x2.wide (by decide)).trans (q2.wide (by decide))
      have f53 : mi_f h1 13953 = mi_f h 13953 := x2.f rfl (by decide)
      have f54 : mi_f h1 13954 = mi_f h 13954 := x2.f rfl (by decide)
      have f13 : mi_f h2 6913 = 0 := by rw [q2.f (c := 6913) rfl (by decide)]; exact x3
      refine ⟨⟨?_, ⟨by rw [f13, z4], fun i hi => by rw [z4] at hi; omega⟩, r9_o_q q (by decide) k3, r9_c_q q (by decide) k4, ⟨T, r9_T_q q (by decide) k5⟩, r9_p_q q (by decide) k6⟩, z1, fun _ => by rw [x4, k2.1, ← f54, ← z5]⟩
      obtain ⟨t1, t2, t3⟩ := k1
      have e57 : mi_f h2 6657 = mi_f h 6657 := q.f rfl (by decide)
      have a53 : mi_a h2 53 = mi_a h 53 := funext fun i => q.a rfl (by decide) i
      have a10 : mi_a h2 110 = mi_a h 110 := funext fun i => q.a rfl (by decide) i
      unfold rl_t cx_ok
      rw [e57, a53, a10, z3, f53]
      exact ⟨t1, t2, t3⟩
/-- sample -/
def XSa (h : sm_H) (zk : Int) (k : Int) (h1 : sm_H) : Prop := (k = 1 ∧ ¬ (0 ≤ zk ∧ zk ≤ 2) ∧ rq xq_W h h1) ∨ (k = 0 ∧ (0 ≤ zk ∧ zk ≤ 2) ∧ rq ((6657, 6658) :: (6784, 6785) :: xq_W) h h1 ∧ mi_f h1 6657 = (sw_k zk).length ∧ mi_a h1 53 = apl (sw_k zk) 0 (mi_a h 53))
theorem sw9_al (k : Int) : ∀ x ∈ sw_k k, tx_al x := by
  unfold sw_k
  split
  · exact sw_al11
  · split
    · exact sw_al12
    · exact sw_al13
theorem P9_sample {zk k : Int} (hR : R9 h) (hS1 : ab_Sh sx_sk h1) (hX : XSa h zk k h1) (hF : ab_Fr rt_W h1 h2) (hX2 : (0 ≤ zk ∧ zk ≤ 2 ∧ mi_f h2 13953 = (sw_k zk).length ∧ mi_a h2 110 = apl (sw_k zk) 0 (mi_a h1 110)) ∨ (¬ (0 ≤ zk ∧ zk ≤ 2) ∧ ab_Fr [(13952, 13953)] h1 h2)) : R9 h2 := by
  have hR' := hR
  obtain ⟨k1, k2, k3, k4, ⟨T, k5⟩, k6⟩ := hR
  rcases hX with ⟨-, x1, x2⟩ | ⟨-, x1, x2, x3, x4⟩
  · rcases hX2 with ⟨z0, z1, -⟩ | ⟨-, z3⟩
    · exact absurd ⟨z0, z1⟩ x1
    · have q : rq ys_N h h2 := (x2.wide (by decide)).trans ((rq_fr hS1 z3).wide (by decide))
      exact R9_q q (by decide) hR'
  · rcases hX2 with ⟨z0, z1, z2, z3⟩ | ⟨z0, -⟩
    · have q2 := rq_fr hS1 hF
      have q : rq yt_0 h h2 := (x2.wide (by decide)).trans (q2.wide (by decide))
      obtain ⟨t1, t2, t3⟩ := k1
      have a10 : mi_a h1 110 = mi_a h 110 := funext fun i => x2.a rfl (by decide) i
      have f57 : mi_f h2 6657 = mi_f h1 6657 := q2.f rfl (by decide)
      have a53 : mi_a h2 53 = mi_a h1 53 := funext fun i => q2.a rfl (by decide) i
      refine ⟨⟨by rw [f57, x3, z2], by rw [a53, x4, z3, a10, t2], fun i hi => ?_⟩, r9_i_q q (by decide) k2, r9_o_q q (by decide) k3, r9_c_q q (by decide) k4, ⟨T, r9_T_q q (by decide) k5⟩, r9_p_q q (by decide) k6⟩
      rw [a53, x4]
      rw [f57, x3] at hi
      exact apl_ok (sw_k zk) 0 (mi_a h 53) (sw9_al _) (fun i hi => absurd hi (Nat.not_lt_zero i)) i (by omega)
    · exact absurd x1 z0
/-- keep -/
def yk_W : List (Nat × Nat) := ck_W ++ xk_W
theorem P9_keep {w1 : Option mi_V} (hR : R9 h) (hS : ab_Sh sx_sk h) (hX : ck_Qk h w1 h1) (hX2 : xk_Q h1 w h2) : R9 h2 ∧ mi_f h2 13952 = 0 ∧ w = w1 := by
  have hR' := hR
  obtain ⟨k1, k2, k3, k4, ⟨T, k5⟩, k6⟩ := hR
  obtain ⟨hS1, hX⟩ := hX
  obtain ⟨-, z0, hX2⟩ := hX2
  have e32 : mi_f h 12032 = mi_f h 14015 := by rw [k5.2.1.1.1, k5.1.1]
  rcases hX with ⟨x1, rfl, rfl⟩ | ⟨x1, rfl, x2, x3, x4⟩
  · rcases hX2 with ⟨-, rfl, z2⟩ | ⟨z1, -⟩
    · exact ⟨R9_q (rq_fr hS z2) (by decide) hR', z0, rfl⟩
    · omega
  · have q1 := rq_fr hS x2
    have f15 : mi_f h1 14015 = mi_f h 14015 := q1.f rfl (by decide)
    rcases hX2 with ⟨z1, -⟩ | ⟨-, rfl, z2, z3, z4⟩
    · omega
    · have q2 := rq_fr hS1 z2
      have q : rq yk_W h h2 := (q1.wide (by decide)).trans (q2.wide (by decide))
      refine ⟨⟨rl_t_q q (by decide) k1, r9_i_q q (by decide) k2, r9_o_q q (by decide) k3, r9_c_q q (by decide) k4, ⟨T, r9_T_q q (by decide) k5⟩, ⟨⟨?_, fun i hi => ?_⟩, fun c => ?_⟩⟩, z0, rfl⟩
      · rw [q2.f (c := 12544) rfl (by decide), x3, z3, f15, e32]
      · rw [z3, f15] at hi
        have il : i < T.length := by have := k5.1.1; omega
        obtain ⟨y1, y2⟩ := x4 i (by omega)
        obtain ⟨v1, v2⟩ := z4 i (by rw [f15]; exact hi)
        obtain ⟨l, qq, d1, d2, d3⟩ := k5.2.1.1.2 i il
        obtain ⟨a1, a2, a3, a4, a5⟩ := k5.1.2.1 i il
        rw [a3] at d1
        have dd := Option.some.inj d1
        injection dd with dd1 dd2
        injection dd2 with dd2 dd3
        rw [q2.a (k := 99) rfl (by decide), q2.a (k := 100) rfl (by decide), y1, y2, v1, v2, q1.a (k := 157) rfl (by decide), q1.a (k := 155) rfl (by decide), q1.b (k := 162) rfl (by decide)]
        exact ⟨by omega, dd2.symm⟩
      · rw [q.f (c := 13959) rfl (by decide)] at c
        rw [q.f (c := 13961) rfl (by decide), q.f (c := 13962) rfl (by decide)]
        exact k6.2 c
/-- carry -/
theorem P9_carry {wr : List (Nat × Nat)} (hR : R9 h) (hS1 : ab_Sh sx_sk h1) (q1 : rq [(6913, 6914), (7040, 7041)] h h1) (x1 : mi_f h1 6913 = mi_f h 7169) (x2 : ∀ i : Nat, (i : Int) < mi_f h 7169 → mi_a h1 55 i = mi_a h 57 i) (hX2 : xc_Q h1 w h2) : R9 h2 ∧ mi_f h2 13952 = 0 ∧ w = some (.inl (mi_f h 7169)) := by
  obtain ⟨k1, k2, k3, k4, ⟨T, k5⟩, k6⟩ := hR
  obtain ⟨-, z1, z2, z3, z4, z5⟩ := hX2
  have q2 := rq_fr hS1 z1
  have q : rq ([(6913, 6914), (7040, 7041)] ++ xc_W) h h2 := (q1.wide (by decide)).trans (q2.wide (by decide))
  have f55 : mi_f h1 13955 = mi_f h 13955 := q1.f rfl (by decide)
  refine ⟨⟨rl_t_q q (by decide) k1, ⟨?_, fun i hi => ?_⟩, r9_o_q q (by decide) k3, r9_c_q q (by decide) k4, ⟨T, r9_T_q q (by decide) k5⟩, r9_p_q q (by decide) k6⟩, z4, by rw [z2, f55, k3.1]⟩
  · rw [q2.f (c := 6913) rfl (by decide), x1, z3, f55, k3.1]
  · rw [z3, f55] at hi
    rw [q2.a (k := 55) rfl (by decide), x2 i (by rw [k3.1]; exact hi), z5 i (by rw [f55]; exact hi), q1.a (k := 112) rfl (by decide)]
    exact k3.2 i hi
end PAJ
/-! the law's calls that leave the relation alone -/
def xv_wr : List (Nat × Nat) := [(21888, 21889)]
set_option maxRecDepth 20000 in
theorem xv_3 : wb_good sc_P sc_PW sx_sk xv_wr [([12, 13, 14], xc_168)] 2003 3 60 [(3, 51, 0, []), ab_top, ab_top, (3, 171, 0, [])] [(1, 0, 3, [])] = true := by decide +kernel
set_option maxRecDepth 20000 in
theorem xv_9 : wb_good sc_P sc_PW sx_sk xv_wr [([12], xc_992)] 2009 2 60 [(3, 51, 0, []), ab_top, (3, 171, 0, [])] [(1, 0, 3, [])] = true := by decide +kernel
set_option maxRecDepth 20000 in
theorem xv_10 : wb_good sc_P sc_PW sx_sk xv_wr [([14], xc_997)] 2010 3 60 [(3, 51, 0, []), (3, 171, 0, [])] [(1, 0, 3, [])] = true := by decide +kernel
def xv_env : List lb_W := [(2003, [(3, 51, 0, []), ab_top, ab_top, (3, 171, 0, [])], [(1, 0, 3, [])], 3), (2009, [(3, 51, 0, []), ab_top, (3, 171, 0, [])], [(1, 0, 3, [])], 2), (2010, [(3, 51, 0, []), (3, 171, 0, [])], [(1, 0, 3, [])], 3)]
def xq_env : List ab_C := [xc_m4, xc_157, xc_m8, xc_m11, xc_m12]
set_option maxRecDepth 20000 in
theorem xq_ok {L : Nat} {xs : Nat → Int32} : ∀ c ∈ xq_env, lb_OkP sc_P sx_sk (lj_J M9 L xs) c := List.forall_mem_cons.mpr ⟨l9_P xo_m4 rfl (by decide +kernel), List.forall_mem_cons.mpr ⟨l9_P xo_157 rfl (by decide +kernel), List.forall_mem_cons.mpr ⟨l9_P xo_m8 rfl (by decide +kernel), List.forall_mem_cons.mpr ⟨l9_P xo_m11 rfl (by decide +kernel), List.forall_mem_cons.mpr ⟨l9_P xo_m12 rfl (by decide +kernel), fun _ h => absurd h List.not_mem_nil⟩⟩⟩⟩⟩
set_option maxRecDepth 20000 in
theorem xv_ok {L : Nat} {xs : Nat → Int32} : ∀ w ∈ xv_env, lb_OkW sc_P sc_PW sx_sk (lj_J M9 L xs) w := List.forall_mem_cons.mpr ⟨l9_W (List.forall_mem_cons.mpr ⟨xo_168, fun _ h => absurd h List.not_mem_nil⟩) xv_3 (by decide +kernel), List.forall_mem_cons.mpr ⟨l9_W (List.forall_mem_cons.mpr ⟨xo_992, fun _ h => absurd h List.not_mem_nil⟩) xv_9 (by decide +kernel), List.forall_mem_cons.mpr ⟨l9_W (List.forall_mem_cons.mpr ⟨xo_997, fun _ h => absurd h List.not_mem_nil⟩) xv_10 (by decide +kernel), fun _ h => absurd h List.not_mem_nil⟩⟩⟩
set_option maxRecDepth 20000 in
theorem xl_4 : lb_exp sc_P sc_PW sx_sk xq_env xv_env sl_tab 574 xl_HL 60 300 1 223 (ab_headl 0 xl_HL, [], []) = true := by decide +kernel
set_option maxRecDepth 20000 in
theorem xl_10 : lb_exp sc_P sc_PW sx_sk xq_env xv_env sl_tab 574 xl_HL 60 300 1 479 (ab_headl 0 xl_HL, [], []) = true := by decide +kernel
set_option maxRecDepth 20000 in
theorem xl_13 : lb_exp sc_P sc_PW sx_sk xq_env xv_env sl_tab 574 xl_HL 60 300 1 533 (ab_headl 0 xl_HL, [], []) = true := by decide +kernel
set_option maxRecDepth 20000 in
theorem xl_14 : lb_exp sc_P sc_PW sx_sk xq_env xv_env sl_tab 574 xl_HL 60 300 1 549 (ab_headl 0 xl_HL, [], []) = true := by decide +kernel
def xl_ls (x : Int32) (a b c : Option Value) : sm_L := [some (.ref 0), some (.ref 51), some (.ref 109), some (.ref 171), some (.int x), a, b, c]
section C3
variable {MJ : sm_H → Prop} {L : Nat} {xs : Nat → Int32} {QL : sm_H → Prop}
theorem lj_load {h : sm_H} {pc : Nat} {i : Int32} {s : List Value} {ls : sm_L} (hJ : lj_J MJ L xs h) (hi : 0 ≤ i.toInt ∧ i.toInt < (L : Int)) : sm_step (.iaload, 1, []) pc ls (.int i :: .ref 0 :: s) h = some (.inl (pc + 1, ls, .int (xs i.toNatClampNeg) :: s, h)) := by
  have h1 := mx_ix hi
  simp only [sm_step, sm_ald]
  rw [hJ.2.2]
  dsimp only
  rw [if_pos ⟨rfl, h1.1, Or.inr (Or.inl trivial)⟩]
  rfl
theorem lj_add {x : Int32} {c : Int} (hc : 0 ≤ c ∧ c ≤ 4) (hx : 0 ≤ x.toInt ∧ x.toInt + 4 ≤ (L : Int)) (hL : L ≤ 2048) : (x + Int32.ofInt c).toInt = x.toInt + c := by
  rw [Int32.toInt_add, Int32.toInt_ofInt_of_le (by omega) (by omega)]
  exact ab_bm (by omega) (by omega)
/-- a call on the reference by its class -/
theorem c3_virt {h : sm_H} {pc idx n m : Nat} {ls : sm_L} {vs r : List Value} {st : List Value} (hSh : ab_Sh sx_sk h) (ha : sm_args (n + 1) st = some (.ref 109 :: vs, r)) : sm_step (.invokevirtual idx, 3, [0, n, 11, m]) pc ls st h = some (.inr (.inr (m, .ref 109 :: vs, r))) := by
  have hk : ∃ fl, sx_sk[109]? = some (some (.inr (11, fl))) := ⟨_, rfl⟩
  obtain ⟨fl, hk⟩ := hk
  obtain ⟨fs, ho, -, -⟩ := mx_obj hSh hk
  simp only [sm_step, sm_callV]
  rw [ha]
  dsimp only
  rw [ho]
  rfl
end C3
section C4
variable {L : Nat} {xs : Nat → Int32} {QL : sm_H → Prop}
theorem c4_in {p : Int32} {lo hi : Int} (h1 : lo ≤ p.toInt) (h2 : p.toInt ≤ hi) : ab_nv (1, lo, hi, []) (some (.int p)) := ⟨p, rfl, h1, h2, fun _ ht => absurd ht List.not_mem_nil⟩
theorem c4_nv {x : Int32} {a b c : Option Value} (hx : 0 ≤ x.toInt ∧ x.toInt ≤ 2147483000) : ∀ (j : Nat) (v : ab_V), xl_HL[j]? = some v → ab_nv v (sm_lget (xl_ls x a b c) j) := by
  intro j v hj
  match j, hj with
  | 0, hj => cases hj; rfl
  | 1, hj => cases hj; rfl
  | 2, hj => cases hj; rfl
  | 3, hj => cases hj; rfl
  | 4, hj => cases hj; exact c4_in hx.1 hx.2
  | 5, hj => cases hj; trivial
  | 6, hj => cases hj; trivial
  | 7, hj => cases hj; trivial
  | j + 8, hj => cases hj
theorem c4_eta {ls : sm_L} {x : Int32} (h1 : ls.length = 8) (h2 : ∀ (j : Nat) (v : ab_V), xl_HL[j]? = some v → ab_nv v (sm_lget ls j)) (h3 : sm_lget ls 4 = some (.int x)) : ∃ a b c, ls = xl_ls x a b c := by
  match ls, h1 with
  | [l0, l1, l2, l3, l4, l5, l6, l7], _ =>
    have g : ∀ (l : Option Value) (n : Nat), ab_nv (3, (n : Int), 0, []) l → l = some (.ref n) := fun l n hn => hn
    have j0 := g _ 0 (h2 0 _ rfl)
    have j1 := g _ 51 (h2 1 _ rfl)
    have j2 := g _ 109 (h2 2 _ rfl)
    have j3 := g _ 171 (h2 3 _ rfl)
    have gg : ∀ (o : Option Value) (v : Value), (match (some o : Option (Option Value)) with
      | some (some v) => some v
      | _ => none) = some v → o = some v := fun o v ho => by
      cases o with
      | none => cases ho
      | some w => exact ho
    rw [gg l0 _ j0, gg l1 _ j1, gg l2 _ j2, gg l3 _ j3, gg l4 _ h3]
    exact ⟨l5, l6, l7, rfl⟩
theorem c4_go {x : Int32} {a b c : Option Value} {h : sm_H} {C S pc : Nat} (hL : L ≤ 2048) (hexp : lb_exp sc_P sc_PW sx_sk xq_env xv_env sl_tab 574 xl_HL 60 300 1 pc (ab_headl 0 xl_HL, [], []) = true) (hx : 0 ≤ x.toInt ∧ x.toInt + 4 ≤ (L : Int)) (hSh : ab_Sh sx_sk h) (hJ : lj_J M9 L xs h) (hC : h.length + 1 ≤ C) (hS : sm_sl h + 6 ≤ S)
    (kk : ∀ (a b c : Option Value) (h' : sm_H), ab_Sh sx_sk h' → lj_J M9 L xs h' → h'.length ≤ C → sm_sl h' ≤ S → lb_Ends sc_P sc_PW sl_tab 300 574 (xl_ls x a b c) [] h' QL) : lb_Ends sc_P sc_PW sl_tab 300 pc (xl_ls x a b c) [] h QL := by
  refine lb_exp_ok (N := 8) (L0 := xl_ls x a b c) (h0 := h) (x0 := x) xq_ok xv_ok rfl hx (fun h hJ => hJ.2.2) (fun ls h' g1 g2 g3 g4 g5 g6 g7 g8 => ?_) 60 1 pc _ (xl_ls x a b c) [] h hexp rfl ⟨⟨rfl, fun j v hj => ?_⟩, trivial, fun e he => absurd he List.not_mem_nil⟩ hSh hJ hC hS
  · obtain ⟨a', b', c', rfl⟩ := c4_eta g1 g2 g4
    exact kk a' b' c' h' g5 g6 g7 g8
  · have := ab_headl_ok (ls := xl_ls x a b c) (h := h) xl_HL 0 (fun j b hj => by rw [Nat.zero_add]; exact c4_nv ⟨hx.1, by omega⟩ j b hj) j v hj
    rw [Nat.zero_add] at this
    exact this
end C4
/-! the law's calls: the class's half, the reference's half -/
theorem mg_run {QT : Nat → sm_H → Prop} {d m nl : Nat} {as : List mi_V} {vs : List Value} {h : sm_H} {Q : Option mi_V → sm_H → Prop} (e : as.map mi_c = vs) (k : mg_E QT d m 0 (mi_entry nl as) [] h Q) : ab_EndsX sc_P QT d m 0 (sm_entry nl vs) [] h (fun v h' => ∃ w, v = w.map mi_c ∧ (∀ x, w = some x → mi_ok x) ∧ Q w h') := by
  unfold mg_E at k
  rw [← mi_entry_eq, e] at k
  exact k
theorem me_run9 {d m nl : Nat} {as : List mi_V} {vs : List Value} {h : sm_H} {Q : Option mi_V → sm_H → Prop} (e : as.map mi_c = vs) (k : me_E d m 0 (mi_entry nl as) [] h Q) : ab_Ends sc_P d m 0 (sm_entry nl vs) [] h (fun v h' => ∃ w, v = w.map mi_c ∧ (∀ x, w = some x → mi_ok x) ∧ Q w h') := by
  unfold me_E at k
  rw [← mi_entry_eq, e] at k
  exact k
/-- what the reference's call leaves -/
def RO9 (L : Nat) (xs : Nat → Int32) (h1 : sm_H) (Y : Option mi_V → sm_H → Prop) (v : Option Value) (h2 : sm_H) : Prop := ∃ w, v = w.map mi_c ∧ ab_Sh sx_sk h2 ∧ lj_J M9 L xs h2 ∧ h2.length = h1.length ∧ sm_sl h2 = sm_sl h1 ∧ h2[171]? = h1[171]? ∧ Y w h2
section H9
variable {L : Nat} {xs : Nat → Int32} {h h1 h2 : sm_H} {W wr : List (Nat × Nat)} {Y : Option mi_V → sm_H → Prop} {w : Option mi_V} {T : List (Int × Int × Int)}
theorem ro9 (J1 : lj_J MJ L xs h1) (S1 : ab_Sh sx_sk h1) (F : ab_Fr W h1 h2) (hw : (!ab_in W 0 && !ab_in W 21888) = true) (S2 : ab_Sh sx_sk h2) (hM : MJ h2) (hR : R9 h2) (hY : Y w h2) : RO9 L xs h1 Y (w.map mi_c) h2 := by
  rw [Bool.and_eq_true, Bool.not_eq_true', Bool.not_eq_true'] at hw
  obtain ⟨f, hf⟩ := c9_out S1
  refine ⟨w, rfl, S2, ⟨⟨hM, S2, hR⟩, by rw [F.1]; exact J1.2.1, F.2.2 0 _ J1.2.2 hw.1⟩, F.1, F.2.1, ?_, hY⟩
  rw [hf]
  exact F.2.2 171 _ hf hw.2
theorem mj_fr9 (J1 : lj_J MJ L xs h1) (hw : ab_sub_wr W mj_wr = true) (F : ab_Fr W h1 h2) : MJ h2 := (lj_fr (MJ := MJ) mj_MJ J1 hw F).1
theorem rq_thr {g : sm_H} {x : Nat} (hl : 172 ≤ h.length) (hS : ab_Sh sx_sk h) (F : ab_Fr wr h g) (hw : ab_sub_wr wr W = true) : rq W h (g ++ [sm_exc x]) := ((rq_fr hS F).wide hw).trans ((rq_app (by rw [F.1]; exact hl)).wide (by rfl))
/-! parse -/
theorem we9_parse (hSh : ab_Sh sx_sk h) (hJ : lj_J M9 L xs h) : wb_Ends sc_P sc_PW 256 2004 0 (sm_entry 3 [.ref 51, .ref 171]) [] h (WO9 (fun k _ h1 => XP h k h1) L xs h) := by
  have hR := hJ.1.2.2
  obtain ⟨k1, k2, k3, k4, -, k6⟩ := hR
  obtain ⟨i0⟩ : Nonempty {E : pm_E // mi_f h 6543 ≠ 0 → pc_H h (mi_a h) E} := by
    by_cases c : mi_f h 6543 ≠ 0
    · have st2 := k4.1.mp c
      obtain ⟨f, it, Y, hk⟩ := k4.2.1 st2
      obtain ⟨E, p, N, e1, e2, e3⟩ := tok_ex hSh st2 hk k2
      exact ⟨⟨E, fun _ => pcH_of hk k2 e1 e2 e3⟩⟩
    · exact ⟨⟨px_E h, fun q => absurd q c⟩⟩
  refine w9_parse (wr := pcr_W) hSh ⟨hJ.1.1, hJ.2⟩ (by decide) (mg_run (as := [.inr (.inr 51)]) rfl (mg_E.all i0 (fun i => me_parsec (E := i.1) hSh i.2))) ?_ ?_
  · intro v h1 hq
    obtain ⟨w, rfl, -, hq⟩ := hq
    have F : ab_Fr pcr_W h h1 := by
      rcases (hq i0).2.2.2 with ⟨-, q⟩ | ⟨q, -⟩
      · exact q.wide (fun c hc => ab_swr_ok (by decide) hc)
      · exact q
    have hq0 := hq i0
    obtain ⟨s1, g1, ⟨z, rfl⟩, -⟩ := hq0
    refine ⟨Int32.ofInt z, rfl, s1, F, fun h2 r => ⟨((rq_fr hSh F).wide (by decide)).trans (r.wide (by decide)), Or.inr ⟨g1, fun E hE => ?_⟩⟩⟩
    obtain ⟨-, -, -, q⟩ := hq ⟨E, fun _ => hE⟩
    rcases q with ⟨q1, q2⟩ | ⟨-, s', q1, q2, -, q3, q4⟩
    · exact Or.inl ⟨q1, ((rq_fr hSh q2).wide (by decide)).trans (r.wide (by decide))⟩
    · exact Or.inr ⟨s', q1, q2, q3, gc_S_e (eq9_rq r (by decide) (by decide) (by decide)) q4⟩
  · intro x h1 ht
    have hl := hJ.2.1
    obtain ⟨g, e, s1, F, hx⟩ := ht i0
    refine ⟨g, e, s1, F.wide (fun c hc => ab_swr_ok (by decide) hc), ?_⟩
    subst e
    have qN : rq xp_N h (g ++ [sm_exc x]) := rq_thr hl hSh F (by decide)
    have qY : rq xp_Y h (g ++ [sm_exc x]) := rq_thr hl hSh F (by decide)
    rcases hx with ⟨rfl, x1⟩ | ⟨rfl, x1, -⟩
    · exact Or.inl ⟨rfl, qY, Or.inl ⟨x1, rfl, qN⟩⟩
    · refine Or.inr ⟨rfl, qY, Or.inr ⟨x1, fun E hE => Or.inl ⟨?_, qN⟩⟩⟩
      obtain ⟨g', -, -, -, hx⟩ := ht ⟨E, fun _ => hE⟩
      rcases hx with ⟨x2, -⟩ | ⟨-, -, x2⟩
      · exact absurd x2 (by decide)
      · exact x2
theorem wr9_parse {k : Int} (hR : R9 h) (S1 : ab_Sh sx_sk h1) (J1 : lj_J MJ L xs h1) (hX : XP h k h1) : ab_Ends sc_P 20 228 0 (sm_entry 1 [.ref 109]) [] h1 (RO9 L xs h1 (fun w _ => ∃ z, w = some (.inl z))) := by
  have hG : 2 ≤ mi_f h1 13959 → pr_G h1 := fun q => by
    have qY := hX.1
    have e59 : mi_f h1 13959 = mi_f h 13959 := qY.f rfl (by decide)
    have b := hR.2.2.2.1.2.2.1
    obtain ⟨f, it, Y, hk⟩ := hR.2.2.2.1.2.1 (by omega)
    exact prG_of (rq_k qY (by decide) hk) (r9_i_q qY (by decide) hR.2.1)
  refine ab_Ends.imp (me_run9 (as := [.inr (.inr 109)]) rfl ((me_parsef (d := 0) S1 J1.1.2.2).and (me_parsex (d := 0) S1 hG))) (fun v h2 hq => ?_)
  obtain ⟨w, rfl, -, ⟨⟨z, rfl, -⟩, m1, m2, m3⟩, hX2⟩ := hq
  exact ro9 J1 S1 m2 (by decide) m1 (mj_of m1 m3) (P9_parse hR S1 hX hX2) ⟨z, rfl⟩
/-! grow -/
theorem we9_grow {zx : Int64} {f : Int32} (hSh : ab_Sh sx_sk h) (hJ : lj_J M9 L xs h) : wb_Ends sc_P sc_PW 246 2005 0 (sm_entry 6 [.ref 51, .long zx, .int f, .ref 171]) [] h (WO9 (fun k _ h1 => XG h zx f.toInt k h1) L xs h) := by
  obtain ⟨k1, k2, k3, k4, -, k6⟩ := hJ.1.2.2
  have em : ([.inr (.inr 51), .inr (.inl zx), .inl f.toInt] : List mi_V).map mi_c = [.ref 51, .long zx, .int f] := by
    simp only [List.map, mi_cT]
    rfl
  have kk := me_growcn (zx := zx) (zf := f.toInt) hSh (mi_inT f) (fun c => by
    obtain ⟨f', it, Y, hk⟩ := k4.2.1 (k4.1.mp c)
    exact ⟨f', it, Y, hk.1⟩)
  refine w9_grow (wr := gc_W) hSh ⟨hJ.1.1, hJ.2⟩ (by decide) (mg_run (nl := 4) em kk) ?_ ?_
  · intro v h1 hq
    obtain ⟨w, rfl, -, s1, F, z, b, s', ro, rfl, q3, q4⟩ := hq
    exact ⟨_, rfl, s1, F, fun h2 r => ⟨((rq_fr hSh F).wide (by decide)).trans (r.wide (by decide)), Or.inr (Or.inr (Or.inr ⟨rfl, z, b, s', ro, q3, gc_S_e (eq9_rq r (by decide) (by decide) (by decide)) q4⟩))⟩⟩
  · intro x h1 ht
    have hl := hJ.2.1
    obtain ⟨g, e, s1, F, hx⟩ := ht
    refine ⟨g, e, s1, F.wide (fun c hc => ab_swr_ok (by decide) hc), ?_⟩
    subst e
    have qN : rq xg_N h (g ++ [sm_exc x]) := rq_thr hl hSh F (by decide)
    have qY : rq xg_Y h (g ++ [sm_exc x]) := rq_thr hl hSh F (by decide)
    rcases hx with ⟨rfl, z⟩ | ⟨rfl, z, b⟩ | ⟨rfl, z, b, no⟩
    · exact Or.inl ⟨rfl, qY, Or.inl ⟨rfl, z, qN⟩⟩
    · exact Or.inr (Or.inl ⟨rfl, qY, Or.inr (Or.inl ⟨rfl, z, b, qN⟩)⟩)
    · exact Or.inr (Or.inr ⟨rfl, qY, Or.inr (Or.inr (Or.inl ⟨rfl, z, b, no, qN⟩))⟩)
theorem wr9_grow {zx : Int64} {f : Int32} {k : Int} (hR : R9 h) (S1 : ab_Sh sx_sk h1) (J1 : lj_J MJ L xs h1) (hX : XG h zx f.toInt k h1) : ab_Ends sc_P 20 232 0 (sm_entry 4 [.ref 109, .long zx, .int f]) [] h1 (RO9 L xs h1 (fun w _ => ∃ z, w = some (.inl z))) := by
  have em : ([.inr (.inr 109), .inr (.inl zx), .inl f.toInt] : List mi_V).map mi_c = [.ref 109, .long zx, .int f] := by
    simp only [List.map, mi_cT]
    rfl
  have hG : 2 ≤ mi_f h1 13959 → ∃ Y, wk_L (mi_a h1) Y ∧ wk_Lrule Y (mi_a h1 114 0) ∧ ∀ f, 0 ≤ f → f < wk_f Y → mi_a h1 130 f.toNat ≤ 10000 := fun q => by
    have qY := hX.1
    have e59 : mi_f h1 13959 = mi_f h 13959 := qY.f rfl (by decide)
    have b := hR.2.2.2.1.2.2.1
    obtain ⟨f, it, Y, hk⟩ := hR.2.2.2.1.2.1 (by omega)
    obtain ⟨⟨g1, g2, -⟩, -⟩ := rq_k qY (by decide) hk
    exact ⟨Y, g1.1, g2, fun F F0 F1 => Int.le_trans (g1.2.1 F F0 F1).2.2.2.1 (by decide)⟩
  refine ab_Ends.imp (me_run9 (nl := 4) em (((me_growf (d := 0) S1 J1.1.2.2 (mi_inT f)).and (me_growx (d := 0) S1 (mi_inT f) hG)).and (me_growr0 (d := 0) S1 (mi_inT f) hG))) (fun v h2 hq => ?_)
  obtain ⟨w, rfl, -, ⟨⟨⟨z, rfl, -⟩, m1, m2, m3⟩, hX2⟩, hF⟩ := hq
  exact ro9 J1 S1 m2 (by decide) m1 (mj_of m1 m3) (P9_grow hR S1 hX hX2 hF) ⟨z, rfl⟩
/-! print -/
theorem lgd_lt : ∀ (n : Nat) (v : Int), lgd n v → 0 ≤ v → v < 32 ^ n := by
  intro n
  induction n with
  | zero =>
    intro v h v0
    have h : v = 0 := h
    rw [h]
    decide
  | succ n ih =>
    intro v h v0
    have p : (0 : Int) < 32 ^ n := Int.pow_pos (by decide)
    have p5 : (32 : Int) ^ (n + 1) = 32 ^ n * 32 := Int.pow_succ ..
    rcases h with h | ⟨h1, h2, h3⟩
    · omega
    · have := ih (v / 32) h3 (by omega)
      omega
theorem pr9_R (hR : R9 h) (hT : r9_T h T) : ∃ R : Option ox, (mi_f h 12032 ≠ 0 → ∃ Ls, pz_H (tq_L h) (mi_a h) (yv h) h Ls ∧ R = ofd (tq_L h) (mi_a h) Ls (some ([], 0, 0, 0))) ∧ ∀ h1, rq xr_Y h h1 → mj_0 h1 → mi_f h1 14015 ≠ 0 → ∃ Y N sN LN n, wk_L (mi_a h1) Y ∧ wk_Lrule Y (mi_a h1 114 0) ∧ tp_N (mi_a h1) (wk_K 2 h1) (wk_V 2 h1) n ∧ n ≤ 100 ∧ zp_G Y h1 N sN LN ∧ R = zp_f h1 LN (some ([], 0, 0, 0)) := by
  obtain ⟨k1, k2, k3, k4, -, k6⟩ := hR
  obtain ⟨hs, hc, hl, hn⟩ := hT
  by_cases hne : T = []
  · have e0 : mi_f h 12032 = 0 := by rw [hc.1.1, hne]; rfl
    have e1 : mi_f h 14015 = 0 := by rw [hs.1, hne]; rfl
    exact ⟨none, fun q => absurd e0 q, fun h1 q _ q2 => absurd ((q.f (c := 14015) rfl (by decide)).trans e1) q2⟩
  obtain ⟨st2, ⟨⟨N, sN, n1, n2, n3⟩, tv⟩, vals⟩ := hn hne
  obtain ⟨Ls, hL⟩ := pe_of (ev := dv (mi_a h) (yv h)) N _ n2
  obtain ⟨f, it, Y, hk⟩ := k4.2.1 st2
  obtain ⟨⟨g1, g2, g3⟩, g4, -, -, -, g7, g8⟩ := hk
  refine ⟨ofd (tq_L h) (mi_a h) Ls (some ([], 0, 0, 0)), fun _ => ⟨Ls, ⟨f, it, Y, gx_k h, N, sN, ⟨g1, g4, by rw [hc.1.1]; omega⟩, g2, g3, hL, n1, ?_, by rw [n3]; exact hc.1.1, fun x hx => ?_⟩, rfl⟩, fun h1 q hm n0 => ?_⟩
  · rw [n3]
    refine ⟨fun k hk => ?_, fun k hk => ?_⟩
    · obtain ⟨l, qq, d1, -⟩ := hc.1.2 k hk
      rw [List.getElem?_map, d1, Nat.zero_add]
      rfl
    · rw [Nat.zero_add]
      exact hc.2.2 k hk
  · rw [n3] at hx
    have := vals x hx
    exact ⟨this.2, this.1.1, this.1.2⟩
  · have e9 := eq9_rq q s9_c.1 s9_c.2 (by decide)
    have hg : wk_gc (mi_a h) (mi_a h1) := rq_gc q (by decide)
    have ey : yv h1 = yv h := funext fun c => by
      unfold yv
      rw [q.b (k := 162) rfl (by decide)]
    have eL : tq_L h1 = tq_L h := funext fun l => by
      unfold tq_L
      rw [e9.2.1 118 (by decide), e9.1 117 (by decide)]
    have e0 : tr_0 (mi_a h1) = tr_0 (mi_a h) := by
      unfold tr_0
      rw [hg 114 (by decide)]
    have nl : mi_f h1 14015 = (T.length : Int) := (q.f (c := 14015) rfl (by decide)).trans hs.1
    refine ⟨Y, N, sN, Ls, (mi_f h1 14015).toNat, wk_L_g g1.1 hg, by rw [hg 114 (by decide)]; exact g2, (hm.2 n0).2, by omega, ⟨?_, n1, ?_, fun x hx => ?_, fun u u0 u1 q1 => ?_, fun u u0 u1 q8 => ?_⟩, ?_⟩
    · rw [dm_st_g hg, dv_g hg, ey, e0]
      exact hL
    · rw [ey]
      intro x hx
      rw [n3] at hx
      exact tv x hx
    · rw [n3] at hx
      obtain ⟨⟨v1, v2⟩, -⟩ := vals x hx
      refine ⟨v1, fun q3 => ⟨(v2 q3).1, ?_⟩⟩
      have p6 : (32 : Int) ^ 6 = 1073741824 := by decide
      have := lgd_lt 6 _ (v2 q3).2 (by have := (v2 q3).1; omega)
      omega
    · rw [hg 119 (by decide)] at q1
      rw [hg 120 (by decide)]
      obtain ⟨-, a, b⟩ := (g4.1 u u0 u1).1 q1
      exact ⟨a, b⟩
    · rw [hg 119 (by decide)] at q8
      rw [hg 120 (by decide), e9.2.1 118 (by decide), e9.1 117 (by decide)]
      obtain ⟨-, ⟨a0, -⟩, -⟩ := (g4.1 u u0 u1).2 q8
      have b := g7 u u0 u1 q8
      obtain ⟨-, -, c2, c3, c4⟩ := g8.2.2 (mi_a h 120 u.toNat).toNat (by omega)
      refine ⟨c3, ?_, c4⟩
      unfold tq_L at c2
      split at c2
      · omega
      · omega
    · unfold zp_f
      rw [eL, ofd_g hg]
theorem we9_print {R : Option ox} (hSh : ab_Sh sx_sk h) (hJ : lj_J M9 L xs h) (hP : mi_f h 12032 ≠ 0 → ∃ Ls, pz_H (tq_L h) (mi_a h) (yv h) h Ls ∧ R = ofd (tq_L h) (mi_a h) Ls (some ([], 0, 0, 0))) : wb_Ends sc_P sc_PW 251 2008 0 (sm_entry 3 [.ref 51, .ref 171]) [] h (WO9 (fun k y h1 => XR h R k h1 ∧ (k = 0 → ∃ o, R = some o ∧ y.toInt = (o.1.length : Int))) L xs h) := by
  obtain ⟨Ls, hP'⟩ : ∃ Ls, mi_f h 12032 ≠ 0 → pz_H (tq_L h) (mi_a h) (yv h) h Ls ∧ R = ofd (tq_L h) (mi_a h) Ls (some ([], 0, 0, 0)) := by
    by_cases c : mi_f h 12032 ≠ 0
    · obtain ⟨Ls, a⟩ := hP c
      exact ⟨Ls, fun _ => a⟩
    · exact ⟨[], fun q => absurd q c⟩
  refine w9_print (wr := wr_pz) hSh ⟨hJ.1.1, hJ.2⟩ (by decide) (mg_run (as := [.inr (.inr 51)]) rfl (me_printc hSh hP')) ?_ ?_
  · intro v h1 hq
    obtain ⟨w, rfl, ow, s1, n0, o, eR, rfl, F, q1, q2, q3⟩ := hq
    have oz : mi_in (o.1.length : Int) := ow _ rfl
    refine ⟨_, rfl, s1, F, fun h2 r => ⟨⟨((rq_fr hSh F).wide (by decide)).trans (r.wide (by decide)), Or.inr (Or.inr ⟨rfl, n0, o, eR, ?_, fun j hj => ?_, q3⟩)⟩, fun _ => ⟨o, eR, i2l_v oz⟩⟩⟩
    · rw [r.f (c := 7169) rfl (by decide)]
      exact q1
    · rw [r.a (k := 57) rfl (by decide)]
      exact q2 j hj
  · intro x h1 ht
    have hl := hJ.2.1
    obtain ⟨g, e, s1, F, hx⟩ := ht
    refine ⟨g, e, s1, F.wide (fun c hc => ab_swr_ok (by decide) hc), ?_⟩
    subst e
    have qN : rq xr_N h (g ++ [sm_exc x]) := rq_thr hl hSh F (by decide)
    have qY : rq xr_Y h (g ++ [sm_exc x]) := rq_thr hl hSh F (by decide)
    rcases hx with ⟨rfl, z⟩ | ⟨rfl, z, b⟩
    · exact Or.inl ⟨rfl, ⟨qY, Or.inl ⟨rfl, z, qN⟩⟩, fun q => absurd q (by decide)⟩
    · exact Or.inr ⟨rfl, ⟨qY, Or.inr (Or.inl ⟨rfl, z, b, qN⟩)⟩, fun q => absurd q (by decide)⟩
theorem wr9_print {R : Option ox} {k : Int} (hR : R9 h) (S1 : ab_Sh sx_sk h1) (J1 : lj_J MJ L xs h1) (hX : XR h R k h1) (hP : ∀ h1, rq xr_Y h h1 → mj_0 h1 → mi_f h1 14015 ≠ 0 → ∃ Y N sN LN n, wk_L (mi_a h1) Y ∧ wk_Lrule Y (mi_a h1 114 0) ∧ tp_N (mi_a h1) (wk_K 2 h1) (wk_V 2 h1) n ∧ n ≤ 100 ∧ zp_G Y h1 N sN LN ∧ R = zp_f h1 LN (some ([], 0, 0, 0))) : ab_Ends sc_P 20 205 0 (sm_entry 2 [.ref 109]) [] h1 (RO9 L xs h1 (fun w h2 => mi_f h2 13952 = k ∧ ∃ z, w = some (.inl z) ∧ mi_in z ∧ (k = 0 → ∃ o, R = some o ∧ z = (o.1.length : Int)))) := by
  refine ab_Ends.imp (me_run9 (as := [.inr (.inr 109)]) (nl := 2) rfl ((me_printf (d := 0) S1 J1.1.2.2).and (me_printx (d := 0) S1 (hP h1 hX.1 J1.1.2.2)))) (fun v h2 hq => ?_)
  obtain ⟨w, rfl, ow, ⟨⟨z, rfl, -⟩, m1, m2, m3⟩, hX2⟩ := hq
  obtain ⟨p1, p2, p3⟩ := P9_print hR S1 hX hX2
  refine ro9 J1 S1 m2 (by decide) m1 (mj_of m1 m3) p1 ⟨p2, z, rfl, ow _ rfl, fun q => ?_⟩
  obtain ⟨o, o1, o2⟩ := p3 q
  refine ⟨o, o1, ?_⟩
  injection o2 with o2
  injection o2
/-! node -/
def XN (h : sm_H) (T : List (Int × Int × Int)) (zk zw : Int) (k : Int) (y : Int64) (h1 : sm_H) : Prop := rq xq_W h h1 ∧ ((k = 1 ∧ (zk < 0 ∨ (T.length : Int) ≤ zk)) ∨ (k = 2 ∧ 0 ≤ zk ∧ zk < (T.length : Int) ∧ (zw < 0 ∨ 3 < zw)) ∨ (k = 0 ∧ 0 ≤ zk ∧ zk < (T.length : Int) ∧ 0 ≤ zw ∧ zw ≤ 3 ∧ nd_v T zk.toNat zw y.toInt))
theorem we9_node {p q : Int32} (hSh : ab_Sh sx_sk h) (hJ : lj_J M9 L xs h) (hT : r9_T h T) : wb_Ends sc_P sc_PW 3 2006 0 (sm_entry 5 [.ref 51, .int p, .int q, .ref 171]) [] h (WO9 (XN h T p.toInt q.toInt) L xs h) := by
  have em : ([.inr (.inr 51), .inl p.toInt, .inl q.toInt] : List mi_V).map mi_c = [.ref 51, .int p, .int q] := by
    simp only [List.map, mi_cT]
    rfl
  refine w9_node (wr := []) (d := 2) hSh ⟨hJ.1.1, hJ.2⟩ (by decide) (mg_run (nl := 3) em (me_nodec (d := 0) hSh (mi_inT p) (mi_inT q) hT.2.1 hT.2.2.1)) ?_ ?_
  · intro v h1 hq
    obtain ⟨w, rfl, -, e, a1, a2, a3, a4, y, rfl, hv⟩ := hq
    subst e
    exact ⟨y, rfl, hSh, ab_Fr.refl, fun h2 r => ⟨r, Or.inr (Or.inr ⟨rfl, a1, a2, a3, a4, hv⟩)⟩⟩
  · intro x h1 ht
    have hl := hJ.2.1
    obtain ⟨e, hx⟩ := ht
    refine ⟨h, e, hSh, ab_Fr.refl, ?_⟩
    subst e
    have q0 : rq xq_W h (h ++ [sm_exc x]) := (rq_app hl).wide (by decide)
    rcases hx with ⟨rfl, z⟩ | ⟨rfl, z1, z2, z3⟩
    · exact Or.inl ⟨rfl, q0, Or.inl ⟨rfl, z⟩⟩
    · exact Or.inr ⟨rfl, q0, Or.inr (Or.inl ⟨rfl, z1, z2, z3⟩)⟩
theorem wr9_node {p q : Int32} {k : Int} {y : Int64} (hR : R9 h) (hT : r9_T h T) (S1 : ab_Sh sx_sk h1) (J1 : lj_J MJ L xs h1) (hX : XN h T p.toInt q.toInt k y h1) : ab_Ends sc_P 20 233 0 (sm_entry 4 [.ref 109, .int p, .int q]) [] h1 (RO9 L xs h1 (fun w h2 => mi_f h2 13952 = k ∧ ∃ y2 : Int64, w = some (.inr (.inl y2)) ∧ (k = 0 → y2 = y))) := by
  have em : ([.inr (.inr 109), .inl p.toInt, .inl q.toInt] : List mi_V).map mi_c = [.ref 109, .int p, .int q] := by
    simp only [List.map, mi_cT]
    rfl
  have qx := hX.1
  have hT1 : r9_T h1 T := r9_T_q qx (by decide) hT
  refine ab_Ends.imp ((me_run9 (nl := 4) em (me_noder (d := 0) S1 (mi_inT p) (mi_inT q) hT1.1 hT1.2.2.1)).deep (by decide)) (fun v h2 hq => ?_)
  obtain ⟨w, rfl, -, m1, m2, y2, rfl, hv⟩ := hq
  have R2 : R9 h2 := R9_q ((qx.wide (wr' := ys_N) (by decide)).trans ((rq_fr S1 m2).wide (by decide))) (by decide) hR
  refine ro9 J1 S1 m2 (by decide) m1 (mj_fr9 J1 (by decide) m2) R2 ?_
  rcases hX.2 with ⟨rfl, x1⟩ | ⟨rfl, x1, x2, x3⟩ | ⟨rfl, x1, x2, x3, x4, x5⟩
  · rcases hv with ⟨-, z⟩ | ⟨z1, z2, -⟩ | ⟨z1, z2, -⟩
    · exact ⟨z, y2, rfl, fun c => absurd c (by decide)⟩
    · omega
    · omega
  · rcases hv with ⟨z1, -⟩ | ⟨-, -, -, z⟩ | ⟨-, -, z3, z4, -⟩
    · omega
    · exact ⟨z, y2, rfl, fun c => absurd c (by decide)⟩
    · omega
  · rcases hv with ⟨z1, -⟩ | ⟨-, -, z3, -⟩ | ⟨-, -, -, -, z, zv⟩
    · omega
    · omega
    · exact ⟨z, y2, rfl, fun _ => Int64.toInt_inj.mp (nd_v_u zv x5)⟩
/-! set -/
theorem we9_set {p : Int32} {zv : Int64} (hSh : ab_Sh sx_sk h) (hJ : lj_J M9 L xs h) (hT : r9_T h T) : wb_Ends sc_P sc_PW 3 2007 0 (sm_entry 6 [.ref 51, .int p, .long zv, .ref 171]) [] h (WO9 (XS h T p.toInt zv) L xs h) := by
  have em : ([.inr (.inr 51), .inl p.toInt, .inr (.inl zv)] : List mi_V).map mi_c = [.ref 51, .int p, .long zv] := by
    simp only [List.map, mi_cT]
    rfl
  have c4 := hJ.1.2.2.2.2.2.1
  have kk : mg_E (cst_T h T p.toInt) (0 + 2) 162 0 [some (.inr (.inr 51)), some (.inl p.toInt), some (.inr (.inl zv)), none, none, none] [] h (cst_Q h T p.toInt zv) := by
    by_cases hne : T = []
    · subst hne
      have t0 : mi_f h 12032 = 0 := hT.2.1.1.1
      refine mt_kstA hSh (mi_inT p) ?_ ?_ ?_ ?_
      · intro c h1 g1 g2
        have e := me_nil g2
        subst e
        exact mg_thr (M := (6, 4, sb_162)) (x := 16) rfl rfl rfl ⟨rfl, rfl, Or.inl c⟩
      · intro b c1 c2; omega
      · intro b c1 c2; omega
      · intro b c1 c2 h1 g1 g2
        have e := me_nil g2
        subst e
        exact mg_thr (M := (6, 4, sb_162)) (x := 16) rfl rfl rfl ⟨rfl, rfl, Or.inr c1⟩
    · obtain ⟨st2, -⟩ := hT.2.2.2 hne
      obtain ⟨f, it, Y, hk⟩ := c4.2.1 st2
      have lt := hk.2.2.2.2.2.2
      exact me_setc (d := 0) hSh (mi_inT p) (by rw [lt.1]; exact lt.2.1) hT.2.1 hT.2.2.1
  refine w9_set (wr := [(12288, 12289)]) (d := 2) hSh ⟨hJ.1.1, hJ.2⟩ (by decide) (mg_run (nl := 6) em kk) ?_ ?_
  · intro v h1 hq
    obtain ⟨w, rfl, -, s1, a1, a2, x, x1, hx⟩ := hq
    rcases hx with ⟨b1, rfl, F, b2⟩ | ⟨b1, rfl, e⟩
    · refine ⟨_, rfl, s1, F, fun h2 r => ⟨((rq_fr hSh F).wide (by decide)).trans (r.wide (by decide)), Or.inr ⟨rfl, a1, a2, x, x1, Or.inl ⟨b1, by decide, fun i => ?_⟩⟩⟩⟩
      rw [r.a (k := 96) rfl (by decide), b2]
    · subst e
      exact ⟨_, rfl, s1, ab_Fr.refl, fun h2 r => ⟨r.wide (by decide), Or.inr ⟨rfl, a1, a2, x, x1, Or.inr ⟨b1, by decide, r⟩⟩⟩⟩
  · intro x h1 ht
    have hl := hJ.2.1
    obtain ⟨e, rfl, hx⟩ := ht
    refine ⟨h, e, hSh, ab_Fr.refl, ?_⟩
    subst e
    exact ⟨rfl, (rq_app hl).wide (by decide), Or.inl ⟨rfl, hx, (rq_app hl).wide (by decide)⟩⟩
theorem wr9_set {p : Int32} {zv : Int64} {k : Int} {y : Int64} (hR : R9 h) (hT : r9_T h T) (S1 : ab_Sh sx_sk h1) (J1 : lj_J MJ L xs h1) (hX : XS h T p.toInt zv k y h1) : ab_Ends sc_P 20 235 0 (sm_entry 6 [.ref 109, .int p, .long zv]) [] h1 (RO9 L xs h1 (fun w h2 => mi_f h2 13952 = k ∧ ∃ z, w = some (.inl z) ∧ (0 ≤ z ∧ z ≤ 1) ∧ (k = 0 → z = y.toInt))) := by
  have em : ([.inr (.inr 109), .inl p.toInt, .inr (.inl zv)] : List mi_V).map mi_c = [.ref 109, .int p, .long zv] := by
    simp only [List.map, mi_cT]
    rfl
  have qY := hX.1
  have kk : me_E (0 + 20) 235 0 [some (.inr (.inr 109)), some (.inl p.toInt), some (.inr (.inl zv)), none, none, none] [] h1 (xs_Q h1 T p.toInt zv) := by
    by_cases hne : T = []
    · subst hne
      have t0 : mi_f h1 14015 = 0 := (qY.f (c := 14015) rfl (by decide)).trans hT.1.1
      refine mt_seA S1 (mi_inT p) ?_ ?_ ?_ ?_ ?_ ?_ ?_
      · intro c h2 g1 g2 g3
        exact ⟨g1, Or.inl ⟨Or.inl c, g2, rfl, g3⟩⟩
      · intro b c1 c2; omega
      · intro b c1 c2; omega
      · intro b c1 c2; omega
      · intro b c1 c2; omega
      · intro b c1 c2; omega
      · intro b c1 c2 h2 g1 g2 g3
        exact ⟨g1, Or.inl ⟨Or.inr c1, g2, rfl, g3⟩⟩
    · obtain ⟨st2, -⟩ := hT.2.2.2 hne
      obtain ⟨f, it, Y, hk⟩ := hR.2.2.2.1.2.1 st2
      have lt := (rq_k qY (by decide) hk).2.2.2.2.2.2
      exact me_setr (d := 0) S1 (lt_O lt) (mi_inT p) ((qY.f (c := 14015) rfl (by decide)).trans hT.1.1) (fun _ => gs_T_e (eq9_rq qY (by decide) (by decide) (by decide)) hT.1)
  refine ab_Ends.imp (me_run9 (nl := 6) em ((me_setf (d := 0) S1 J1.1.2.2 (mi_inT p)).and kk)) (fun v h2 hq => ?_)
  obtain ⟨w, rfl, -, ⟨⟨z, rfl, zb⟩, m1, m2, m3⟩, hX2⟩ := hq
  obtain ⟨p1, p2, p3⟩ := P9_set hR hT S1 hX hX2
  refine ro9 J1 S1 m2 (by decide) m1 (mj_of m1 m3) p1 ⟨p2, z, rfl, zb, fun q => ?_⟩
  have := p3 q
  injection this with this
  injection this
end H9
