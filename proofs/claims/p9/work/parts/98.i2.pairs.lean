/-! p9: both calls together: the relation stays -/
section PAI
variable {h h1 h2 : sm_H} {w : Option mi_V} {wr : List (Nat × Nat)} {T : List (Int × Int × Int)}
theorem rq_gc (q : rq wr h h1) (hw : n9_all wr r9_kc [] = true) : wk_gc (mi_a h) (mi_a h1) := by
  have e := eq9_rq q s9_c.1 (fun c hc => absurd hc List.not_mem_nil) hw
  have hsub : ∀ k, k ∈ wk_gk → k ∈ r9_kc := by decide
  exact fun k hk i => e.1 k (hsub k hk) i
theorem rq_k (q : rq wr h h1) (hw : n9_all wr r9_kc [7698, 13962] = true) {f : Int → Int} {it : Int → Prop} {Y : wk_Y} (k : r9_k h f it Y) : r9_k h1 f it Y := by
  have e := eq9_rq q s9_c.1 (by decide) hw
  exact r9_k_eq (fun k hk => funext (e.1 k hk)) (fun k hk => funext (e.2.1 k hk)) (fun c hc => e.2.2 c hc) k
/-- what the class's parse leaves -/
def xp_N : List (Nat × Nat) := pq_W ++ xq_W
def xp_Y : List (Nat × Nat) := pcr_W ++ xq_W
def XP (h : sm_H) (k : Int) (h1 : sm_H) : Prop := rq xp_Y h h1 ∧ ((mi_f h 6543 = 0 ∧ k = 1 ∧ rq xp_N h h1) ∨ (mi_f h 6543 ≠ 0 ∧ ∀ E, pc_H h (mi_a h) E → ((pm_NO (mi_a h) E (pc_0 (mi_a h) 0) ∧ rq xp_N h h1) ∨ ∃ s', pm_RO (mi_a h) E (pc_0 (mi_a h) 0) ([], s') ∧ pm_K E s' = 0 ∧ (gm_T s').length ≤ 100 ∧ gc_S h1 (gm_T s'))))
def yp_N : List (Nat × Nat) := xp_N ++ pr_N
def yp_Y : List (Nat × Nat) := xp_Y ++ pr_Y
set_option maxRecDepth 4000 in
theorem P9_parse {k : Int} (hR : R9 h) (hS1 : ab_Sh sx_sk h1) (hX : XP h k h1) (hX2 : pr_X h1 w h2) : R9 h2 := by
  obtain ⟨k1, k2, k3, k4, ⟨T, k5⟩, k6⟩ := hR
  obtain ⟨qY, hX⟩ := hX
  have e59 : mi_f h1 13959 = mi_f h 13959 := qY.f rfl (by decide)
  have noch : rq xp_N h h1 → ab_Fr pr_N h1 h2 → R9 h2 := fun a b => by
    have q : rq yp_N h h2 := (a.wide (by decide)).trans ((rq_fr hS1 b).wide (by decide))
    exact R9_q q (by decide) ⟨k1, k2, k3, k4, ⟨T, k5⟩, k6⟩
  rcases hX with ⟨x1, -, x3⟩ | ⟨x1, x2⟩
  · refine noch x3 (hX2.1 ?_)
    have : mi_f h 13959 ≠ 2 := fun q => (k4.1.mpr q) x1
    have := k4.2.2.1
    omega
  · have st2 := k4.1.mp x1
    obtain ⟨f, it, Y, hk⟩ := k4.2.1 st2
    obtain ⟨E, p, N, eE, hN, hq, hc⟩ := hX2.2 (by omega)
    have e9 := eq9_rq qY s9_c.1 s9_c.2 (by decide)
    have eE2 : E.2.2 = (px_E h).2.2 := by
      rw [eE]
      unfold px_E
      simp only [e9.2.1 134 (by decide), e9.1 132 (by decide), e9.2.1 135 (by decide), e9.2.1 138 (by decide)]
    have eL : tq_L h1 = tq_L h := funext fun l => by
      unfold tq_L
      rw [e9.2.1 118 (by decide), e9.1 117 (by decide)]
    have a11 : mi_a h1 111 = mi_a h 111 := funext fun i => qY.a rfl (by decide) i
    have f54 : mi_f h1 13954 = mi_f h 13954 := qY.f rfl (by decide)
    rw [f54, a11, e9.2.2 13962 (by decide), eL] at hq
    have hpc := pcH_of hk k2 eE2 hN hq
    have hg : wk_gc (mi_a h) (mi_a h1) := rq_gc qY (by decide)
    rcases x2 E hpc with ⟨c1, c2⟩ | ⟨s', c1, c2, c3, c4⟩
    · rcases hc with ⟨-, d2⟩ | ⟨-, s'', d1, d2, -⟩
      · exact noch c2 d2
      · exact (pm_x_NO (pm_RO_g hg d1) d2 c1).elim
    · rcases hc with ⟨d1, -⟩ | ⟨F2, s'', d1, d2, -, d4, d5⟩
      · exact (pm_x_NO c1 c2 (pm_NO_g hg d1)).elim
      · have es := pm_RO_u c1 (pm_RO_g hg d1)
        subst es
        have q2 := rq_fr hS1 F2
        have q : rq yp_Y h h2 := (qY.wide (by decide)).trans (q2.wide (by decide))
        obtain ⟨⟨g1, g2, -⟩, -, -, ⟨pf, pa, g5⟩, g6, -, g8⟩ := hk
        have hv := tq_S_V g8.2.1 hq
        have mv := mv_parse g1.1 (g5 E eE2) hv.2 hq.2.2.2 g2 c1
        refine ⟨rl_t_q q (by decide) k1, r9_i_q q (by decide) k2, r9_o_q q (by decide) k3, r9_c_q q (by decide) k4, ⟨gm_T s'', d5, gc_S_e (eq9_rq q2 (by decide) (by decide) (by decide)) c4, d4, fun _ => ⟨?_, ?_, fun x hx => ⟨(mv.2 x hx).1, fun q5 => ?_⟩⟩⟩, r9_p_q q (by decide) k6⟩
        · rw [q.f (c := 13959) rfl (by decide)]
          exact st2
        · have vo2 : vo (yv h2) s'' := gs_vo d5
          have tr := tr_parse (V := yv h2) g1.1 g6 (g5 E eE2) g2 (show gm_len s'' ≤ 100 by unfold gm_len; omega) (by have := mv.1; omega) vo2 c1
          exact tr_R_g (rq_gc q (by decide)) tr
        · have := (mv.2 x hx).2 q5
          have := mv.1
          omega
/-- what the class's grow leaves -/
def xg_N : List (Nat × Nat) := gcn_W ++ xq_W
def xg_Y : List (Nat × Nat) := gc_W ++ xq_W
def XG (h : sm_H) (zx : Int64) (zf : Int) (k : Int) (h1 : sm_H) : Prop := rq xg_Y h h1 ∧ ((k = 1 ∧ (zf < 0 ∨ 20 < zf) ∧ rq xg_N h h1) ∨ (k = 2 ∧ (0 ≤ zf ∧ zf ≤ 20) ∧ mi_f h 6543 = 0 ∧ rq xg_N h h1) ∨ (k = 3 ∧ (0 ≤ zf ∧ zf ≤ 20) ∧ mi_f h 6543 ≠ 0 ∧ gm_NO (mi_a h) (gx_k h) (gc_0 (mi_a h) zx zf) ∧ rq xg_N h h1) ∨ (k = 0 ∧ (0 ≤ zf ∧ zf ≤ 20) ∧ mi_f h 6543 ≠ 0 ∧ ∃ s', gm_RO (mi_a h) (gx_k h) (gc_0 (mi_a h) zx zf) ([], s') ∧ (gm_T s').length ≤ 100 ∧ gc_S h1 (gm_T s')))
def yg_N : List (Nat × Nat) := xg_N ++ pr_N
def yg_Y : List (Nat × Nat) := xg_Y ++ pr_Y
set_option maxRecDepth 4000 in
theorem P9_grow {zx : Int64} {zf k : Int} (hR : R9 h) (hS1 : ab_Sh sx_sk h1) (hX : XG h zx zf k h1) (hX2 : gr_X h1 zx zf w h2) (hF : ab_Fr pr_Y h1 h2 ∧ (mi_f h2 13952 ≠ 0 → ab_Fr pr_N h1 h2)) : R9 h2 := by
  obtain ⟨k1, k2, k3, k4, ⟨T, k5⟩, k6⟩ := hR
  obtain ⟨qY, hX⟩ := hX
  have e59 : mi_f h1 13959 = mi_f h 13959 := qY.f rfl (by decide)
  have noch : rq xg_N h h1 → mi_f h2 13952 ≠ 0 → R9 h2 := fun a b => by
    have q : rq yg_N h h2 := (a.wide (by decide)).trans ((rq_fr hS1 (hF.2 b)).wide (by decide))
    exact R9_q q (by decide) ⟨k1, k2, k3, k4, ⟨T, k5⟩, k6⟩
  obtain ⟨y1, y2, y3⟩ := hX2
  have e9 := eq9_rq qY s9_c.1 s9_c.2 (by decide)
  have hg : wk_gc (mi_a h) (mi_a h1) := rq_gc qY (by decide)
  have hk1 : gx_k h1 = gx_k h := by
    unfold gx_k
    rw [e9.2.2 13962 (by decide), show mx_b h1 118 = mx_b h 118 from funext fun i => e9.2.1 118 (by decide) i]
  have h143 : ∀ i, mi_a h1 143 i = mi_a h 143 i := fun i => e9.1 143 (by decide) i
  rcases hX with ⟨-, x1, x2⟩ | ⟨-, x1, x2, x3⟩ | ⟨-, x1, x2, x3, x4⟩ | ⟨-, x1, x2, s', x3, x4, x5⟩
  · exact noch x2 (by rw [y1 x1]; decide)
  · have : mi_f h 13959 ≠ 2 := fun q => (k4.1.mpr q) x2
    have b := k4.2.2.1
    exact noch x3 (by rw [y2 x1.1 x1.2 (by omega)]; decide)
  · have st2 := k4.1.mp x2
    rcases y3 x1.1 x1.2 (by omega) with ⟨-, c⟩ | ⟨n, s'', z1, -⟩
    · exact noch x4 (by rw [c]; decide)
    · exfalso
      rw [gr9_c0 hg] at z1
      have z1 := gm_to_g hg h143 _ _ z1
      rw [hk1] at z1
      exact g9_not ⟨_, n, gc9_0 _ _ _, z1⟩ x3
  · have st2 := k4.1.mp x2
    rcases y3 x1.1 x1.2 (by omega) with ⟨⟨n, z1⟩, -⟩ | ⟨n, s'', z1, -, -, z4⟩
    · exfalso
      rw [gr9_c0 hg] at z1
      have z1 := gm_no_g hg h143 _ _ z1
      rw [hk1] at z1
      exact g9_not x3 (Or.inr ⟨_, n, gc9_0 _ _ _, z1⟩)
    · rw [gr9_c0 hg] at z1
      have z1 := gm_to_g hg h143 _ _ z1
      rw [hk1] at z1
      have es := g9_det (⟨_, n, gc9_0 _ _ _, z1⟩ : gm_RO (mi_a h) (gx_k h) (gc_0 (mi_a h) zx zf) ([], s'')) x3
      subst es
      obtain ⟨f, it, Y, hk⟩ := k4.2.1 st2
      obtain ⟨⟨g1, g2, -⟩, -⟩ := hk
      have q2 := rq_fr hS1 hF.1
      have q : rq yg_Y h h2 := (qY.wide (by decide)).trans (q2.wide (by decide))
      have gv := gvk_grow g1.2.2.2.2.2 z1
      refine ⟨rl_t_q q (by decide) k1, r9_i_q q (by decide) k2, r9_o_q q (by decide) k3, r9_c_q q (by decide) k4, ⟨gm_T s'', z4, gc_S_e (eq9_rq q2 (by decide) (by decide) (by decide)) x5, x4, fun _ => ⟨?_, ?_, fun x hx => ⟨(gv x hx).1, fun q5 => ?_⟩⟩⟩, r9_p_q q (by decide) k6⟩
      · rw [q.f (c := 13959) rfl (by decide)]
        exact st2
      · have vo2 : vo (yv h2) s'' := gs_vo z4
        have tr := tr_grow (V := yv h2) g1.1 (fun F F0 F1 => Int.le_trans (g1.2.1 F F0 F1).2.2.2.1 (by decide)) g2 (show gm_len s'' ≤ 100 by unfold gm_len; omega) vo2 z1
        exact tr_R_g (rq_gc q (by decide)) tr
      · have := (gv x hx).2 q5
        omega
/-- print -/
def xr_N : List (Nat × Nat) := wr_pv ++ xq_W
def xr_Y : List (Nat × Nat) := wr_pz ++ xq_W
def XR (h : sm_H) (R : Option ox) (k : Int) (h1 : sm_H) : Prop := rq xr_Y h h1 ∧ ((k = 1 ∧ mi_f h 12032 = 0 ∧ rq xr_N h h1) ∨ (k = 2 ∧ mi_f h 12032 ≠ 0 ∧ R = none ∧ rq xr_N h h1) ∨ (k = 0 ∧ mi_f h 12032 ≠ 0 ∧ ∃ o, R = some o ∧ mi_f h1 7169 = (o.1.length : Int) ∧ (∀ j : Nat, j < o.1.length → o.1[j]? = some (mi_a h1 57 j)) ∧ ∀ c ∈ o.1, tx_alc c))
def yr_N : List (Nat × Nat) := xr_N ++ prx_N
def yr_Y : List (Nat × Nat) := xr_Y ++ prx_Y
theorem P9_print {R : Option ox} {k : Int} (hR : R9 h) (hS1 : ab_Sh sx_sk h1) (hX : XR h R k h1) (hX2 : prx_X h1 R w h2) : R9 h2 ∧ mi_f h2 13952 = k ∧ (k = 0 → ∃ o, R = some o ∧ w = some (.inl (o.1.length : Int))) := by
  obtain ⟨k1, k2, k3, k4, ⟨T, k5⟩, k6⟩ := hR
  obtain ⟨qY, hX⟩ := hX
  obtain ⟨-, y1, y2⟩ := hX2
  have e15 : mi_f h1 14015 = mi_f h 14015 := qY.f rfl (by decide)
  have e32 : mi_f h 12032 = mi_f h 14015 := by rw [k5.2.1.1.1, k5.1.1]
  have noch : rq xr_N h h1 → ab_Fr prx_N h1 h2 → R9 h2 := fun a b => by
    have q : rq yr_N h h2 := (a.wide (by decide)).trans ((rq_fr hS1 b).wide (by decide))
    exact R9_q q (by decide) ⟨k1, k2, k3, k4, ⟨T, k5⟩, k6⟩
  rcases hX with ⟨rfl, x1, x2⟩ | ⟨rfl, x1, x2, x3⟩ | ⟨rfl, x1, o, x2, x3, x4, x5⟩
  · obtain ⟨z1, z2⟩ := y1 (by omega)
    exact ⟨noch x2 z2, z1, fun q => absurd q (by decide)⟩
  · rcases y2 (by omega) with ⟨-, z1, z2⟩ | ⟨o, z1, -⟩
    · exact ⟨noch x3 z2, z1, fun q => absurd q (by decide)⟩
    · rw [x2] at z1; cases z1
  · rcases y2 (by omega) with ⟨z1, -⟩ | ⟨o', z1, z2, z3, z4, z5, z6, z7⟩
    · rw [x2] at z1; cases z1
    · rw [x2] at z1
      have eo := Option.some.inj z1
      subst eo
      have q2 := rq_fr hS1 z7
      have q : rq yr_Y h h2 := (qY.wide (by decide)).trans (q2.wide (by decide))
      refine ⟨⟨rl_t_q q (by decide) k1, r9_i_q q (by decide) k2, ⟨?_, fun i hi => ?_⟩, r9_c_q q (by decide) k4, ⟨T, r9_T_q q (by decide) k5⟩, r9_p_q q (by decide) k6⟩, z2, fun _ => ⟨o, x2, z3⟩⟩
      · rw [q2.f (c := 7169) rfl (by decide), x3, z4]
      · have hi2 : i < o.1.length := by omega
        have a := z6 i hi2
        have b := x4 i hi2
        rw [a] at b
        have ab := Option.some.inj b
        refine ⟨by rw [q2.a (k := 57) rfl (by decide)]; exact ab.symm, ?_⟩
        exact x5 _ (List.mem_of_getElem? a)
end PAI
