/-! parse of the reference, exactly -/
theorem pm_st_g {g g' : wk_g} {E : pm_E} {l : Int} (hg : wk_gc g g') : pm_st g' E l = pm_st g E l := by
  funext e r s
  unfold pm_st
  rw [pm_u_g hg, pm_fo_g hg, pm_ag_g hg]
theorem pc_0_e {g : wk_g} {X : Int64} : pc_0 g X = some ([(1, g 114 0, 0), (2, 1, 0)], (X, 0, [(1, 0, 0)], 1, [])) := by
  unfold pc_0 pm_en gm_c
  rw [if_neg (show ¬ (12 : Int) ≤ 0 + wk_ul [] by decide), gm_X_mk, gm_F_mk, gm_T_mk, gm_D_mk, gm_P_mk, if_neg (show ¬ 100 ≤ ([] : List (Int × Int × Int)).length by decide)]
  rfl
theorem pw_u {st : wk_E → List wk_E → gm_S → Option gm_C} {a : gm_C} {s s' : gm_S} {n m : Nat} (h1 : pw_to st n a ([], s)) (h2 : pw_to st m a ([], s')) : s' = s := by
  by_cases c : n ≤ m
  · have := (pw_end _ (pw_det _ _ _ h1 h2 c)).2
    exact (Prod.mk.inj this).2
  · have := (pw_end _ (pw_det _ _ _ h2 h1 (by omega))).2
    exact (Prod.mk.inj this).2.symm
theorem pw_stuck {st : wk_E → List wk_E → gm_S → Option gm_C} {a : gm_C} {e : wk_E} {r : List wk_E} {s s' : gm_S} {n m : Nat} (h1 : pw_to st n a (e :: r, s)) (hn : st e r s = none) (h2 : pw_to st m a ([], s')) : False := by
  by_cases c : n ≤ m
  · have := pw_det _ _ _ h1 h2 c
    cases hk : m - n with
    | zero =>
      rw [hk] at this
      exact pw_0 this
    | succ k =>
      rw [hk] at this
      obtain ⟨c1, x, -⟩ := pw_cons this
      rw [hn] at x
      cases x
  · have := (pw_end _ (pw_det _ _ _ h2 h1 (by omega))).2
    cases this
def pr_G (h : sm_H) : Prop := ∃ Y pf pa, wk_L (mi_a h) Y ∧ wk_Lrule Y (mi_a h 114 0) ∧ pm_x Y ∧ pm_Hs (mi_a h) Y (px_E h) pf pa ∧ (∀ u, 0 ≤ u → u < wk_u Y → px_W h u) ∧ tq_O h ∧ ∀ i : Nat, (i : Int) < mi_f h 13954 → 0 ≤ mi_a h 111 i
def pr_N : List (Nat × Nat) := [(13952, 13953), (14011, 14012), (14016, 14017), (14028, 14038), (14044, 14048), (18560, 18561), (19456, 19457), (19584, 19585), (19712, 19713), (20224, 20481), (20864, 20865), (21120, 21761)]
def pr_Y : List (Nat × Nat) := pr_N ++ ta_W
/-- what parse does: nothing to the tree, or the tree that the walk over the tokens makes -/
def pr_X (h : sm_H) (w : Option mi_V) (h' : sm_H) : Prop := (mi_f h 13959 < 2 → ab_Fr pr_N h h') ∧ (2 ≤ mi_f h 13959 → ∃ (E : pm_E) (p : Int → Int) (N : Int), E.2.2 = (px_E h).2.2 ∧ N ≤ 160 ∧ tq_S (mi_f h 13954) (mi_a h 111) (mi_f h 13962) (tq_L h) E.1 E.2.1 p N ∧ ((pm_NO (mi_a h) E (pc_0 (mi_a h) 0) ∧ ab_Fr pr_N h h') ∨ (ab_Fr pr_Y h h' ∧ ∃ s', pm_RO (mi_a h) E (pc_0 (mi_a h) 0) ([], s') ∧ pm_K E s' = 0 ∧ w = some (.inl ((gm_T s').length : Int)) ∧ (gm_T s').length ≤ 100 ∧ gs_T h' (gm_T s'))))
section PRX
variable {d : Nat} {h : sm_H}
theorem pm_Hs_E {g : wk_g} {Y : wk_Y} {E E' : pm_E} {pf pa : Int → Int → Bool} (e : E'.2.2 = E.2.2) (h : pm_Hs g Y E pf pa) : pm_Hs g Y E' pf pa := by
  unfold pm_Hs at h ⊢
  rw [e]
  exact h
theorem me_parsex (hS : ab_Sh sx_sk h) (hG : 2 ≤ mi_f h 13959 → pr_G h) : me_E (d + 20) 228 0 [some (.inr (.inr 109))] [] h (pr_X h) := by
  refine mt_paA hS ?_ ?_
  · intro b c h1 g1 g2 g3
    obtain ⟨Y, pf, pa, l1, l2, l3, l4, l5, l6, l7⟩ := hG c
    have f54 : mi_f h1 13954 = mi_f h 13954 := me_f (c := 13954) g3 hS rfl rfl
    have f62 : mi_f h1 13962 = mi_f h 13962 := me_f (c := 13962) g3 hS rfl rfl
    have f111 : ∀ i, mi_a h1 111 i = mi_a h 111 i := fun i => me_a (k := 111) g3 hS rfl rfl
    have fL : ∀ i, tq_L h1 i = tq_L h i := fun i => by
      unfold tq_L
      rw [me_b (k := 118) g3 hS rfl rfl, me_a (k := 117) g3 hS rfl rfl]
    have hO1 : tq_O h1 := fun k hk => by
      rw [me_b (k := 118) g3 hS rfl rfl, me_a (k := 117) g3 hS rfl rfl]
      exact l6 k (by omega)
    refine ⟨_, me_tokx (d := d + 18) g1 hO1 (fun i hi => by rw [f111]; exact l7 i (by omega)), fun w h2 ow hq => ?_⟩
    obtain ⟨rfl, q1, q2, q3, qV, p, qS⟩ := hq
    rw [f54, f62, show mi_a h1 111 = mi_a h 111 from funext f111, show tq_L h1 = tq_L h from funext fL] at qS
    have F2 : ab_Fr pr_N h h2 := (g3.wide (fun c hc => ab_swr_ok (by decide) hc)).trans (q2.wide (fun c hc => ab_swr_ok (by decide) hc))
    have F2' : ab_Fr [(13952, 13953), (14011, 14012), (19456, 19457), (19584, 19585), (19712, 19713)] h h2 := (g3.wide (fun c hc => ab_swr_ok (by decide) hc)).trans (q2.wide (fun c hc => ab_swr_ok (by decide) hc))
    have hg : wk_gc (mi_a h) (mi_a h2) := wk_gc_fr F2' hS rfl
    have e14 : mi_a h2 114 0 = mi_a h 114 0 := hg 114 (by decide) 0
    have eE : (px_E h2).2.2 = (px_E h).2.2 := by
      have e3 : ∀ i, mx_b h2 134 i = mx_b h 134 i := fun i => me_b (k := 134) F2' hS rfl rfl
      have e4 : ∀ i, mx_b h2 135 i = mx_b h 135 i := fun i => me_b (k := 135) F2' hS rfl rfl
      have e5 : ∀ i, mi_a h2 132 i = mi_a h 132 i := fun i => me_a (k := 132) F2' hS rfl rfl
      have e6 : ∀ i, mx_b h2 138 i = mx_b h 138 i := fun i => me_b (k := 138) F2' hS rfl rfl
      unfold px_E
      simp only [e3, e4, e5, e6]
    refine mt_paB q1 ?_
    intro h2' p1 p2
    have e2 := me_nil p2
    subst e2
    refine ⟨_, me_walkp (d := d + 12) (X := 0) q1 (wk_L_g l1 hg) l3 (by rw [e14]; exact l2) qV (fun u u0 u1 => px_W_g hg (l5 u u0 u1)) q3, fun w h3 ow hq => ?_⟩
    obtain ⟨rfl, q4, q5, q6⟩ := hq
    rw [e14] at q6
    unfold pl_NO pl_S at q6
    rw [pm_st_g hg] at q6
    have l4' : pm_Hs (mi_a h) Y (px_E h2') pf pa := pm_Hs_E eE l4
    have F3 : ab_Fr pr_N h h3 := F2.trans (q5.wide (fun c hc => ab_swr_ok (by decide) hc))
    have bN := me_fb (c := 14011) q1 rfl
    have trn : ∀ (zt : Int) (B : List wk_E) (s : gm_S), 0 ≤ zt → ((B = [] ∨ zt = 40000) ∧ pw_to (pm_st (mi_a h) (px_E h2') 0) zt.toNat ([(1, mi_a h 114 0, 0), (2, 1, 0)], (0, 0, [(1, 0, 0)], 1, [])) (B, s) ∧ gm_len s ≤ 100 ∧ gm_F s ≤ 160 ∧ 0 ≤ pm_pot Y B) → B = [] := by
      intro zt B s z0 ⟨y1, y2, y3, y4, y5⟩
      rcases y1 with y1 | y1
      · exact y1
      · exfalso
        have := pm_turns l1 l3 l4' l2 (show gm_len ((0, 0, [(1, 0, 0)], 1, []) : gm_S) = 1 ∧ gm_F ((0, 0, [(1, 0, 0)], 1, []) : gm_S) = 0 from ⟨by unfold gm_len; rw [gm_T_mk]; rfl, gm_F_mk _ _ _ _ _⟩) y2 y3 y4 y5
        omega
    have bad : (mi_f h3 14044 = 1 ∨ 0 ≤ mi_f h3 14034) → pm_NO (mi_a h) (px_E h2') (pc_0 (mi_a h) 0) := by
      intro hb c1 hc1
      rw [pc_0_e] at hc1
      injection hc1 with hc1
      subst hc1
      intro n s' hto
      rcases q6 with ⟨-, ⟨n1, e, r, s, x1, x2⟩ | ⟨zt, B, s, z0, z1, x1, x2⟩⟩ | ⟨x1, x2, -⟩
      · exact absurd hto (fun q => pw_stuck x1 x2 q)
      · have eB := trn zt B s z0 x1
        subst eB
        rw [pw_u x1.2.1 hto]
        exact x2
      · exfalso; omega
    refine mt_paC q4 ?_ ?_ ?_
    · intro b1 b2 c1 c2 h4 r1 r2 r3
      refine ⟨_, me_takex (d := d + 19) r1, fun w h5 ow hq => ?_⟩
      obtain ⟨rfl, t0, t1, t2, t3⟩ := hq
      refine mt_paD t0 (ow _ rfl) ?_
      intro h6 u1 u2
      have e6 := me_nil u2
      subst e6
      refine ⟨fun q => by omega, fun _ => ⟨px_E h2', p, mi_f h2' 14011, eE, bN.2, qS, Or.inr ?_⟩⟩
      rcases q6 with ⟨x1, -⟩ | ⟨x1, x2, zt, s, z0, z1, y1, hR, y3⟩
      · exfalso; omega
      have eB := trn zt _ s z0 y1
      have e16 : mi_f h4 14016 = mi_f h3 14016 := me_f (c := 14016) r3 q4 rfl rfl
      have yto := y1.2.1
      rw [eB] at yto
      have yl : ((gm_T s).length : Int) ≤ 100 := y1.2.2.1
      refine ⟨((F3.wide (fun c hc => ab_swr_ok (by decide) hc)).trans (r3.wide (fun c hc => ab_swr_ok (by decide) hc))).trans (t1.wide (fun c hc => ab_swr_ok (by decide) hc)), s, ⟨_, zt.toNat, pc_0_e, yto⟩, y3, by rw [e16, hR.1.1], by omega, gs_T_of (gx_T_fr hR.1 r3 q4 rfl) t2 t3⟩
    · intro b1 b2 c1 c2
      refine ⟨by omega, fun h4 r1 r2 r3 => ?_⟩
      exact ⟨fun q => by omega, fun _ => ⟨px_E h2', p, mi_f h2' 14011, eE, bN.2, qS, Or.inl ⟨bad (Or.inr c2), F3.trans (r3.wide (fun c hc => ab_swr_ok (by decide) hc))⟩⟩⟩
    · intro b1 c1 h4 r1 r2 r3
      exact ⟨fun q => by omega, fun _ => ⟨px_E h2', p, mi_f h2' 14011, eE, bN.2, qS, Or.inl ⟨bad (Or.inl (by omega)), F3.trans (r3.wide (fun c hc => ab_swr_ok (by decide) hc))⟩⟩⟩
  · intro b c h1 g1 g2 g3
    exact ⟨fun _ => g3.wide (fun c hc => ab_swr_ok (by decide) hc), fun q => by omega⟩
end PRX
