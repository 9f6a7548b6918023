/-! the replay with other values of numbers and names -/
/-- the values of T are V's, but for numbers and names -/
def vo2 (V : Int → Int) (s : gm_S) : Prop := ∀ x ∈ gm_T s, x.1 % 10 ≠ 2 → x.1 % 10 ≠ 3 → V (x.1 / 10) = x.2.1
section VW
variable {V V' : Int → Int} {g : wk_g} {s s1 : gm_S} {r r1 : List wk_E}
theorem vo2_c {k v : Int} {t : gm_S} (hk : 0 ≤ k ∧ k < 10) (k2 : k ≠ 2) (k3 : k ≠ 3) (h : gm_c k v s = some t) (hV : vo2 V t) : V (gm_len s) = v := by
  obtain ⟨-, -, t1, -, -⟩ := gm_c_t h
  have := hV (k + 10 * ((gm_T s).length : Int), v, gm_D s) (by rw [t1]; exact List.mem_append_right _ List.mem_cons_self)
  dsimp only at this
  rw [show (k + 10 * ((gm_T s).length : Int)) / 10 = ((gm_T s).length : Int) by omega] at this
  exact this (by omega) (by omega)
theorem dw_sg {u : Int} (h : dm_sg 0 g V u r s = some (r1, s1)) (hV : vo2 V' s1) : dm_sg 0 g V' u r (vs V' s) = some (r1, vs V' s1) ∧ ∀ x ∈ gm_T s, x ∈ gm_T s1 := by
  unfold dm_sg at h ⊢
  by_cases c9 : g 119 u.toNat = 9
  · rw [if_pos c9] at h ⊢
    unfold pm_en at h ⊢
    by_cases cu : 12 ≤ 0 + wk_ul r
    · rw [if_pos cu] at h
      cases h
    · rw [if_neg cu] at h ⊢
      obtain ⟨t, h1, h2⟩ := Option.map_eq_some_iff.mp h
      injection h2 with h3 h4
      subst h3
      subst h4
      have hVt : vo2 V' t := fun x hx => hV x (by rw [gm_d_T]; exact hx)
      have hv := vo2_c (by decide) (by decide) (by decide) h1 hVt
      have := vs_c (V := V') (s := s) (by decide) h1 rfl rfl rfl
      rw [hv] at this
      rw [this, Option.map_some, vs_d]
      refine ⟨rfl, fun x hx => ?_⟩
      rw [gm_d_T]
      exact gm_c_mem h1 hx
  · rw [if_neg c9] at h ⊢
    by_cases c10 : g 119 u.toNat = 10
    · rw [if_pos c10] at h ⊢
      injection h with h
      injection h with h1 h2
      subst h1
      subst h2
      exact ⟨rfl, fun x hx => hx⟩
    · rw [if_neg c10] at h ⊢
      obtain ⟨t, h1, h2⟩ := Option.map_eq_some_iff.mp h
      injection h2 with h3 h4
      subst h3
      subst h4
      unfold dm_lf at h1 ⊢
      by_cases c1 : g 119 u.toNat = 1
      · rw [if_pos c1] at h1 ⊢
        rw [vs_len, vs_c (V := V') (s := s) (by decide) h1 rfl rfl rfl]
        exact ⟨rfl, fun x hx => gm_c_mem h1 hx⟩
      · rw [if_neg c1] at h1 ⊢
        by_cases c2 : g 119 u.toNat = 2
        · rw [if_pos c2] at h1 ⊢
          rw [vs_len, vs_c (V := V') (s := s) (by decide) h1 rfl rfl rfl]
          exact ⟨rfl, fun x hx => gm_c_mem h1 hx⟩
        · rw [if_neg c2] at h1 ⊢
          injection h1 with h1
          subst h1
          exact ⟨rfl, fun x hx => hx⟩
theorem dw_st {e : wk_E} (h : dm_st g V 0 e r s = some (r1, s1)) (hV : vo2 V' s1) : dm_st g V' 0 e r (vs V' s) = some (r1, vs V' s1) ∧ ∀ x ∈ gm_T s, x ∈ gm_T s1 := by
  unfold dm_st at h ⊢
  by_cases c0 : e.1 = 0
  · rw [if_pos c0] at h ⊢
    rw [vs_op]
    have To : gm_T (gm_op e.2.2 s) = gm_T s := gm_op_t
    rw [← To]
    generalize gm_op e.2.2 s = so at h ⊢
    unfold dm_u at h ⊢
    by_cases c1 : g 122 e.2.1.toNat = 1
    · rw [if_pos c1] at h ⊢
      obtain ⟨t, h1, h2⟩ := Option.map_eq_some_iff.mp h
      injection h2 with h3 h4
      subst h3
      subst h4
      have hVt : vo2 V' t := fun x hx => hV x (by rw [gm_d_T]; exact hx)
      have hv := vo2_c (by decide) (by decide) (by decide) h1 hVt
      have := vs_c (V := V') (s := so) (by decide) h1 rfl rfl rfl
      rw [vs_len, this, Option.map_some, vs_d, hv]
      refine ⟨rfl, fun x hx => ?_⟩
      rw [gm_d_T]
      exact gm_c_mem h1 hx
    · rw [if_neg c1] at h ⊢
      by_cases c2 : g 122 e.2.1.toNat = 2
      · rw [if_pos c2] at h ⊢
        obtain ⟨t, h1, h2⟩ := Option.bind_eq_some_iff.mp h
        have hc := vs_c (V := V') (s := so) (by decide) h1 rfl rfl rfl
        have mem : ∀ x ∈ gm_T so, x ∈ gm_T (gm_d t) := fun x hx => by
          rw [gm_d_T]
          exact gm_c_mem h1 hx
        by_cases cn : 0 < V (gm_len so)
        · rw [if_pos cn] at h2
          obtain ⟨i1, i2⟩ := dw_sg h2 hV
          have hVt : vo2 V' t := fun x hx => hV x (i2 x (by rw [gm_d_T]; exact hx))
          have hv := vo2_c (by decide) (by decide) (by decide) h1 hVt
          rw [vs_len, hc, Option.bind_some, hv, if_pos cn, vs_d]
          exact ⟨i1, fun x hx => i2 x (mem x hx)⟩
        · rw [if_neg cn] at h2
          injection h2 with h2
          injection h2 with h3 h4
          subst h3
          subst h4
          have hVt : vo2 V' t := fun x hx => hV x (by rw [gm_d_T]; exact hx)
          have hv := vo2_c (by decide) (by decide) (by decide) h1 hVt
          rw [vs_len, hc, Option.bind_some, hv, if_neg cn, vs_d]
          exact ⟨rfl, mem⟩
      · rw [if_neg c2] at h ⊢
        exact dw_sg h hV
  · rw [if_neg c0] at h ⊢
    by_cases c1 : e.1 = 1
    · rw [if_pos c1] at h ⊢
      unfold dm_fo at h ⊢
      by_cases cf : 1 < g 130 e.2.1.toNat
      · rw [if_pos cf] at h ⊢
        by_cases cb : 0 ≤ V (gm_len s) ∧ V (gm_len s) < g 130 e.2.1.toNat
        · rw [if_pos cb] at h
          obtain ⟨t, h1, h2⟩ := Option.map_eq_some_iff.mp h
          injection h2 with h3 h4
          subst h3
          subst h4
          have hVt : vo2 V' t := fun x hx => hV x (by rw [gm_d_T]; exact hx)
          have hv := vo2_c (by decide) (by decide) (by decide) h1 hVt
          have := vs_c (V := V') (s := s) (by decide) h1 rfl rfl rfl
          rw [hv] at this
          rw [vs_len, hv, if_pos cb, this, Option.map_some, vs_d]
          refine ⟨rfl, fun x hx => ?_⟩
          rw [gm_d_T]
          exact gm_c_mem h1 hx
        · rw [if_neg cb] at h
          cases h
      · rw [if_neg cf] at h ⊢
        injection h with h
        injection h with h3 h4
        subst h3
        subst h4
        exact ⟨rfl, fun x hx => hx⟩
    · rw [if_neg c1] at h ⊢
      by_cases c5 : e.1 = 5
      · rw [if_pos c5] at h ⊢
        unfold dm_ag at h ⊢
        by_cases ca : 0 < e.2.2
        · rw [if_pos ca] at h ⊢
          exact dw_sg h hV
        · rw [if_neg ca] at h ⊢
          injection h with h
          injection h with h3 h4
          subst h3
          subst h4
          exact ⟨rfl, fun x hx => hx⟩
      · rw [if_neg c5] at h ⊢
        by_cases c2 : e.1 = 2
        · rw [if_pos c2] at h ⊢
          injection h with h
          injection h with h3 h4
          subst h3
          subst h4
          rw [vs_2]
          exact ⟨rfl, fun x hx => hx⟩
        · rw [if_neg c2] at h ⊢
          by_cases c3 : e.1 = 3
          · rw [if_pos c3] at h ⊢
            injection h with h
            injection h with h3 h4
            subst h3
            subst h4
            rw [vs_mid]
            exact ⟨rfl, fun x hx => by rw [gm_mid_T]; exact hx⟩
          · rw [if_neg c3] at h ⊢
            injection h with h
            injection h with h3 h4
            subst h3
            subst h4
            rw [vs_tu]
            exact ⟨rfl, fun x hx => gm_tu_mem hx⟩
theorem dw_to {B' : List wk_E} {s' : gm_S} (hV : vo2 V' s') : ∀ (n : Nat) (c : gm_C), pw_to (dm_st g V 0) n c (B', s') → pw_to (dm_st g V' 0) n (c.1, vs V' c.2) (B', vs V' s') ∧ ∀ x ∈ gm_T c.2, x ∈ gm_T s' := by
  intro n
  induction n with
  | zero =>
    intro c h
    have h : c = (B', s') := h
    subst h
    exact ⟨rfl, fun x hx => hx⟩
  | succ n ih =>
    intro c h
    obtain ⟨e, r, c1, a1, a2, a3⟩ := h
    obtain ⟨i1, i2⟩ := ih c1 a3
    have hV1 : vo2 V' c1.2 := fun x hx => hV x (i2 x hx)
    obtain ⟨j1, j2⟩ := dw_st a2 hV1
    refine ⟨⟨e, r, (c1.1, vs V' c1.2), a1, j1, i1⟩, fun x hx => i2 x (j2 x hx)⟩
end VW
/-! trees that are replayed -/
def tr_0 (g : wk_g) : gm_C := ([(1, g 114 0, 0), (2, 1, 0)], (0, 0, [(1, 0, 0)], 1, []))
/-- T is the tree that its own values give, in fewer turns than there are -/
def tr_R (g : wk_g) (V : Int → Int) (T : List (Int × Int × Int)) : Prop := (∃ n s', n < 40000 ∧ pw_to (dm_st g V 0) n (tr_0 g) ([], s') ∧ gm_T s' = T) ∧ ∀ x ∈ T, V (x.1 / 10) = x.2.1
section TRR
variable {V : Int → Int} {g : wk_g}
theorem vs_0 {x : Int64} {fu : Int} (h : V 0 = 0) : vs V ((x, fu, [(1, 0, 0)], 1, []) : gm_S) = (0, 0, [(1, 0, 0)], 1, []) := by
  unfold vs
  simp only [gm_T_mk, gm_D_mk, gm_P_mk]
  show ((0, 0, [(1, V (1 / 10), 0)], 1, []) : gm_S) = _
  rw [show (1 : Int) / 10 = 0 by decide, h]
theorem tr_grow {kw : Int → Bool} {Y : wk_Y} (hL : wk_L g Y) (h3 : ∀ f, 0 ≤ f → f < wk_f Y → g 130 f.toNat ≤ 10000) (hr : wk_Lrule Y (g 114 0)) {x : Int64} {fu : Int} {s' : gm_S} (hl : gm_len s' ≤ 100) (hV : vo V s') {n : Nat} (h : gm_to g kw n (gr_c0 g x fu) ([], s')) : tr_R g V (gm_T s') := by
  have hK0 : gm_K Y (gr_c0 g x fu).1 := ⟨gm_k_1 hr.1 hr.2.1 hr.2.2, gm_k_o (by decide) (by decide) (by decide), trivial⟩
  obtain ⟨i1, i2⟩ := gv_to hL h3 hV n _ hK0 h
  obtain ⟨-, p2, p3⟩ := gm_to_pot hL gm_vbt h3 n _ hK0 h
  have h0 : V 0 = 0 := hV (1, 0, 0) (i2 _ (by unfold gr_c0; dsimp only; rw [gm_T_mk]; exact List.mem_cons_self))
  refine ⟨⟨n, vs V s', ?_, ?_, ?_⟩, hV⟩
  · have e0 : gm_len (gr_c0 g x fu).2 = 1 := by
      unfold gr_c0 gm_len
      rw [gm_T_mk]
      rfl
    have ep : gm_pot Y (gr_c0 g x fu).1 ≤ 182 := by
      show gm_e1 Y (1, g 114 0, 0) + (gm_e1 Y (2, 1, 0) + 0) ≤ 182
      rw [gm_e_1, gm_e_o (by decide) (by decide) (by decide)]
      have := hr.2.2
      omega
    dsimp only at p2 p3
    have : gm_pot Y ([] : List wk_E) = 0 := rfl
    omega
  · have e : vs V (gr_c0 g x fu).2 = (0, 0, [(1, 0, 0)], 1, []) := vs_0 h0
    rw [e] at i1
    exact i1
  · rw [vs_T, vT_id hV]
theorem tr_parse {E : pm_E} {Y : wk_Y} {pf pa : Int → Int → Bool} (hL : wk_L g Y) (hx : pm_x Y) (hH : pm_Hs g Y E pf pa) (hr : wk_Lrule Y (g 114 0)) {s' : gm_S} (hl : gm_len s' ≤ 100) (hF : gm_F s' ≤ 160) (hV : vo V s') (h : pm_RO g E (pc_0 g 0) ([], s')) : tr_R g V (gm_T s') := by
  obtain ⟨c1, n, h1, h2⟩ := h
  rw [pc_0_e] at h1
  injection h1 with h1
  subst h1
  have e0 : gm_len ((0, 0, [(1, 0, 0)], 1, []) : gm_S) = 1 := by unfold gm_len; rw [gm_T_mk]; rfl
  have hI : pm_I (([(1, g 114 0, 0), (2, 1, 0)], (0, 0, [(1, 0, 0)], 1, [])) : gm_C) := by
    unfold pm_I
    dsimp only
    rw [e0]
    simp only [gm_D_mk, gm_P_mk]
    refine ⟨rfl, by decide, by decide, ?_, ?_, fun x hx x5 => ?_⟩
    · rw [gm_fl_o (by omega) (by decide) (by decide), gm_fl_o (by omega) (by decide) (by decide)]
      trivial
    · rw [pm_al_o (by omega) (by decide), pm_al_o (by omega) (by decide)]
      trivial
    · exfalso
      rcases List.mem_cons.mp hx with rfl | hx
      · exact absurd x5 (show (1 : Int) ≠ 5 by decide)
      · rw [List.mem_singleton.mp hx] at x5
        exact absurd x5 (show (2 : Int) ≠ 5 by decide)
  have n5 : ∀ z ∈ ([(1, g 114 0, 0), (2, 1, 0)] : List wk_E), z.1 ≠ 5 := nP2 (by decide) (by decide)
  have hw : pv_w (([(1, g 114 0, 0), (2, 1, 0)], (0, 0, [(1, 0, 0)], 1, [])) : gm_C) := by
    refine ⟨fun e he => ?_, fun e he e5 => absurd e5 (n5 e he), pm_lt_app (r := []) n5 trivial, fun x hx => ?_⟩
    · rcases List.mem_cons.mp he with rfl | he
      · exact ⟨show (0 : Int) ≤ 1 by decide, show (1 : Int) ≤ 5 by decide⟩
      · rw [List.mem_singleton.mp he]
        exact ⟨show (0 : Int) ≤ 2 by decide, show (2 : Int) ≤ 5 by decide⟩
    · dsimp only at hx ⊢
      rw [gm_T_mk] at hx
      rw [e0, List.mem_singleton.mp hx]
      exact ⟨show (0 : Int) ≤ 1 by decide, show (1 : Int) / 10 < 1 by decide⟩
  obtain ⟨k1, k2⟩ := pv_to hV n _ hI hw h2
  dsimp only at k1 k2
  have h0 : V 0 = 0 := (k1 (1, 0, 0) (by rw [gm_T_mk]; exact List.mem_cons_self)).2 (fun z hz z5 => absurd z5 (n5 z hz))
  refine ⟨⟨n, vs V s', ?_, ?_, ?_⟩, hV⟩
  · exact pm_turns hL hx hH hr ⟨e0, gm_F_mk _ _ _ _ _⟩ h2 hl hF (Int.le_refl _)
  · rw [vs_0 h0, cv_n5 n5] at k2
    exact k2
  · rw [vs_T, vT_id hV]
/-- other numbers, other names -/
theorem tr_set {V' : Int → Int} {T : List (Int × Int × Int)} (h : tr_R g V T) (hV : ∀ x ∈ T, x.1 % 10 ≠ 2 → x.1 % 10 ≠ 3 → V' (x.1 / 10) = x.2.1) : tr_R g V' (vT V' T) := by
  obtain ⟨⟨n, s', h1, h2, h3⟩, h4⟩ := h
  subst h3
  obtain ⟨i1, i2⟩ := dw_to (V' := V') hV n _ h2
  have h0 : V' 0 = 0 := hV (1, 0, 0) (i2 _ (by unfold tr_0; dsimp only; rw [gm_T_mk]; exact List.mem_cons_self)) (by decide) (by decide)
  refine ⟨⟨n, vs V' s', h1, ?_, vs_T⟩, fun x hx => ?_⟩
  · have e : vs V' (tr_0 g).2 = (0, 0, [(1, 0, 0)], 1, []) := vs_0 h0
    rw [e] at i1
    exact i1
  · obtain ⟨y, y1, y2⟩ := List.mem_map.mp hx
    rw [← y2]
end TRR
