/-! a run that makes a tree is a replay of what it made -/
def vT (V : Int → Int) (T : List (Int × Int × Int)) : List (Int × Int × Int) := T.map (fun x => (x.1, V (x.1 / 10), x.2.2))
def vs (V : Int → Int) (s : gm_S) : gm_S := (0, 0, vT V (gm_T s), gm_D s, gm_P s)
/-- the values of T are V's -/
def vo (V : Int → Int) (s : gm_S) : Prop := ∀ x ∈ gm_T s, V (x.1 / 10) = x.2.1
section VS0
variable {V : Int → Int} {s t : gm_S} {T : List (Int × Int × Int)}
theorem vT_len : (vT V T).length = T.length := List.length_map _
theorem vT_id (h : ∀ x ∈ T, V (x.1 / 10) = x.2.1) : vT V T = T := by
  induction T with
  | nil => rfl
  | cons x T ih =>
    show (x.1, V (x.1 / 10), x.2.2) :: vT V T = x :: T
    rw [ih (fun y hy => h y (List.mem_cons_of_mem _ hy)), h x List.mem_cons_self]
theorem vT_app {A : List (Int × Int × Int)} : vT V (T ++ A) = vT V T ++ vT V A := List.map_append
theorem vT_one {k v D : Int} {n : Nat} (hk : 0 ≤ k ∧ k < 10) : vT V [(k + 10 * (n : Int), v, D)] = [(k + 10 * (n : Int), V (n : Int), D)] := by
  show [(k + 10 * (n : Int), V ((k + 10 * (n : Int)) / 10), D)] = _
  rw [show (k + 10 * (n : Int)) / 10 = (n : Int) by omega]
theorem vT_rot {a b : Nat} : gm_rot a b (vT V T) = vT V (gm_rot a b T) := by
  unfold gm_rot
  rw [vT_len]
  by_cases c : a ≤ b ∧ b ≤ T.length
  · rw [if_pos c, if_pos c, vT_app, vT_app]
    unfold vT
    rw [List.map_take, List.map_drop, List.map_drop, List.map_take]
  · rw [if_neg c, if_neg c]
theorem vs_e (e1 : gm_T t = gm_T s) (e2 : gm_D t = gm_D s) (e3 : gm_P t = gm_P s) : vs V t = vs V s := by
  unfold vs
  rw [e1, e2, e3]
theorem vs_T : gm_T (vs V s) = vT V (gm_T s) := gm_T_mk _ _ _ _ _
theorem vs_len : gm_len (vs V s) = gm_len s := by
  unfold gm_len
  rw [vs_T, vT_len]
theorem vs_d : gm_d (vs V s) = vs V (gm_d s) := by
  unfold gm_d vs
  simp only [gm_X_mk, gm_F_mk, gm_T_mk, gm_D_mk, gm_P_mk]
theorem vs_op {o : Int} : gm_op o (vs V s) = vs V (gm_op o s) := by
  unfold gm_op
  by_cases c : o = 1
  · rw [if_pos c, if_pos c]
    unfold vs
    simp only [gm_X_mk, gm_F_mk, gm_T_mk, gm_D_mk, gm_P_mk, vT_len]
  · rw [if_neg c, if_neg c]
theorem vs_mid : gm_mid (vs V s) = vs V (gm_mid s) := by
  unfold gm_mid vs
  simp only [gm_X_mk, gm_F_mk, gm_T_mk, gm_D_mk, gm_P_mk, vT_len]
theorem vs_tu : gm_tu (vs V s) = vs V (gm_tu s) := by
  unfold gm_tu
  rw [show gm_P (vs V s) = gm_P s from gm_P_mk _ _ _ _ _]
  cases gm_P s with
  | nil => rfl
  | cons p q =>
    unfold vs
    simp only [gm_X_mk, gm_F_mk, gm_T_mk, gm_D_mk, gm_P_mk, vT_rot]
theorem vs_2 : ((gm_X (vs V s), gm_F (vs V s), gm_T (vs V s), gm_D (vs V s) - 1, gm_P (vs V s)) : gm_S) = vs V (gm_X s, gm_F s, gm_T s, gm_D s - 1, gm_P s) := by
  unfold vs
  simp only [gm_X_mk, gm_F_mk, gm_T_mk, gm_D_mk, gm_P_mk]
/-- a node comes -/
theorem vs_c {k v : Int} (hk : 0 ≤ k ∧ k < 10) {s0 : gm_S} (h : gm_c k v s0 = some t) (e1 : gm_T s0 = gm_T s) (e2 : gm_D s0 = gm_D s) (e3 : gm_P s0 = gm_P s) : gm_c k (V (gm_len s)) (vs V s) = some (vs V t) := by
  obtain ⟨-, -, t1, t2, t3⟩ := gm_c_t h
  have l := (gm_c_len h).1
  unfold gm_c
  rw [vs_T, vT_len, if_neg (by rw [← e1]; omega)]
  refine congrArg some ?_
  unfold vs
  simp only [gm_X_mk, gm_F_mk, gm_T_mk, gm_D_mk, gm_P_mk]
  rw [t1, t2, t3, e1, e2, e3, vT_app, vT_one hk]
  rfl
theorem vo_c {k v : Int} (hk : 0 ≤ k ∧ k < 10) (h : gm_c k v s = some t) (hV : vo V t) : V (gm_len s) = v := by
  obtain ⟨-, -, t1, -, -⟩ := gm_c_t h
  have := hV (k + 10 * ((gm_T s).length : Int), v, gm_D s) (by rw [t1]; exact List.mem_append_right _ List.mem_cons_self)
  dsimp only at this
  rw [show (k + 10 * ((gm_T s).length : Int)) / 10 = ((gm_T s).length : Int) by omega] at this
  exact this
theorem mem_rot {a b : Nat} {x : Int × Int × Int} (h : x ∈ T) : x ∈ gm_rot a b T := by
  unfold gm_rot
  by_cases c : a ≤ b ∧ b ≤ T.length
  · rw [if_pos c]
    have e : T = T.take a ++ (T.take b).drop a ++ T.drop b := by
      have e1 : T.take a = (T.take b).take a := by rw [List.take_take, Nat.min_eq_left c.1]
      rw [e1, List.take_append_drop, List.take_append_drop]
    rw [e] at h
    simp only [List.mem_append] at h ⊢
    rcases h with (h | h) | h
    · exact Or.inl (Or.inl h)
    · exact Or.inr h
    · exact Or.inl (Or.inr h)
  · rw [if_neg c]
    exact h
theorem mem_rot' {a b : Nat} {x : Int × Int × Int} (h : x ∈ gm_rot a b T) : x ∈ T := by
  unfold gm_rot at h
  by_cases c : a ≤ b ∧ b ≤ T.length
  · rw [if_pos c] at h
    simp only [List.mem_append] at h
    rcases h with (h | h) | h
    · exact List.mem_of_mem_take h
    · exact List.mem_of_mem_drop h
    · exact List.mem_of_mem_take (List.mem_of_mem_drop h)
  · rw [if_neg c] at h
    exact h
theorem gm_tu_mem {x : Int × Int × Int} (h : x ∈ gm_T s) : x ∈ gm_T (gm_tu s) := by
  unfold gm_tu
  cases gm_P s with
  | nil => exact h
  | cons p q =>
    rw [gm_T_mk]
    exact mem_rot h
theorem gm_mid_T : gm_T (gm_mid s) = gm_T s := by unfold gm_mid; rw [gm_T_mk]
theorem gm_op_t {o : Int} : gm_T (gm_op o s) = gm_T s := by
  unfold gm_op
  split
  · rw [gm_T_mk]
  · rfl
theorem gm_d_T : gm_T (gm_d s) = gm_T s := by unfold gm_d; rw [gm_T_mk]
theorem gm_op_e {o : Int} : gm_D (gm_op o s) = gm_D s ∧ gm_len (gm_op o s) = gm_len s := by
  refine ⟨?_, by unfold gm_len; rw [gm_op_t]⟩
  unfold gm_op
  split
  · rw [gm_D_mk]
  · rfl
theorem gm_c_mem {k v : Int} (h : gm_c k v s = some t) {x : Int × Int × Int} (hx : x ∈ gm_T s) : x ∈ gm_T t := by
  obtain ⟨-, -, t1, -, -⟩ := gm_c_t h
  rw [t1]
  exact List.mem_append_left _ hx
end VS0
/-! what is grown -/
section VG
variable {V : Int → Int} {g : wk_g} {kw : Int → Bool} {s s1 : gm_S} {r r1 : List wk_E}
theorem gv_sg {u : Int} (h : gm_sg g kw u r s = some (r1, s1)) (hV : vo V s1) : dm_sg 0 g V u r (vs V s) = some (r1, vs V s1) ∧ ∀ x ∈ gm_T s, x ∈ gm_T s1 := by
  unfold gm_sg at h
  unfold dm_sg
  by_cases c9 : g 119 u.toNat = 9
  · rw [if_pos c9] at h ⊢
    unfold gm_en at h
    unfold pm_en
    by_cases cu : 12 ≤ wk_ul r
    · rw [if_pos cu] at h
      cases h
    · rw [if_neg cu] at h
      rw [if_neg (by omega)]
      obtain ⟨t, h1, h2⟩ := Option.map_eq_some_iff.mp h
      injection h2 with h3 h4
      subst h3
      subst h4
      have hVt : vo V t := fun x hx => hV x (by rw [gm_d_T]; exact hx)
      have hv := vo_c (by decide) h1 hVt
      have el : gm_len ((gm_X s, gm_F s - 1, gm_T s, gm_D s, gm_P s) : gm_S) = gm_len s := by unfold gm_len; rw [gm_T_mk]
      rw [el] at hv
      have := vs_c (V := V) (s := s) (by decide) h1 (gm_T_mk _ _ _ _ _) (gm_D_mk _ _ _ _ _) (gm_P_mk _ _ _ _ _)
      rw [hv] at this
      rw [this, Option.map_some, vs_d]
      refine ⟨rfl, fun x hx => ?_⟩
      rw [gm_d_T]
      exact gm_c_mem h1 (by rw [gm_T_mk]; exact hx)
  · rw [if_neg c9] at h ⊢
    by_cases c10 : g 119 u.toNat = 10
    · rw [if_pos c10] at h ⊢
      injection h with h
      injection h with h1 h2
      subst h1
      subst h2
      exact ⟨rfl, fun x hx => hx⟩
    · rw [if_neg c10] at h ⊢
      unfold dm_lf
      by_cases c1 : g 119 u.toNat = 1
      · rw [if_pos c1] at h ⊢
        generalize gm_x (gm_X s) = y at h
        generalize gm_v y 10000 = v at h
        obtain ⟨t, h1, h2⟩ := Option.map_eq_some_iff.mp h
        injection h2 with h3 h4
        subst h3
        subst h4
        rw [vs_len, vs_c (V := V) (s := s) (by decide) h1 (gm_T_mk _ _ _ _ _) (gm_D_mk _ _ _ _ _) (gm_P_mk _ _ _ _ _)]
        exact ⟨rfl, fun x hx => gm_c_mem h1 (by rw [gm_T_mk]; exact hx)⟩
      · rw [if_neg c1] at h ⊢
        by_cases c2 : g 119 u.toNat = 2
        · rw [if_pos c2] at h ⊢
          generalize (gm_nm kw (gm_X s)).1 = v at h
          generalize (gm_nm kw (gm_X s)).2 = y at h
          obtain ⟨t, h1, h2⟩ := Option.map_eq_some_iff.mp h
          injection h2 with h3 h4
          subst h3
          subst h4
          rw [vs_len, vs_c (V := V) (s := s) (by decide) h1 (gm_T_mk _ _ _ _ _) (gm_D_mk _ _ _ _ _) (gm_P_mk _ _ _ _ _)]
          exact ⟨rfl, fun x hx => gm_c_mem h1 (by rw [gm_T_mk]; exact hx)⟩
        · rw [if_neg c2] at h ⊢
          injection h with h
          injection h with h1 h2
          subst h1
          subst h2
          exact ⟨rfl, fun x hx => hx⟩
theorem gv_st {e : wk_E} (hb : e.1 = 1 → 1 < g 130 e.2.1.toNat → g 130 e.2.1.toNat ≤ 10000) (h : gm_st g kw e r s = some (r1, s1)) (hV : vo V s1) : dm_st g V 0 e r (vs V s) = some (r1, vs V s1) ∧ ∀ x ∈ gm_T s, x ∈ gm_T s1 := by
  unfold gm_st at h
  unfold dm_st
  by_cases c0 : e.1 = 0
  · rw [if_pos c0] at h ⊢
    unfold dm_u
    have yT : gm_T (gm_y (gm_op e.2.2 s)) = gm_T (gm_op e.2.2 s) := by unfold gm_y; rw [gm_T_mk]
    have yD : gm_D (gm_y (gm_op e.2.2 s)) = gm_D (gm_op e.2.2 s) := by unfold gm_y; rw [gm_D_mk]
    have yP : gm_P (gm_y (gm_op e.2.2 s)) = gm_P (gm_op e.2.2 s) := by unfold gm_y; rw [gm_P_mk]
    have el : gm_len (gm_y (gm_op e.2.2 s)) = gm_len (gm_op e.2.2 s) := by unfold gm_len; rw [yT]
    rw [vs_op]
    by_cases c1 : g 122 e.2.1.toNat = 1
    · rw [if_pos c1] at h ⊢
      generalize gm_n 3 s = n at h
      generalize gm_y (gm_op e.2.2 s) = sy at h yT yD yP el
      obtain ⟨t, h1, h2⟩ := Option.map_eq_some_iff.mp h
      injection h2 with h3 h4
      subst h3
      subst h4
      have hVt : vo V t := fun x hx => hV x (by rw [gm_d_T]; exact hx)
      have hv := vo_c (by decide) h1 hVt
      rw [el] at hv
      have := vs_c (V := V) (s := gm_op e.2.2 s) (by decide) h1 yT yD yP
      rw [vs_len, this, Option.map_some, vs_d, hv]
      refine ⟨rfl, fun x hx => ?_⟩
      rw [gm_d_T]
      exact gm_c_mem h1 (by rw [yT, gm_op_t]; exact hx)
    · rw [if_neg c1] at h ⊢
      by_cases c2 : g 122 e.2.1.toNat = 2
      · rw [if_pos c2] at h ⊢
        generalize gm_n 2 s = n at h
        generalize gm_y (gm_op e.2.2 s) = sy at h yT yD yP el
        obtain ⟨t, h1, h2⟩ := Option.bind_eq_some_iff.mp h
        have hc := vs_c (V := V) (s := gm_op e.2.2 s) (by decide) h1 yT yD yP
        have mem : ∀ x ∈ gm_T s, x ∈ gm_T (gm_d t) := fun x hx => by
          rw [gm_d_T]
          exact gm_c_mem h1 (by rw [yT, gm_op_t]; exact hx)
        by_cases cn : 0 < n
        · rw [if_pos cn] at h2
          obtain ⟨i1, i2⟩ := gv_sg h2 hV
          have hVt : vo V t := fun x hx => hV x (i2 x (by rw [gm_d_T]; exact hx))
          have hv := vo_c (by decide) h1 hVt
          rw [el] at hv
          rw [vs_len, hc, Option.bind_some, hv, if_pos cn, vs_d]
          exact ⟨i1, fun x hx => i2 x (mem x hx)⟩
        · rw [if_neg cn] at h2
          injection h2 with h2
          injection h2 with h3 h4
          subst h3
          subst h4
          have hVt : vo V t := fun x hx => hV x (by rw [gm_d_T]; exact hx)
          have hv := vo_c (by decide) h1 hVt
          rw [el] at hv
          rw [vs_len, hc, Option.bind_some, hv, if_neg cn, vs_d]
          exact ⟨rfl, mem⟩
      · rw [if_neg c2] at h ⊢
        obtain ⟨i1, i2⟩ := gv_sg h hV
        exact ⟨i1, fun x hx => i2 x (by rw [gm_op_t]; exact hx)⟩
  · rw [if_neg c0] at h ⊢
    by_cases c1 : e.1 = 1
    · rw [if_pos c1] at h ⊢
      unfold dm_fo
      by_cases cf : 1 < g 130 e.2.1.toNat
      · rw [if_pos cf] at h ⊢
        have wb := gm_w_b (g := g) gm_vbt (f := e.2.1) (by omega) (hb c1 cf) s
        have yT : gm_T (gm_y s) = gm_T s := by unfold gm_y; rw [gm_T_mk]
        have yD : gm_D (gm_y s) = gm_D s := by unfold gm_y; rw [gm_D_mk]
        have yP : gm_P (gm_y s) = gm_P s := by unfold gm_y; rw [gm_P_mk]
        have el : gm_len (gm_y s) = gm_len s := by unfold gm_len; rw [yT]
        generalize gm_w g e.2.1 s = n at h wb
        generalize gm_y s = sy at h yT yD yP el
        obtain ⟨t, h1, h2⟩ := Option.map_eq_some_iff.mp h
        injection h2 with h3 h4
        subst h3
        subst h4
        have hVt : vo V t := fun x hx => hV x (by rw [gm_d_T]; exact hx)
        have hv := vo_c (by decide) h1 hVt
        rw [el] at hv
        have := vs_c (V := V) (s := s) (by decide) h1 yT yD yP
        rw [vs_len, hv, if_pos wb]
        rw [hv] at this
        rw [this, Option.map_some, vs_d]
        refine ⟨rfl, fun x hx => ?_⟩
        rw [gm_d_T]
        exact gm_c_mem h1 (by rw [yT]; exact hx)
      · rw [if_neg cf] at h ⊢
        injection h with h
        injection h with h3 h4
        subst h3
        subst h4
        exact ⟨rfl, fun x hx => hx⟩
    · rw [if_neg c1] at h ⊢
      by_cases c5 : e.1 = 5
      · rw [if_pos c5] at h ⊢
        unfold dm_ag
        by_cases ca : 0 < e.2.2
        · rw [if_pos ca] at h ⊢
          exact gv_sg h hV
        · rw [if_neg ca] at h ⊢
          injection h with h
          injection h with h3 h4
          subst h3
          subst h4
          exact ⟨rfl, fun x hx => hx⟩
      · rw [if_neg c5] at h ⊢
        by_cases c2 : e.1 = 2
        · rw [if_pos c2] at h ⊢
          injection h with h
          injection h with h3 h4
          subst h3
          subst h4
          rw [vs_2]
          exact ⟨rfl, fun x hx => by rw [gm_T_mk]; exact hx⟩
        · rw [if_neg c2] at h ⊢
          by_cases c3 : e.1 = 3
          · rw [if_pos c3] at h ⊢
            injection h with h
            injection h with h3 h4
            subst h3
            subst h4
            rw [vs_mid]
            exact ⟨rfl, fun x hx => by rw [gm_mid_T]; exact hx⟩
          · rw [if_neg c3] at h ⊢
            injection h with h
            injection h with h3 h4
            subst h3
            subst h4
            rw [vs_tu]
            exact ⟨rfl, fun x hx => gm_tu_mem hx⟩
theorem gv_to {Y : wk_Y} (hL : wk_L g Y) (h3 : ∀ f, 0 ≤ f → f < wk_f Y → g 130 f.toNat ≤ 10000) {B' : List wk_E} {s' : gm_S} (hV : vo V s') : ∀ (n : Nat) (c : gm_C), gm_K Y c.1 → gm_to g kw n c (B', s') → pw_to (dm_st g V 0) n (c.1, vs V c.2) (B', vs V s') ∧ ∀ x ∈ gm_T c.2, x ∈ gm_T s' := by
  intro n
  induction n with
  | zero =>
    intro c _ h
    have h : c = (B', s') := h
    subst h
    exact ⟨rfl, fun x hx => hx⟩
  | succ n ih =>
    intro c hK h
    obtain ⟨e, r, c1, a1, a2, a3⟩ := h
    have hK1 : gm_K Y c1.1 := (gm_to_pot hL gm_vbt h3 1 c hK ⟨e, r, c1, a1, a2, rfl⟩).1
    obtain ⟨i1, i2⟩ := ih c1 hK1 a3
    have hV1 : vo V c1.2 := fun x hx => hV x (i2 x hx)
    have hb : e.1 = 1 → 1 < g 130 e.2.1.toNat → g 130 e.2.1.toNat ≤ 10000 := by
      intro q _
      rw [a1] at hK
      obtain ⟨k1, k2, -⟩ := hK.1.2.1 q
      exact h3 _ k1 k2
    obtain ⟨j1, j2⟩ := gv_st hb a2 hV1
    refine ⟨⟨e, r, (c1.1, vs V c1.2), a1, j1, i1⟩, fun x hx => i2 x (j2 x hx)⟩
end VG
