/-! the walk that parses, purely: what is in the starts of a part that is read takes a token -/
section PM1
variable {g : wk_g} {E : pm_E} {l : Int} {r : List wk_E} {s t : gm_S} {c : gm_C}
theorem pm_F_op {o : Int} : gm_F (gm_op o s) = gm_F s := by
  unfold gm_op
  by_cases c : o = 1
  · rw [if_pos c, gm_F_mk]
  · rw [if_neg c]
theorem pm_F_mid : gm_F (gm_mid s) = gm_F s := by
  unfold gm_mid
  rw [gm_F_mk]
theorem pm_F_tu : gm_F (gm_tu s) = gm_F s := by
  unfold gm_tu
  cases gm_P s with
  | nil => rfl
  | cons p q => exact gm_F_mk _ _ _ _ _
theorem pm_nx_e : gm_F (pm_nx s) = gm_F s + 1 ∧ gm_T (pm_nx s) = gm_T s ∧ gm_D (pm_nx s) = gm_D s ∧ gm_P (pm_nx s) = gm_P s := by
  unfold pm_nx
  rw [gm_F_mk, gm_T_mk, gm_D_mk, gm_P_mk]
  exact ⟨rfl, rfl, rfl, rfl⟩
theorem pm_inc_e {a : Int} : gm_F (pm_inc a s) = gm_F s ∧ gm_T (pm_inc a s) = pm_up a.toNat (gm_T s) ∧ gm_D (pm_inc a s) = gm_D s ∧ gm_P (pm_inc a s) = gm_P s := by
  unfold pm_inc
  rw [gm_F_mk, gm_T_mk, gm_D_mk, gm_P_mk]
  exact ⟨rfl, rfl, rfl, rfl⟩
theorem pm_up_len : ∀ (a : Nat) (T : List (Int × Int × Int)), (pm_up a T).length = T.length := by
  intro a
  induction a with
  | zero =>
    intro T
    cases T with
    | nil => rfl
    | cons x q => rfl
  | succ a ih =>
    intro T
    cases T with
    | nil => rfl
    | cons x q =>
      show (pm_up a q).length + 1 = q.length + 1
      rw [ih]
theorem pm_inc_len {a : Int} : gm_len (pm_inc a s) = gm_len s := by
  unfold gm_len
  rw [pm_inc_e.2.1, pm_up_len]
theorem pm_lf_e {o w : Int} (h : pm_lf E o w s = some t) : gm_D t = gm_D s ∧ gm_P t = gm_P s ∧ gm_len s ≤ gm_len t ∧ ((gm_F t = gm_F s + 1 ∧ (o = 1 ∨ o = 2 ∨ o = 8)) ∨ (t = s ∧ o ≠ 1 ∧ o ≠ 2 ∧ o ≠ 8)) := by
  have fin : ∀ (k v : Int), (gm_c k v s).map pm_nx = some t → gm_D t = gm_D s ∧ gm_P t = gm_P s ∧ gm_len s ≤ gm_len t ∧ gm_F t = gm_F s + 1 := by
    intro k v h
    obtain ⟨t1, h1, h2⟩ := Option.map_eq_some_iff.mp h
    obtain ⟨-, a2, a3, a4, a5⟩ := gm_c_e h1
    obtain ⟨n1, n2, n3, n4⟩ := pm_nx_e (s := t1)
    subst h2
    refine ⟨n3.trans a4, n4.trans a5, ?_, by rw [n1, a3]⟩
    have : gm_len (pm_nx t1) = gm_len t1 := by unfold gm_len; rw [n2]
    omega
  unfold pm_lf at h
  by_cases c1 : o = 1
  · rw [if_pos c1] at h
    by_cases ck : pm_K E s = 1
    · rw [if_pos ck] at h
      obtain ⟨x1, x2, x3, x4⟩ := fin _ _ h
      exact ⟨x1, x2, x3, Or.inl ⟨x4, Or.inl c1⟩⟩
    · rw [if_neg ck] at h
      cases h
  rw [if_neg c1] at h
  by_cases c2 : o = 2
  · rw [if_pos c2] at h
    by_cases ck : pm_K E s = 2
    · rw [if_pos ck] at h
      obtain ⟨x1, x2, x3, x4⟩ := fin _ _ h
      exact ⟨x1, x2, x3, Or.inl ⟨x4, Or.inr (Or.inl c2)⟩⟩
    · rw [if_neg ck] at h
      cases h
  rw [if_neg c2] at h
  by_cases c8 : o = 8
  · rw [if_pos c8] at h
    by_cases ck : 0 ≤ w ∧ pm_K E s = 3 + w
    · rw [if_pos ck] at h
      injection h with h
      subst h
      obtain ⟨n1, n2, n3, n4⟩ := pm_nx_e (s := s)
      exact ⟨n3, n4, by unfold gm_len; rw [n2]; exact Int.le_refl _, Or.inl ⟨n1, Or.inr (Or.inr c8)⟩⟩
    · rw [if_neg ck] at h
      cases h
  rw [if_neg c8] at h
  injection h with h
  subst h
  exact ⟨rfl, rfl, Int.le_refl _, Or.inr ⟨rfl, c1, c2, c8⟩⟩
/-- only what has a kind is taken -/
theorem pm_lf_K {o w : Int} (h : pm_lf E o w s = some t) : gm_F t = gm_F s ∨ (gm_F t = gm_F s + 1 ∧ 1 ≤ pm_K E s) := by
  have hl := (pm_lf_e h).2.2.2
  rcases hl with ⟨x, y⟩ | ⟨x, -⟩
  · refine Or.inr ⟨x, ?_⟩
    unfold pm_lf at h
    rcases y with y | y | y
    · rw [if_pos y] at h
      by_cases ck : pm_K E s = 1
      · omega
      · rw [if_neg ck] at h
        cases h
    · rw [if_neg (by omega), if_pos y] at h
      by_cases ck : pm_K E s = 2
      · omega
      · rw [if_neg ck] at h
        cases h
    · rw [if_neg (by omega), if_neg (by omega), if_pos y] at h
      by_cases ck : 0 ≤ w ∧ pm_K E s = 3 + w
      · omega
      · rw [if_neg ck] at h
        cases h
  · exact Or.inl (by rw [x])
theorem pm_sg_F {u : Int} (h : pm_sg l g E u r s = some c) : gm_F s ≤ gm_F c.2 := by
  unfold pm_sg at h
  by_cases c9 : g 119 u.toNat = 9
  · rw [if_pos c9] at h
    unfold pm_en at h
    by_cases cu : 12 ≤ l + wk_ul r
    · rw [if_pos cu] at h
      cases h
    · rw [if_neg cu] at h
      obtain ⟨t, t1, t2⟩ := Option.map_eq_some_iff.mp h
      subst t2
      have := (gm_c_e t1).2.2.1
      have := (gm_d_e (t := t)).2.1
      show gm_F s ≤ gm_F (gm_d t)
      omega
  rw [if_neg c9] at h
  by_cases c10 : g 119 u.toNat = 10
  · rw [if_pos c10] at h
    injection h with h
    subst h
    exact Int.le_refl _
  rw [if_neg c10] at h
  obtain ⟨t, t1, t2⟩ := Option.map_eq_some_iff.mp h
  subst t2
  show gm_F s ≤ gm_F t
  rcases (pm_lf_e t1).2.2.2 with ⟨x, -⟩ | ⟨x, -⟩
  · omega
  · rw [x]
    exact Int.le_refl _
theorem pm_st_F {e : wk_E} (h : pm_st g E l e r s = some c) : gm_F s ≤ gm_F c.2 := by
  unfold pm_st at h
  by_cases c0 : e.1 = 0
  · rw [if_pos c0] at h
    have eo := pm_F_op (o := e.2.2) (s := s)
    unfold pm_u at h
    by_cases w1 : g 122 e.2.1.toNat = 1
    · rw [if_pos w1] at h
      obtain ⟨t, t1, t2⟩ := Option.map_eq_some_iff.mp h
      subst t2
      have := (gm_c_e t1).2.2.1
      have := (gm_d_e (t := t)).2.1
      show gm_F s ≤ gm_F (gm_d t)
      omega
    rw [if_neg w1] at h
    by_cases w2 : g 122 e.2.1.toNat = 2
    · rw [if_pos w2] at h
      obtain ⟨t, t1, t2⟩ := Option.bind_eq_some_iff.mp h
      have k1 := (gm_c_e t1).2.2.1
      have k2 := (gm_d_e (t := t)).2.1
      by_cases ch : pm_h E e.2.1 (gm_op e.2.2 s) = true
      · rw [if_pos ch] at t2
        have := pm_sg_F t2
        omega
      · rw [if_neg ch] at t2
        injection t2 with t2
        subst t2
        show gm_F s ≤ gm_F (gm_d t)
        omega
    rw [if_neg w2] at h
    have := pm_sg_F h
    omega
  rw [if_neg c0] at h
  by_cases c1 : e.1 = 1
  · rw [if_pos c1] at h
    unfold pm_fo at h
    by_cases w1 : 1 < g 130 e.2.1.toNat
    · rw [if_pos w1] at h
      obtain ⟨n, -, h⟩ := Option.bind_eq_some_iff.mp h
      obtain ⟨t, t1, t2⟩ := Option.map_eq_some_iff.mp h
      subst t2
      have := (gm_c_e t1).2.2.1
      have := (gm_d_e (t := t)).2.1
      show gm_F s ≤ gm_F (gm_d t)
      omega
    · rw [if_neg w1] at h
      injection h with h
      subst h
      exact Int.le_refl _
  rw [if_neg c1] at h
  by_cases c5 : e.1 = 5
  · rw [if_pos c5] at h
    unfold pm_ag at h
    by_cases ch : pm_h E e.2.1 s = true
    · rw [if_pos ch] at h
      have := pm_sg_F h
      rw [pm_inc_e.1] at this
      exact this
    · rw [if_neg ch] at h
      injection h with h
      subst h
      exact Int.le_refl _
  rw [if_neg c5] at h
  by_cases c2 : e.1 = 2
  · rw [if_pos c2] at h
    injection h with h
    subst h
    exact Int.le_of_eq (gm_F_mk _ _ _ _ _).symm
  rw [if_neg c2] at h
  by_cases c3 : e.1 = 3
  · rw [if_pos c3] at h
    injection h with h
    subst h
    exact Int.le_of_eq pm_F_mid.symm
  · rw [if_neg c3] at h
    injection h with h
    subst h
    exact Int.le_of_eq pm_F_tu.symm
theorem pm_sg_K {u : Int} (h : pm_sg l g E u r s = some c) : gm_F c.2 = gm_F s ∨ (gm_F c.2 = gm_F s + 1 ∧ 1 ≤ pm_K E s) := by
  unfold pm_sg at h
  by_cases c9 : g 119 u.toNat = 9
  · rw [if_pos c9] at h
    unfold pm_en at h
    by_cases cu : 12 ≤ l + wk_ul r
    · rw [if_pos cu] at h
      cases h
    · rw [if_neg cu] at h
      obtain ⟨t, t1, t2⟩ := Option.map_eq_some_iff.mp h
      subst t2
      have k1 := (gm_c_e t1).2.2.1
      have k2 := (gm_d_e (t := t)).2.1
      exact Or.inl (by show gm_F (gm_d t) = gm_F s; omega)
  rw [if_neg c9] at h
  by_cases c10 : g 119 u.toNat = 10
  · rw [if_pos c10] at h
    injection h with h
    subst h
    exact Or.inl rfl
  rw [if_neg c10] at h
  obtain ⟨t, t1, t2⟩ := Option.map_eq_some_iff.mp h
  subst t2
  exact pm_lf_K t1
theorem pm_st_K {e : wk_E} (h : pm_st g E l e r s = some c) : gm_F c.2 = gm_F s ∨ (gm_F c.2 = gm_F s + 1 ∧ 1 ≤ pm_K E s) := by
  unfold pm_st at h
  by_cases c0 : e.1 = 0
  · rw [if_pos c0] at h
    have eo := pm_F_op (o := e.2.2) (s := s)
    have eK : pm_K E (gm_op e.2.2 s) = pm_K E s := by unfold pm_K; rw [eo]
    unfold pm_u at h
    by_cases w1 : g 122 e.2.1.toNat = 1
    · rw [if_pos w1] at h
      obtain ⟨t, t1, t2⟩ := Option.map_eq_some_iff.mp h
      subst t2
      have k1 := (gm_c_e t1).2.2.1
      have k2 := (gm_d_e (t := t)).2.1
      exact Or.inl (by show gm_F (gm_d t) = gm_F s; omega)
    rw [if_neg w1] at h
    by_cases w2 : g 122 e.2.1.toNat = 2
    · rw [if_pos w2] at h
      obtain ⟨t, t1, t2⟩ := Option.bind_eq_some_iff.mp h
      have k1 := (gm_c_e t1).2.2.1
      have k2 := (gm_d_e (t := t)).2.1
      have e3 : gm_F (gm_d t) = gm_F s := by omega
      by_cases ch : pm_h E e.2.1 (gm_op e.2.2 s) = true
      · rw [if_pos ch] at t2
        have := pm_sg_K t2
        have eK2 : pm_K E (gm_d t) = pm_K E s := by unfold pm_K; rw [e3]
        rw [eK2, e3] at this
        exact this
      · rw [if_neg ch] at t2
        injection t2 with t2
        subst t2
        exact Or.inl e3
    rw [if_neg w2] at h
    have := pm_sg_K h
    rw [eK, eo] at this
    exact this
  rw [if_neg c0] at h
  by_cases c1 : e.1 = 1
  · rw [if_pos c1] at h
    unfold pm_fo at h
    by_cases w1 : 1 < g 130 e.2.1.toNat
    · rw [if_pos w1] at h
      obtain ⟨n, -, h⟩ := Option.bind_eq_some_iff.mp h
      obtain ⟨t, t1, t2⟩ := Option.map_eq_some_iff.mp h
      subst t2
      have k1 := (gm_c_e t1).2.2.1
      have k2 := (gm_d_e (t := t)).2.1
      exact Or.inl (by show gm_F (gm_d t) = gm_F s; omega)
    · rw [if_neg w1] at h
      injection h with h
      subst h
      exact Or.inl rfl
  rw [if_neg c1] at h
  by_cases c5 : e.1 = 5
  · rw [if_pos c5] at h
    unfold pm_ag at h
    by_cases ch : pm_h E e.2.1 s = true
    · rw [if_pos ch] at h
      have := pm_sg_K h
      have eK : pm_K E (pm_inc e.2.2 s) = pm_K E s := by unfold pm_K; rw [pm_inc_e.1]
      rw [eK, pm_inc_e.1] at this
      exact this
    · rw [if_neg ch] at h
      injection h with h
      subst h
      exact Or.inl rfl
  rw [if_neg c5] at h
  by_cases c2 : e.1 = 2
  · rw [if_pos c2] at h
    injection h with h
    subst h
    exact Or.inl (gm_F_mk _ _ _ _ _)
  rw [if_neg c2] at h
  by_cases c3 : e.1 = 3
  · rw [if_pos c3] at h
    injection h with h
    subst h
    exact Or.inl pm_F_mid
  · rw [if_neg c3] at h
    injection h with h
    subst h
    exact Or.inl pm_F_tu
/-- a token without a kind stays the next one -/
theorem pm_to_bad {d : gm_C} : ∀ (n : Nat) (c : gm_C), pw_to (pm_st g E l) n c d → pm_K E c.2 < 1 → gm_F d.2 = gm_F c.2 := by
  intro n
  induction n with
  | zero => intro c h _; have h : c = d := h; rw [h]
  | succ n ih =>
    intro c h hk
    obtain ⟨e, r, c1, -, h2, h3⟩ := h
    have e1 : gm_F c1.2 = gm_F c.2 := by
      rcases pm_st_K h2 with x | ⟨x, y⟩
      · exact x
      · omega
    rw [ih c1 h3 (by unfold pm_K at hk ⊢; rw [e1]; exact hk), e1]
theorem pm_to_F {d : gm_C} : ∀ (n : Nat) (c : gm_C), pw_to (pm_st g E l) n c d → gm_F c.2 ≤ gm_F d.2 := by
  intro n
  induction n with
  | zero => intro c h; have h : c = d := h; rw [h]; exact Int.le_refl _
  | succ n ih =>
    intro c h
    obtain ⟨e, r, c1, -, h2, h3⟩ := h
    have := pm_st_F h2
    have := ih c1 h3
    omega
theorem pm_dr_e {p : Int → Bool} : ∀ (m : Nat) (a n z : Int), pm_dr g p m a n = some z → ∃ j : Nat, j < m ∧ z = n + j ∧ p (wk_alt g j a) = true := by
  intro m
  induction m with
  | zero => intro a n z h; cases h
  | succ m ih =>
    intro a n z h
    unfold pm_dr at h
    by_cases c : p a = true
    · rw [if_pos c] at h
      injection h with h
      exact ⟨0, by omega, by omega, c⟩
    · rw [if_neg c] at h
      obtain ⟨j, j1, j2, j3⟩ := ih _ _ _ h
      exact ⟨j + 1, by omega, by omega, j3⟩
end PM1
/-- what is known of the sets: pf starts of forms, pa of alternatives; two alternatives of one form have no director in common -/
def pm_Hs (g : wk_g) (Y : wk_Y) (E : pm_E) (pf pa : Int → Int → Bool) : Prop :=
  (∀ u k, 0 ≤ u → u < wk_u Y → E.2.2.1 u k = true → (g 119 u.toNat = 9 → pf (wk_rf g u) k = true) ∧ (g 119 u.toNat = 10 → pf (g 120 u.toNat) k = true) ∧ (g 119 u.toNat = 1 ∨ g 119 u.toNat = 2 ∨ g 119 u.toNat = 8 ∨ g 119 u.toNat = 9 ∨ g 119 u.toNat = 10)) ∧
  (∀ f k, 0 ≤ f → f < wk_f Y → pf f k = true → ∃ j : Nat, (j : Int) < g 130 f.toNat ∧ pa (wk_alt g j (g 129 f.toNat)) k = true) ∧
  (∀ f k (j : Nat), 0 ≤ f → f < wk_f Y → (j : Int) < g 130 f.toNat → pa (wk_alt g j (g 129 f.toNat)) k = true → E.2.2.2 f (wk_alt g j (g 129 f.toNat)) k = true ∧ ∃ w o, (0, w, o) ∈ wk_it g 61 (g 126 (wk_alt g j (g 129 f.toNat)).toNat) ∧ 0 ≤ w ∧ w < wk_u Y ∧ E.2.2.1 w k = true) ∧
  (∀ f k (i j : Nat), 0 ≤ f → f < wk_f Y → (i : Int) < g 130 f.toNat → (j : Int) < g 130 f.toNat → E.2.2.2 f (wk_alt g i (g 129 f.toNat)) k = true → E.2.2.2 f (wk_alt g j (g 129 f.toNat)) k = true → i = j)
section PM2
variable {g : wk_g} {Y : wk_Y} {E : pm_E} {pf pa : Int → Int → Bool}
/-- a form whose starts have the next token takes it; in runs of at most N turns -/
def pm_ef (g : wk_g) (Y : wk_Y) (E : pm_E) (pf : Int → Int → Bool) (N : Nat) : Prop := ∀ (n : Nat) (l f a : Int) (s s' : gm_S), n ≤ N → 0 ≤ f → f < wk_f Y → pf f (pm_K E s) = true → pw_to (pm_st g E l) n ([(1, f, a)], s) ([], s') → gm_F s < gm_F s'
theorem pm_K_of {s t : gm_S} (h : gm_F t = gm_F s) : pm_K E t = pm_K E s := by
  unfold pm_K
  rw [h]
theorem pm_h_of {u : Int} {s t : gm_S} (h : gm_F t = gm_F s) : pm_h E u t = pm_h E u s := by
  unfold pm_h
  rw [pm_K_of h]
theorem pm_eat_sg (hL : wk_L g Y) (hH : pm_Hs g Y E pf pa) {N : Nat} (hf : pm_ef g Y E pf N) {n : Nat} (hn : n ≤ N) {l u : Int} {s s' : gm_S} {c : gm_C} (u0 : 0 ≤ u) (u1 : u < wk_u Y) (hu : pm_h E u s = true) (h1 : pm_sg l g E u [] s = some c) (h2 : pw_to (pm_st g E l) n c ([], s')) : gm_F s < gm_F s' := by
  obtain ⟨a1, a2, a3⟩ := hH.1 u _ u0 u1 hu
  obtain ⟨-, -, -, k9, k10, -⟩ := hL.2.2.1 u u0 u1
  unfold pm_sg at h1
  by_cases c9 : g 119 u.toNat = 9
  · rw [if_pos c9] at h1
    obtain ⟨-, -, -, -, r1, r2, -⟩ := k9 c9
    unfold pm_en at h1
    by_cases cu : 12 ≤ l + wk_ul []
    · rw [if_pos cu] at h1
      cases h1
    · rw [if_neg cu] at h1
      obtain ⟨t, t1, t2⟩ := Option.map_eq_some_iff.mp h1
      subst t2
      have e1 := (gm_c_e t1).2.2.1
      have e2 := (gm_d_e (t := t)).2.1
      have e3 : gm_F (gm_d t) = gm_F s := by rw [e2, e1]
      obtain ⟨n1, s1, i1, i2, i3⟩ := pw_split0 pm_loc (A := [(1, wk_rf g u, 0)]) (q := [(2, 1, 0)]) h2
      have x := hf n1 _ _ _ _ _ (by omega) r1 r2 (by rw [pm_K_of e3]; exact a1 c9) i2
      have := pm_to_F _ _ i3
      dsimp only at this
      omega
  rw [if_neg c9] at h1
  by_cases c10 : g 119 u.toNat = 10
  · rw [if_pos c10] at h1
    injection h1 with h1
    subst h1
    obtain ⟨r1, r2, -⟩ := k10 c10
    exact hf n _ _ _ _ _ hn r1 r2 (a2 c10) h2
  rw [if_neg c10] at h1
  obtain ⟨t, t1, t2⟩ := Option.map_eq_some_iff.mp h1
  subst t2
  have := pm_to_F _ _ h2
  dsimp only at this
  rcases (pm_lf_e t1).2.2.2 with ⟨x, -⟩ | ⟨-, x⟩
  · omega
  · exfalso
    omega
theorem pm_eat_ag (hL : wk_L g Y) (hH : pm_Hs g Y E pf pa) {N : Nat} (hf : pm_ef g Y E pf N) {n : Nat} (hn : n ≤ N) {l u a : Int} {s s' : gm_S} (u0 : 0 ≤ u) (u1 : u < wk_u Y) (hu : pm_h E u s = true) (h2 : pw_to (pm_st g E l) n ([(5, u, a)], s) ([], s')) : gm_F s < gm_F s' := by
  cases n with
  | zero => exact (pw_0 h2).elim
  | succ n =>
    obtain ⟨c1, h3, h4⟩ := pw_cons h2
    rw [pm_st_5] at h3
    unfold pm_ag at h3
    rw [if_pos hu, show ((5, u, a) :: [] : List wk_E) = [] ++ [(5, u, a)] from rfl, pm_sg_loc] at h3
    obtain ⟨c0, k1, k2⟩ := Option.map_eq_some_iff.mp h3
    subst k2
    obtain ⟨n1, s1, i1, i2, i3⟩ := pw_split0 pm_loc (A := c0.1) (q := [(5, u, a)]) h4
    have ei := (pm_inc_e (s := s) (a := a)).1
    have x := pm_eat_sg hL hH hf (n := n1) (by omega) u0 u1 (by rw [pm_h_of ei]; exact hu) k1 i2
    have := pm_to_F _ _ i3
    dsimp only at this
    omega
theorem pm_eat_u (hL : wk_L g Y) (hH : pm_Hs g Y E pf pa) {N : Nat} (hf : pm_ef g Y E pf N) {n : Nat} (hn : n ≤ N) {l u o : Int} {s s' : gm_S} (u0 : 0 ≤ u) (u1 : u < wk_u Y) (hu : pm_h E u s = true) (h2 : pw_to (pm_st g E l) n ([(0, u, o)], s) ([], s')) : gm_F s < gm_F s' := by
  cases n with
  | zero => exact (pw_0 h2).elim
  | succ n =>
    obtain ⟨c1, h3, h4⟩ := pw_cons h2
    rw [pm_st_0] at h3
    have eo := pm_F_op (o := o) (s := s)
    have ho : pm_h E u (gm_op o s) = true := by rw [pm_h_of eo]; exact hu
    unfold pm_u at h3
    by_cases w1 : g 122 u.toNat = 1
    · rw [if_pos w1] at h3
      obtain ⟨t, t1, t2⟩ := Option.map_eq_some_iff.mp h3
      subst t2
      have e1 := (gm_c_e t1).2.2.1
      have e2 := (gm_d_e (t := t)).2.1
      obtain ⟨n1, s1, i1, i2, i3⟩ := pw_split0 pm_loc (A := [(5, u, gm_len (gm_op o s))]) (q := [(2, 0, 0)]) h4
      have x := pm_eat_ag hL hH hf (n := n1) (by omega) u0 u1 (by rw [pm_h_of (show gm_F (gm_d t) = gm_F s by omega)]; exact hu) i2
      have := pm_to_F _ _ i3
      dsimp only at this
      omega
    rw [if_neg w1] at h3
    by_cases w2 : g 122 u.toNat = 2
    · rw [if_pos w2] at h3
      obtain ⟨t, t1, t2⟩ := Option.bind_eq_some_iff.mp h3
      have e1 := (gm_c_e t1).2.2.1
      have e2 := (gm_d_e (t := t)).2.1
      rw [if_pos ho, show ((2, 0, 0) :: [] : List wk_E) = [] ++ [(2, 0, 0)] from rfl, pm_sg_loc] at t2
      obtain ⟨c0, k1, k2⟩ := Option.map_eq_some_iff.mp t2
      subst k2
      obtain ⟨n1, s1, i1, i2, i3⟩ := pw_split0 pm_loc (A := c0.1) (q := [(2, 0, 0)]) h4
      have x := pm_eat_sg hL hH hf (n := n1) (by omega) u0 u1 (by rw [pm_h_of (show gm_F (gm_d t) = gm_F s by omega)]; exact hu) k1 i2
      have := pm_to_F _ _ i3
      dsimp only at this
      omega
    rw [if_neg w2] at h3
    have := pm_eat_sg hL hH hf (n := n) (by omega) u0 u1 ho h3 h4
    omega
theorem pm_eat_it (hL : wk_L g Y) (hH : pm_Hs g Y E pf pa) {N : Nat} (hf : pm_ef g Y E pf N) {n : Nat} (hn : n ≤ N) {l w o k : Int} {s s' : gm_S} {A : List wk_E} (hw : (0, w, o) ∈ A) (w0 : 0 ≤ w) (w1 : w < wk_u Y) (hk : E.2.2.1 w (pm_K E s) = true) (h2 : pw_to (pm_st g E l) n (A, s) ([], s')) : gm_F s < gm_F s' := by
  obtain ⟨A1, A2, rfl⟩ := List.append_of_mem hw
  obtain ⟨n1, s1, i1, i2, i3⟩ := pw_split0 pm_loc (A := A1) (q := (0, w, o) :: A2) h2
  have x1 := pm_to_F _ _ i2
  obtain ⟨n2, s2, j1, j2, j3⟩ := pw_split0 pm_loc (A := [(0, w, o)]) (q := A2) i3
  have x2 := pm_to_F _ _ j2
  have x3 := pm_to_F _ _ j3
  dsimp only at x1 x2 x3
  by_cases c : gm_F s1 = gm_F s
  · have := pm_eat_u hL hH hf (n := n2) (by omega) w0 w1 (by rw [pm_h_of c]; exact hk) j2
    omega
  · omega
theorem pm_eat (hL : wk_L g Y) (hH : pm_Hs g Y E pf pa) : ∀ N : Nat, pm_ef g Y E pf N := by
  intro N
  induction N with
  | zero =>
    intro n l f a s s' hn f0 f1 hp h
    have : n = 0 := by omega
    subst this
    exact (pw_0 h).elim
  | succ N ih =>
    intro n l f a s s' hn f0 f1 hp h
    cases n with
    | zero => exact (pw_0 h).elim
    | succ n =>
      obtain ⟨c1, h3, h4⟩ := pw_cons h
      rw [pm_st_1] at h3
      obtain ⟨j, j1, j2⟩ := hH.2.1 f _ f0 f1 hp
      obtain ⟨j3, w, o, w1, w2, w3, w4⟩ := hH.2.2.1 f _ j f0 f1 j1 j2
      unfold pm_fo at h3
      by_cases c : 1 < g 130 f.toNat
      · rw [if_pos c] at h3
        obtain ⟨z, z1, h3⟩ := Option.bind_eq_some_iff.mp h3
        obtain ⟨t, t1, t2⟩ := Option.map_eq_some_iff.mp h3
        subst t2
        obtain ⟨i, i1, i2, i3⟩ := pm_dr_e _ _ _ _ z1
        have ei : i = j := hH.2.2.2 f _ i j f0 f1 (by omega) j1 i3 j3
        subst ei
        have ez : z.toNat = i := by omega
        rw [ez] at h4
        have e1 := (gm_c_e t1).2.2.1
        have e2 := (gm_d_e (t := t)).2.1
        obtain ⟨n1, s1, q1, q2, q3⟩ := pw_split0 pm_loc (q := [(2, 0, 0)]) h4
        have x := pm_eat_it hL hH ih (n := n1) (k := 0) (by omega) w1 w2 w3 (by rw [pm_K_of (show gm_F (gm_d t) = gm_F s by omega)]; exact w4) q2
        have := pm_to_F _ _ q3
        dsimp only at this
        omega
      · rw [if_neg c] at h3
        injection h3 with h3
        subst h3
        have ej : j = 0 := by omega
        subst ej
        rw [List.append_nil] at h4
        exact pm_eat_it hL hH ih (n := n) (k := 0) (by omega) w1 w2 w3 w4 h4
end PM2
