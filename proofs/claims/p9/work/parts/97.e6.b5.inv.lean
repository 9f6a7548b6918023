/-! the parsing walk purely: what holds of each of its states -/
/-- an open many stands ahead of the pairs that were opened later -/
def pm_al : List wk_E → List Int → Prop
  | [], _ => True
  | e :: r, B => if e.1 = 0 ∧ e.2.2 = 1 then pm_al r (1000 :: B) else if e.1 = 4 then (match B with | [] => True | b :: q => (∀ x ∈ r, x.1 = 5 → x.2.2 < b) ∧ pm_al r q) else pm_al r B
def pm_bg (P : List (Nat × Nat)) : List Int := P.map (fun p => (p.1 : Int))
theorem pm_al_o {r : List wk_E} {B : List Int} {a b c : Int} (h0 : ¬ (a = 0 ∧ c = 1)) (h4 : a ≠ 4) : pm_al ((a, b, c) :: r) B = pm_al r B := by
  rw [pm_al.eq_def]
  dsimp only
  rw [if_neg h0, if_neg h4]
theorem pm_al_1 {r : List wk_E} {B : List Int} {b : Int} : pm_al ((0, b, 1) :: r) B = pm_al r (1000 :: B) := by
  rw [pm_al.eq_def]
  dsimp only
  rw [if_pos ⟨rfl, rfl⟩]
theorem pm_al_4 {r : List wk_E} {q : List Int} {x b c : Int} : pm_al ((4, b, c) :: r) (x :: q) = ((∀ y ∈ r, y.1 = 5 → y.2.2 < x) ∧ pm_al r q) := by
  rw [pm_al.eq_def]
  dsimp only
  rw [if_neg (fun e => absurd (show (4 : Int) = 0 from e.1) (by decide)), if_pos rfl]
theorem pm_al_40 {r : List wk_E} {b c : Int} : pm_al ((4, b, c) :: r) [] = True := by
  rw [pm_al.eq_def]
  dsimp only
  rw [if_neg (fun e => absurd (show (4 : Int) = 0 from e.1) (by decide)), if_pos rfl]
theorem pm_al_b {b b' : Int} {B : List Int} : ∀ (r : List wk_E) (C : List Int), (∀ x ∈ r, x.1 = 5 → x.2.2 < b') → pm_al r (C ++ b :: B) → pm_al r (C ++ b' :: B) := by
  intro r
  induction r with
  | nil => intro C _ _; exact trivial
  | cons e r ih =>
    intro C hb h
    obtain ⟨x, y, z⟩ := e
    have hb' : ∀ x ∈ r, x.1 = 5 → x.2.2 < b' := fun x hx => hb x (List.mem_cons_of_mem _ hx)
    by_cases c0 : x = 0 ∧ z = 1
    · obtain ⟨rfl, rfl⟩ := c0
      rw [pm_al_1] at h ⊢
      exact ih (1000 :: C) hb' h
    · by_cases c4 : x = 4
      · subst c4
        cases C with
        | nil =>
          rw [List.nil_append] at h ⊢
          rw [pm_al_4] at h ⊢
          exact ⟨hb', h.2⟩
        | cons k C =>
          rw [List.cons_append] at h ⊢
          rw [pm_al_4] at h ⊢
          exact ⟨h.1, ih C hb' h.2⟩
      · rw [pm_al_o c0 c4] at h ⊢
        exact ih C hb' h
theorem pm_al_it {g : wk_g} {r : List wk_E} {B : List Int} (hr : ∀ x ∈ r, x.1 = 5 → x.2.2 < 1000) : ∀ (n : Nat) (u : Int), pm_al r B → pm_al (wk_it g n u ++ r) B := by
  intro n
  induction n with
  | zero => intro u h; exact h
  | succ n ih =>
    intro u h
    unfold wk_it
    by_cases c : u < 0
    · rw [if_pos c]
      exact h
    · rw [if_neg c]
      by_cases c2 : 0 ≤ g 124 u.toNat
      · rw [if_pos c2]
        show pm_al ((0, u, 1) :: (3, 0, 0) :: (0, g 124 u.toNat, 0) :: (4, 0, 0) :: (wk_it g n (g 125 u.toNat) ++ r)) B
        rw [pm_al_1, pm_al_o (by omega) (by decide), pm_al_o (by omega) (by decide), pm_al_4]
        refine ⟨fun x hx x5 => ?_, ih _ h⟩
        rcases List.mem_append.mp hx with hx | hx
        · exact absurd x5 (pm_it_5 _ _ x hx)
        · exact hr x hx x5
      · rw [if_neg c2]
        show pm_al ((0, u, 0) :: (wk_it g n (g 125 u.toNat) ++ r)) B
        rw [pm_al_o (by omega) (by decide)]
        exact ih _ h
def pm_I (c : gm_C) : Prop := gm_D c.2 = gm_outs c.1 ∧ gm_D c.2 ≤ gm_len c.2 ∧ (1 ≤ gm_len c.2 ∧ gm_len c.2 ≤ 100) ∧ gm_fl c.1 (gm_fg (gm_P c.2)) ∧ pm_al c.1 (pm_bg (gm_P c.2)) ∧ ∀ x ∈ c.1, x.1 = 5 → 0 ≤ x.2.2 ∧ x.2.2 < gm_len c.2
section PMI
variable {g : wk_g} {E : pm_E} {l : Int} {s : gm_S} {r : List wk_E} {c : gm_C}
/-- what stands on the top is no open one and no pair -/
theorem pm_I_c {a b z : Int} (h : pm_I (r, s)) (h2 : a ≠ 2) (h0 : ¬ (a = 0 ∧ z = 1)) (h3 : a ≠ 3) (h4 : a ≠ 4) (h5 : a = 5 → 0 ≤ z ∧ z < gm_len s) : pm_I ((a, b, z) :: r, s) := by
  obtain ⟨j1, j2, j3, j4, j5, j6⟩ := h
  dsimp only at j1 j2 j3 j4 j5 j6
  unfold pm_I
  dsimp only
  rw [gm_outs_o h2, gm_fl_o h0 h3 h4, pm_al_o h0 h4]
  refine ⟨j1, j2, j3, j4, j5, fun x hx x5 => ?_⟩
  rcases List.mem_cons.mp hx with rfl | hx
  · exact h5 x5
  · exact j6 x hx x5
/-- a node, in which others are to stand -/
theorem pm_I_d {k v : Int} {t : gm_S} {w : Int} (h : pm_I (r, s)) (h1 : gm_c k v s = some t) : pm_I ((2, w, 0) :: r, gm_d t) := by
  obtain ⟨j1, j2, j3, j4, j5, j6⟩ := h
  dsimp only at j1 j2 j3 j4 j5 j6
  obtain ⟨a1, a2, a3, a4, a5⟩ := gm_c_e h1
  obtain ⟨d1, d2, d3, d4⟩ := gm_d_e (t := t)
  unfold pm_I
  dsimp only
  rw [gm_outs_2, gm_fl_o (by omega) (by decide) (by decide), pm_al_o (by omega) (by decide), d1, d3, d4, a2, a4, a5]
  refine ⟨by omega, by omega, by omega, j4, j5, fun x hx x5 => ?_⟩
  rcases List.mem_cons.mp hx with rfl | hx
  · exact absurd x5 (show ¬ (2 : Int) = 5 by decide)
  · have := j6 x hx x5
    omega
theorem pm_I_e {t : gm_S} (h : pm_I (r, s)) (h1 : gm_D t = gm_D s) (h2 : gm_P t = gm_P s) (h3 : gm_len s ≤ gm_len t) (h4 : gm_len t ≤ 100) : pm_I (r, t) := by
  obtain ⟨j1, j2, j3, j4, j5, j6⟩ := h
  dsimp only at j1 j2 j3 j4 j5 j6
  unfold pm_I
  dsimp only
  rw [h1, h2]
  refine ⟨j1, by omega, by omega, j4, j5, fun x hx x5 => ?_⟩
  have := j6 x hx x5
  omega
theorem pm_lf_l {o w : Int} {t : gm_S} (h : pm_lf E o w s = some t) (hs : gm_len s ≤ 100) : gm_len t ≤ 100 := by
  have fin : ∀ (k v : Int), (gm_c k v s).map pm_nx = some t → gm_len t ≤ 100 := by
    intro k v h
    obtain ⟨t1, h1, h2⟩ := Option.map_eq_some_iff.mp h
    obtain ⟨a1, a2, -⟩ := gm_c_e h1
    subst h2
    have : gm_len (pm_nx t1) = gm_len t1 := by unfold gm_len; rw [pm_nx_e.2.1]
    omega
  unfold pm_lf at h
  split at h
  · split at h
    · exact fin _ _ h
    · cases h
  · split at h
    · split at h
      · exact fin _ _ h
      · cases h
    · split at h
      · split at h
        · injection h with h
          subst h
          have : gm_len (pm_nx s) = gm_len s := by unfold gm_len; rw [pm_nx_e.2.1]
          omega
        · cases h
      · injection h with h
        subst h
        exact hs
theorem pm_sg_I {u : Int} (hJ : pm_I (r, s)) (h : pm_sg l g E u r s = some c) : pm_I c := by
  unfold pm_sg at h
  by_cases c9 : g 119 u.toNat = 9
  · rw [if_pos c9] at h
    unfold pm_en at h
    by_cases cu : 12 ≤ l + wk_ul r
    · rw [if_pos cu] at h
      cases h
    · rw [if_neg cu] at h
      obtain ⟨t, t1, t2⟩ := Option.map_eq_some_iff.mp h
      subst t2
      exact pm_I_c (pm_I_d hJ t1) (by decide) (by omega) (by decide) (by decide) (fun e => absurd e (by decide))
  rw [if_neg c9] at h
  by_cases c10 : g 119 u.toNat = 10
  · rw [if_pos c10] at h
    injection h with h
    subst h
    exact pm_I_c hJ (by decide) (by omega) (by decide) (by decide) (fun e => absurd e (by decide))
  rw [if_neg c10] at h
  obtain ⟨t, t1, t2⟩ := Option.map_eq_some_iff.mp h
  subst t2
  obtain ⟨q1, q2, q3, -⟩ := pm_lf_e t1
  exact pm_I_e hJ q1 q2 q3 (pm_lf_l t1 hJ.2.2.1.2)
theorem pm_op_I {o u : Int} (h : pm_I ((0, u, o) :: r, s)) : pm_I (r, gm_op o s) := by
  obtain ⟨j1, j2, j3, j4, j5, j6⟩ := h
  dsimp only at j1 j2 j3 j4 j5 j6
  rw [gm_outs_o (by decide)] at j1
  have j7 : ∀ x ∈ r, x.1 = 5 → 0 ≤ x.2.2 ∧ x.2.2 < gm_len s := fun x hx => j6 x (List.mem_cons_of_mem _ hx)
  by_cases c1 : o = 1
  · subst c1
    rw [gm_fl_1] at j4
    rw [pm_al_1] at j5
    have j5 := pm_al_b (b' := gm_len s) r [] (fun x hx x5 => (j7 x hx x5).2) j5
    unfold gm_op pm_I gm_len
    unfold gm_len at j2 j3 j5 j7
    dsimp only
    simp only [if_pos, gm_T_mk, gm_D_mk, gm_P_mk]
    exact ⟨j1, j2, j3, j4, j5, j7⟩
  · rw [gm_fl_o (fun e => c1 e.2) (by decide) (by decide)] at j4
    rw [pm_al_o (fun e => c1 e.2) (by decide)] at j5
    unfold gm_op
    rw [if_neg c1]
    exact ⟨j1, j2, j3, j4, j5, j7⟩
theorem pm_u_I {u : Int} (hJ : pm_I (r, s)) (h : pm_u l g E u r s = some c) : pm_I c := by
  unfold pm_u at h
  by_cases w1 : g 122 u.toNat = 1
  · rw [if_pos w1] at h
    obtain ⟨t, t1, t2⟩ := Option.map_eq_some_iff.mp h
    subst t2
    refine pm_I_c (pm_I_d hJ t1) (by decide) (by omega) (by decide) (by decide) (fun _ => ?_)
    rw [gm_d_e.1, (gm_c_e t1).2.1]
    have := hJ.2.2.1
    dsimp only at this
    omega
  rw [if_neg w1] at h
  by_cases w2 : g 122 u.toNat = 2
  · rw [if_pos w2] at h
    obtain ⟨t, t1, t2⟩ := Option.bind_eq_some_iff.mp h
    by_cases ch : pm_h E u s = true
    · rw [if_pos ch] at t2
      exact pm_sg_I (pm_I_d hJ t1) t2
    · rw [if_neg ch] at t2
      injection t2 with t2
      subst t2
      exact pm_I_d hJ t1
  rw [if_neg w2] at h
  exact pm_sg_I hJ h
theorem pm_I_it {n : Nat} {u : Int} (h : pm_I (r, s)) : pm_I (wk_it g n u ++ r, s) := by
  obtain ⟨j1, j2, j3, j4, j5, j6⟩ := h
  dsimp only at j1 j2 j3 j4 j5 j6
  unfold pm_I
  dsimp only
  rw [gm_outs_a, gm_outs_it, gm_fl_it]
  refine ⟨by omega, j2, j3, j4, pm_al_it (fun x hx x5 => ?_) _ _ j5, fun x hx x5 => ?_⟩
  · have := j6 x hx x5
    omega
  · rcases List.mem_append.mp hx with hx | hx
    · exact absurd x5 (pm_it_5 _ _ x hx)
    · exact j6 x hx x5
theorem pm_fo_I {f : Int} (hJ : pm_I (r, s)) (h : pm_fo g E f r s = some c) : pm_I c := by
  unfold pm_fo at h
  by_cases w1 : 1 < g 130 f.toNat
  · rw [if_pos w1] at h
    obtain ⟨n, -, h⟩ := Option.bind_eq_some_iff.mp h
    obtain ⟨t, t1, t2⟩ := Option.map_eq_some_iff.mp h
    subst t2
    exact pm_I_it (pm_I_d hJ t1)
  · rw [if_neg w1] at h
    injection h with h
    subst h
    exact pm_I_it hJ
theorem pm_I_r {e : wk_E} (h : pm_I (e :: r, s)) (h0 : ¬ (e.1 = 0 ∧ e.2.2 = 1)) (h2 : e.1 ≠ 2) (h3 : e.1 ≠ 3) (h4 : e.1 ≠ 4) : pm_I (r, s) := by
  obtain ⟨a, b, z⟩ := e
  obtain ⟨j1, j2, j3, j4, j5, j6⟩ := h
  dsimp only at j1 j2 j3 j4 j5 j6
  rw [gm_outs_o h2] at j1
  rw [gm_fl_o h0 h3 h4] at j4
  rw [pm_al_o h0 h4] at j5
  exact ⟨j1, j2, j3, j4, j5, fun x hx => j6 x (List.mem_cons_of_mem _ hx)⟩
theorem pm_st_I {e : wk_E} (he : e.1 = 0 ∨ e.1 = 1 ∨ e.1 = 2 ∨ e.1 = 3 ∨ e.1 = 4 ∨ e.1 = 5) (hI : pm_I (e :: r, s)) (h : pm_st g E l e r s = some c) : pm_I c := by
  obtain ⟨a, b, z⟩ := e
  dsimp only at he
  rcases he with rfl | rfl | rfl | rfl | rfl | rfl
  · rw [pm_st_0] at h
    exact pm_u_I (pm_op_I hI) h
  · rw [pm_st_1] at h
    exact pm_fo_I (pm_I_r hI (fun e => absurd (show (1 : Int) = 0 from e.1) (by decide)) (show (1 : Int) ≠ 2 by decide) (show (1 : Int) ≠ 3 by decide) (show (1 : Int) ≠ 4 by decide)) h
  · rw [pm_st_2] at h
    injection h with h
    subst h
    obtain ⟨j1, j2, j3, j4, j5, j6⟩ := hI
    dsimp only at j1 j2 j3 j4 j5 j6
    rw [gm_outs_2] at j1
    rw [gm_fl_o (by omega) (by decide) (by decide)] at j4
    rw [pm_al_o (by omega) (by decide)] at j5
    unfold pm_I gm_len
    dsimp only
    simp only [gm_T_mk, gm_D_mk, gm_P_mk]
    unfold gm_len at j2 j3 j6
    exact ⟨by omega, by omega, j3, j4, j5, fun x hx => j6 x (List.mem_cons_of_mem _ hx)⟩
  · rw [pm_st_3] at h
    injection h with h
    subst h
    obtain ⟨j1, j2, j3, j4, j5, j6⟩ := hI
    dsimp only at j1 j2 j3 j4 j5 j6
    rw [gm_outs_o (by decide)] at j1
    rw [pm_al_o (by omega) (by decide)] at j5
    unfold gm_mid pm_I gm_len
    dsimp only
    simp only [gm_T_mk, gm_D_mk, gm_P_mk]
    unfold gm_len at j2 j3 j6
    refine ⟨j1, j2, j3, ?_, ?_, fun x hx => j6 x (List.mem_cons_of_mem _ hx)⟩
    · cases hP : gm_P s with
      | nil =>
        rw [hP] at j4
        exact absurd j4 gm_fl_30
      | cons p q =>
        rw [hP] at j4
        have j4 : gm_fl ((3, b, z) :: r) (decide (p.2 ≠ 0) :: gm_fg q) := j4
        rw [gm_fl_3] at j4
        have et : decide ((gm_T s).length ≠ 0) = true := decide_eq_true (by omega)
        show gm_fl r (decide ((gm_T s).length ≠ 0) :: gm_fg q)
        rw [et]
        exact j4
    · cases hP : gm_P s with
      | nil => rw [hP] at j5; exact j5
      | cons p q => rw [hP] at j5; exact j5
  · rw [pm_st_4] at h
    injection h with h
    subst h
    obtain ⟨j1, j2, j3, j4, j5, j6⟩ := hI
    dsimp only at j1 j2 j3 j4 j5 j6
    rw [gm_outs_o (by decide)] at j1
    cases hP : gm_P s with
    | nil =>
      rw [hP] at j4
      exact absurd j4 gm_fl_40
    | cons p q =>
      rw [hP] at j4 j5
      have j4 : gm_fl ((4, b, z) :: r) (decide (p.2 ≠ 0) :: gm_fg q) := j4
      have j5 : pm_al ((4, b, z) :: r) ((p.1 : Int) :: pm_bg q) := j5
      rw [gm_fl_4] at j4
      rw [pm_al_4] at j5
      have etu : gm_tu s = (gm_X s, gm_F s, gm_rot p.1 p.2 (gm_T s), gm_D s, q) := by
        unfold gm_tu
        rw [hP]
      rw [etu]
      unfold pm_I gm_len
      dsimp only
      simp only [gm_T_mk, gm_D_mk, gm_P_mk, gm_rot_len]
      unfold gm_len at j2 j3 j6
      exact ⟨j1, j2, j3, j4.2, j5.2, fun x hx => j6 x (List.mem_cons_of_mem _ hx)⟩
  · rw [pm_st_5] at h
    have hJ := pm_I_r hI (fun e => absurd (show (5 : Int) = 0 from e.1) (by decide)) (show (5 : Int) ≠ 2 by decide) (show (5 : Int) ≠ 3 by decide) (show (5 : Int) ≠ 4 by decide)
    unfold pm_ag at h
    by_cases ch : pm_h E b s = true
    · rw [if_pos ch] at h
      obtain ⟨-, -, y3, y4⟩ := pm_inc_e (s := s) (a := z)
      have y2 := pm_inc_len (s := s) (a := z)
      have hJ2 : pm_I (r, pm_inc z s) := pm_I_e hJ y3 y4 (by omega) (by have := hJ.2.2.1.2; dsimp only at this; omega)
      refine pm_sg_I (pm_I_c hJ2 (by decide) (by omega) (by decide) (by decide) (fun _ => ?_)) h
      rw [y2]
      exact hI.2.2.2.2.2 _ (List.mem_cons_self ..) rfl
    · rw [if_neg ch] at h
      injection h with h
      subst h
      exact hJ
end PMI
