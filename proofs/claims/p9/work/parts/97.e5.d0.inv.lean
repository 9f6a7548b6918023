/-! the growing walk purely: what holds of each of its states -/
/-- pairs whose middle must be known when they are turned -/
def gm_fl : List wk_E → List Bool → Prop
  | [], _ => True
  | e :: r, fl => if e.1 = 0 ∧ e.2.2 = 1 then gm_fl r (false :: fl) else if e.1 = 3 then (match fl with | [] => False | _ :: q => gm_fl r (true :: q)) else if e.1 = 4 then (match fl with | [] => False | b :: q => b = true ∧ gm_fl r q) else gm_fl r fl
def gm_fg (P : List (Nat × Nat)) : List Bool := P.map (fun p => decide (p.2 ≠ 0))
theorem gm_fl_o {r : List wk_E} {fl : List Bool} {a b c : Int} (h0 : ¬ (a = 0 ∧ c = 1)) (h3 : a ≠ 3) (h4 : a ≠ 4) : gm_fl ((a, b, c) :: r) fl = gm_fl r fl := by
  cases fl with
  | nil => rw [gm_fl, if_neg h0, if_neg h3, if_neg h4]
  | cons x q => rw [gm_fl, if_neg h0, if_neg h3, if_neg h4]
theorem gm_fl_1 {r : List wk_E} {fl : List Bool} {b : Int} : gm_fl ((0, b, 1) :: r) fl = gm_fl r (false :: fl) := by
  cases fl with
  | nil => rw [gm_fl, if_pos ⟨rfl, rfl⟩]
  | cons x q => rw [gm_fl, if_pos ⟨rfl, rfl⟩]
theorem gm_fl_3 {r : List wk_E} {q : List Bool} {x : Bool} {b c : Int} : gm_fl ((3, b, c) :: r) (x :: q) = gm_fl r (true :: q) := by
  rw [gm_fl, if_neg (fun e => absurd (show (3 : Int) = 0 from e.1) (by decide)), if_pos rfl]
theorem gm_fl_30 {r : List wk_E} {b c : Int} : ¬ gm_fl ((3, b, c) :: r) [] := by
  rw [gm_fl, if_neg (fun e => absurd (show (3 : Int) = 0 from e.1) (by decide)), if_pos rfl]
  exact id
theorem gm_fl_4 {r : List wk_E} {q : List Bool} {x : Bool} {b c : Int} : gm_fl ((4, b, c) :: r) (x :: q) = (x = true ∧ gm_fl r q) := by
  rw [gm_fl, if_neg (fun e => absurd (show (4 : Int) = 0 from e.1) (by decide)), if_neg (show ¬ (4 : Int) = 3 by decide), if_pos rfl]
theorem gm_fl_40 {r : List wk_E} {b c : Int} : ¬ gm_fl ((4, b, c) :: r) [] := by
  rw [gm_fl, if_neg (fun e => absurd (show (4 : Int) = 0 from e.1) (by decide)), if_neg (show ¬ (4 : Int) = 3 by decide), if_pos rfl]
  exact id
theorem gm_fl_it {g : wk_g} {r : List wk_E} {fl : List Bool} : ∀ (n : Nat) (u : Int), gm_fl (wk_it g n u ++ r) fl = gm_fl r fl := by
  intro n
  induction n with
  | zero => intro u; rfl
  | succ n ih =>
    intro u
    unfold wk_it
    by_cases c : u < 0
    · rw [if_pos c]
      rfl
    · rw [if_neg c]
      by_cases c2 : 0 ≤ g 124 u.toNat
      · rw [if_pos c2]
        show gm_fl ((0, u, 1) :: (3, 0, 0) :: (0, g 124 u.toNat, 0) :: (4, 0, 0) :: (wk_it g n (g 125 u.toNat) ++ r)) fl = _
        rw [gm_fl_1, gm_fl_3, gm_fl_o (by omega) (by decide) (by decide), gm_fl_4, ih]
        exact propext ⟨fun h => h.2, fun h => ⟨rfl, h⟩⟩
      · rw [if_neg c2]
        show gm_fl ((0, u, 0) :: (wk_it g n (g 125 u.toNat) ++ r)) fl = _
        rw [gm_fl_o (by omega) (by decide) (by decide), ih]
def gm_I (c : gm_C) : Prop := gm_D c.2 = gm_outs c.1 ∧ gm_D c.2 ≤ gm_len c.2 ∧ (1 ≤ gm_len c.2 ∧ gm_len c.2 ≤ 100) ∧ (-(gm_len c.2) ≤ gm_F c.2 ∧ gm_F c.2 ≤ 20) ∧ gm_fl c.1 (gm_fg (gm_P c.2))
section GMI
variable {g : wk_g} {kw : Int → Bool} {s : gm_S} {r : List wk_E} {c : gm_C}
theorem gm_outs_o {a b z : Int} (h : a ≠ 2) : gm_outs ((a, b, z) :: r) = gm_outs r := by
  show (if a = 2 then 1 else 0) + gm_outs r = _
  rw [if_neg h, Int.zero_add]
theorem gm_outs_2 {b z : Int} : gm_outs ((2, b, z) :: r) = 1 + gm_outs r := by
  show (if (2 : Int) = 2 then 1 else 0) + gm_outs r = _
  rw [if_pos rfl]
/-- one more node: what a state is then -/
theorem gm_c_e {k v : Int} {t : gm_S} (h : gm_c k v s = some t) : gm_len s < 100 ∧ gm_len t = gm_len s + 1 ∧ gm_F t = gm_F s ∧ gm_D t = gm_D s ∧ gm_P t = gm_P s := by
  obtain ⟨a1, a2⟩ := gm_c_len h
  obtain ⟨-, b2, -, b4, b5⟩ := gm_c_t h
  unfold gm_len
  exact ⟨by omega, by omega, b2, b4, b5⟩
theorem gm_d_e {t : gm_S} : gm_len (gm_d t) = gm_len t ∧ gm_F (gm_d t) = gm_F t ∧ gm_D (gm_d t) = gm_D t + 1 ∧ gm_P (gm_d t) = gm_P t := by
  unfold gm_d gm_len
  rw [gm_T_mk, gm_F_mk, gm_D_mk, gm_P_mk]
  exact ⟨rfl, rfl, rfl, rfl⟩
theorem gm_y_e : gm_len (gm_y s) = gm_len s ∧ gm_F (gm_y s) = gm_F s ∧ gm_D (gm_y s) = gm_D s ∧ gm_P (gm_y s) = gm_P s := by
  unfold gm_y gm_len
  rw [gm_T_mk, gm_F_mk, gm_D_mk, gm_P_mk]
  exact ⟨rfl, rfl, rfl, rfl⟩
/-- what holds, of the rest of the stack -/
def gm_J (r : List wk_E) (s : gm_S) : Prop := gm_D s = gm_outs r ∧ gm_D s ≤ gm_len s ∧ (1 ≤ gm_len s ∧ gm_len s ≤ 100) ∧ (-(gm_len s) ≤ gm_F s ∧ gm_F s ≤ 20) ∧ gm_fl r (gm_fg (gm_P s))
theorem gm_en_I {i : Int} (hJ : gm_J r s) (h : gm_en g i r s = some c) : gm_I c := by
  unfold gm_en at h
  split at h
  · cases h
  · obtain ⟨t, t1, t2⟩ := Option.map_eq_some_iff.mp h
    subst t2
    obtain ⟨a1, a2, a3, a4, a5⟩ := gm_c_e t1
    obtain ⟨d1, d2, d3, d4⟩ := gm_d_e (t := t)
    have el : gm_len (gm_X s, gm_F s - 1, gm_T s, gm_D s, gm_P s) = gm_len s := by unfold gm_len; rw [gm_T_mk]
    rw [el] at a1 a2
    simp only [gm_F_mk] at a3
    simp only [gm_D_mk] at a4
    simp only [gm_P_mk] at a5
    obtain ⟨j1, j2, j3, j4, j5⟩ := hJ
    unfold gm_I
    dsimp only
    rw [d1, d2, d3, d4, a2, a3, a4, a5, gm_outs_o (by decide), gm_outs_2, gm_fl_o (by omega) (by decide) (by decide), gm_fl_o (by omega) (by decide) (by decide)]
    exact ⟨by omega, by omega, by omega, by omega, j5⟩
theorem gm_lf_I {o : Int} {t : gm_S} (hJ : gm_J r s) (h : gm_lf kw o s = some t) : gm_J r t := by
  have fin : ∀ (k v : Int) (x : Int64), gm_c k v (x, gm_F s, gm_T s, gm_D s, gm_P s) = some t → gm_J r t := by
    intro k v x h
    obtain ⟨a1, a2, a3, a4, a5⟩ := gm_c_e h
    have el : gm_len (x, gm_F s, gm_T s, gm_D s, gm_P s) = gm_len s := by unfold gm_len; rw [gm_T_mk]
    rw [el] at a1 a2
    simp only [gm_F_mk] at a3
    simp only [gm_D_mk] at a4
    simp only [gm_P_mk] at a5
    obtain ⟨j1, j2, j3, j4, j5⟩ := hJ
    unfold gm_J
    rw [a2, a3, a4, a5]
    exact ⟨by omega, by omega, by omega, by omega, j5⟩
  unfold gm_lf at h
  split at h
  · exact fin _ _ _ h
  · split at h
    · exact fin _ _ _ h
    · injection h with h
      subst h
      exact hJ
theorem gm_sg_I {u : Int} (hJ : gm_J r s) (h : gm_sg g kw u r s = some c) : gm_I c := by
  by_cases c9 : g 119 u.toNat = 9
  · unfold gm_sg at h
    rw [if_pos c9] at h
    exact gm_en_I hJ h
  · by_cases c10 : g 119 u.toNat = 10
    · unfold gm_sg at h
      rw [if_neg c9, if_pos c10] at h
      injection h with h
      subst h
      obtain ⟨j1, j2, j3, j4, j5⟩ := hJ
      unfold gm_I
      dsimp only
      rw [gm_outs_o (by decide), gm_fl_o (by omega) (by decide) (by decide)]
      exact ⟨j1, j2, j3, j4, j5⟩
    · rw [gm_sg_lf c9 c10] at h
      obtain ⟨t, t1, t2⟩ := Option.map_eq_some_iff.mp h
      subst t2
      exact gm_lf_I hJ t1
theorem gm_op_J {o u : Int} (h : gm_I ((0, u, o) :: r, s)) : gm_J r (gm_op o s) := by
  obtain ⟨j1, j2, j3, j4, j5⟩ := h
  dsimp only at j1 j2 j3 j4 j5
  rw [gm_outs_o (by decide)] at j1
  by_cases c1 : o = 1
  · subst c1
    rw [gm_fl_1] at j5
    unfold gm_op gm_J gm_len
    simp only [if_pos, gm_T_mk, gm_F_mk, gm_D_mk, gm_P_mk]
    exact ⟨j1, j2, j3, j4, j5⟩
  · rw [gm_fl_o (fun e => c1 e.2) (by decide) (by decide)] at j5
    unfold gm_op
    rw [if_neg c1]
    exact ⟨j1, j2, j3, j4, j5⟩
theorem gm_u_I {u : Int} (hJ : gm_J r s) (h : gm_u g kw u r s = some c) : gm_I c := by
  obtain ⟨y1, y2, y3, y4⟩ := gm_y_e (s := s)
  unfold gm_u at h
  split at h
  · obtain ⟨t, t1, t2⟩ := Option.map_eq_some_iff.mp h
    subst t2
    obtain ⟨a1, a2, a3, a4, a5⟩ := gm_c_e t1
    obtain ⟨d1, d2, d3, d4⟩ := gm_d_e (t := t)
    obtain ⟨j1, j2, j3, j4, j5⟩ := hJ
    unfold gm_I
    dsimp only
    rw [d1, d2, d3, d4, a2, a3, a4, a5, y1, y2, y3, y4, gm_outs_o (by decide), gm_outs_2, gm_fl_o (by omega) (by decide) (by decide), gm_fl_o (by omega) (by decide) (by decide)]
    exact ⟨by omega, by omega, by omega, by omega, j5⟩
  · split at h
    · obtain ⟨t, t1, t2⟩ := Option.bind_eq_some_iff.mp h
      obtain ⟨a1, a2, a3, a4, a5⟩ := gm_c_e t1
      obtain ⟨d1, d2, d3, d4⟩ := gm_d_e (t := t)
      have hJ2 : gm_J ((2, 0, 0) :: r) (gm_d t) := by
        obtain ⟨j1, j2, j3, j4, j5⟩ := hJ
        unfold gm_J
        rw [d1, d2, d3, d4, a2, a3, a4, a5, y1, y2, y3, y4, gm_outs_2, gm_fl_o (by omega) (by decide) (by decide)]
        exact ⟨by omega, by omega, by omega, by omega, j5⟩
      split at t2
      · exact gm_sg_I hJ2 t2
      · injection t2 with t2
        subst t2
        exact hJ2
    · exact gm_sg_I hJ h
theorem gm_st_1 {f a : Int} : gm_st g kw (1, f, a) r s = gm_fo g f r s := by
  unfold gm_st gm_fo
  rw [if_neg (show ¬ (1 : Int) = 0 by decide), if_pos rfl]
theorem gm_st_5 {u a : Int} : gm_st g kw (5, u, a) r s = gm_ag g kw u a r s := by
  unfold gm_st gm_ag
  rw [if_neg (show ¬ (5 : Int) = 0 by decide), if_neg (show ¬ (5 : Int) = 1 by decide), if_pos rfl]
theorem gm_st_2 {u a : Int} : gm_st g kw (2, u, a) r s = some (r, (gm_X s, gm_F s, gm_T s, gm_D s - 1, gm_P s)) := by
  unfold gm_st
  rw [if_neg (show ¬ (2 : Int) = 0 by decide), if_neg (show ¬ (2 : Int) = 1 by decide), if_neg (show ¬ (2 : Int) = 5 by decide), if_pos rfl]
theorem gm_st_3 {u a : Int} : gm_st g kw (3, u, a) r s = some (r, gm_mid s) := by
  unfold gm_st
  rw [if_neg (show ¬ (3 : Int) = 0 by decide), if_neg (show ¬ (3 : Int) = 1 by decide), if_neg (show ¬ (3 : Int) = 5 by decide), if_neg (show ¬ (3 : Int) = 2 by decide), if_pos rfl]
theorem gm_st_4 {u a : Int} : gm_st g kw (4, u, a) r s = some (r, gm_tu s) := by
  unfold gm_st
  rw [if_neg (show ¬ (4 : Int) = 0 by decide), if_neg (show ¬ (4 : Int) = 1 by decide), if_neg (show ¬ (4 : Int) = 5 by decide), if_neg (show ¬ (4 : Int) = 2 by decide), if_neg (show ¬ (4 : Int) = 3 by decide)]
theorem gm_fo_I {f : Int} (hJ : gm_J r s) (h : gm_fo g f r s = some c) : gm_I c := by
  obtain ⟨y1, y2, y3, y4⟩ := gm_y_e (s := s)
  unfold gm_fo at h
  split at h
  · obtain ⟨t, t1, t2⟩ := Option.map_eq_some_iff.mp h
    subst t2
    obtain ⟨a1, a2, a3, a4, a5⟩ := gm_c_e t1
    obtain ⟨d1, d2, d3, d4⟩ := gm_d_e (t := t)
    obtain ⟨j1, j2, j3, j4, j5⟩ := hJ
    unfold gm_I
    dsimp only
    rw [d1, d2, d3, d4, a2, a3, a4, a5, y1, y2, y3, y4, gm_outs_a, gm_outs_it, gm_outs_2, gm_fl_it, gm_fl_o (by omega) (by decide) (by decide)]
    exact ⟨by omega, by omega, by omega, by omega, j5⟩
  · injection h with h
    subst h
    obtain ⟨j1, j2, j3, j4, j5⟩ := hJ
    unfold gm_I
    dsimp only
    rw [gm_outs_a, gm_outs_it, gm_fl_it]
    exact ⟨by omega, j2, j3, j4, j5⟩
theorem gm_J_of {e : wk_E} (h : gm_I (e :: r, s)) (h0 : ¬ (e.1 = 0 ∧ e.2.2 = 1)) (h2 : e.1 ≠ 2) (h3 : e.1 ≠ 3) (h4 : e.1 ≠ 4) : gm_J r s := by
  obtain ⟨a, b, z⟩ := e
  obtain ⟨j1, j2, j3, j4, j5⟩ := h
  dsimp only at j1 j2 j3 j4 j5
  rw [gm_outs_o h2] at j1
  rw [gm_fl_o h0 h3 h4] at j5
  exact ⟨j1, j2, j3, j4, j5⟩
/-- all turns keep it, of the entries that there are -/
theorem gm_st_I {e : wk_E} (he : e.1 = 0 ∨ e.1 = 1 ∨ e.1 = 2 ∨ e.1 = 3 ∨ e.1 = 4 ∨ e.1 = 5) (hI : gm_I (e :: r, s)) (h : gm_st g kw e r s = some c) : gm_I c := by
  obtain ⟨a, b, z⟩ := e
  dsimp only at he
  rcases he with rfl | rfl | rfl | rfl | rfl | rfl
  · rw [gm_st_0] at h
    exact gm_u_I (gm_op_J hI) h
  · rw [gm_st_1] at h
    exact gm_fo_I (gm_J_of hI (fun e => absurd (show (1 : Int) = 0 from e.1) (by decide)) (show (1 : Int) ≠ 2 by decide) (show (1 : Int) ≠ 3 by decide) (show (1 : Int) ≠ 4 by decide)) h
  · rw [gm_st_2] at h
    injection h with h
    subst h
    obtain ⟨j1, j2, j3, j4, j5⟩ := hI
    dsimp only at j1 j2 j3 j4 j5
    rw [gm_outs_2] at j1
    rw [gm_fl_o (by omega) (by decide) (by decide)] at j5
    unfold gm_I gm_len
    dsimp only
    simp only [gm_T_mk, gm_F_mk, gm_D_mk, gm_P_mk]
    unfold gm_len at j2 j3 j4
    exact ⟨by omega, by omega, j3, j4, j5⟩
  · rw [gm_st_3] at h
    injection h with h
    subst h
    obtain ⟨j1, j2, j3, j4, j5⟩ := hI
    dsimp only at j1 j2 j3 j4 j5
    rw [gm_outs_o (by decide)] at j1
    unfold gm_mid gm_I gm_len
    dsimp only
    simp only [gm_T_mk, gm_F_mk, gm_D_mk, gm_P_mk]
    unfold gm_len at j2 j3 j4
    refine ⟨j1, j2, j3, j4, ?_⟩
    cases hP : gm_P s with
    | nil =>
      rw [hP] at j5
      exact absurd j5 gm_fl_30
    | cons p q =>
      rw [hP] at j5
      have j5 : gm_fl ((3, b, z) :: r) (decide (p.2 ≠ 0) :: gm_fg q) := j5
      rw [gm_fl_3] at j5
      have et : decide ((gm_T s).length ≠ 0) = true := decide_eq_true (by omega)
      show gm_fl r (decide ((gm_T s).length ≠ 0) :: gm_fg q)
      rw [et]
      exact j5
  · rw [gm_st_4] at h
    injection h with h
    subst h
    obtain ⟨j1, j2, j3, j4, j5⟩ := hI
    dsimp only at j1 j2 j3 j4 j5
    rw [gm_outs_o (by decide)] at j1
    cases hP : gm_P s with
    | nil =>
      rw [hP] at j5
      exact absurd j5 gm_fl_40
    | cons p q =>
      rw [hP] at j5
      have j5 : gm_fl ((4, b, z) :: r) (decide (p.2 ≠ 0) :: gm_fg q) := j5
      rw [gm_fl_4] at j5
      have etu : gm_tu s = (gm_X s, gm_F s, gm_rot p.1 p.2 (gm_T s), gm_D s, q) := by
        unfold gm_tu
        rw [hP]
      rw [etu]
      unfold gm_I gm_len
      dsimp only
      simp only [gm_T_mk, gm_F_mk, gm_D_mk, gm_P_mk, gm_rot_len]
      unfold gm_len at j2 j3 j4
      exact ⟨j1, j2, j3, j4, j5.2⟩
  · rw [gm_st_5] at h
    have hJ := gm_J_of hI (fun e => absurd (show (5 : Int) = 0 from e.1) (by decide)) (show (5 : Int) ≠ 2 by decide) (show (5 : Int) ≠ 3 by decide) (show (5 : Int) ≠ 4 by decide)
    unfold gm_ag at h
    split at h
    · have hJ2 : gm_J ((5, b, z - 1) :: r) s := by
        obtain ⟨j1, j2, j3, j4, j5⟩ := hJ
        unfold gm_J
        rw [gm_outs_o (by decide), gm_fl_o (by omega) (by decide) (by decide)]
        exact ⟨j1, j2, j3, j4, j5⟩
      exact gm_sg_I hJ2 h
    · injection h with h
      subst h
      exact hJ
end GMI
