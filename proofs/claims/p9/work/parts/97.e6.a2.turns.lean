/-! how many turns a walk that parses has (counted by halves): entries pay, or a node, or a token -/
def pm_e2 (Y : wk_Y) (e : wk_E) : Int := if e.1 = 0 then 5 * (wk_e Y e.2.1 - e.2.1) - 3 else if e.1 = 1 then 5 * (wk_x Y e.2.1 - wk_b Y e.2.1) - 5 else 2
def pm_pot (Y : wk_Y) : List wk_E → Int
  | [] => 0
  | e :: r => pm_e2 Y e + pm_pot Y r
def pm_k (Y : wk_Y) (e : wk_E) : Prop := (e.1 = 0 → 0 ≤ e.2.1 ∧ e.2.1 < wk_u Y ∧ wk_e Y e.2.1 - e.2.1 ≤ 60) ∧ (e.1 = 1 → 0 ≤ e.2.1 ∧ e.2.1 < wk_f Y ∧ wk_x Y e.2.1 - wk_b Y e.2.1 ≤ 61) ∧ e.1 ≠ 5
def pm_Kn (Y : wk_Y) : List wk_E → Prop
  | [] => True
  | e :: r => pm_k Y e ∧ pm_Kn Y r
/-- a form has a unit -/
def pm_x (Y : wk_Y) : Prop := ∀ f, 0 ≤ f → f < wk_f Y → wk_b Y f + 2 ≤ wk_x Y f
section PM3
variable {g : wk_g} {Y : wk_Y} {E : pm_E} {l : Int} {r : List wk_E} {s t : gm_S} {c : gm_C}
theorem pm_pot_a : ∀ (r q : List wk_E), pm_pot Y (r ++ q) = pm_pot Y r + pm_pot Y q := by
  intro r q
  induction r with
  | nil => show pm_pot Y q = 0 + _; omega
  | cons e r ih => show pm_e2 Y e + pm_pot Y (r ++ q) = pm_e2 Y e + pm_pot Y r + pm_pot Y q; omega
theorem pm_Kn_a : ∀ (r q : List wk_E), pm_Kn Y r → pm_Kn Y q → pm_Kn Y (r ++ q) := by
  intro r q
  induction r with
  | nil => intro _ h; exact h
  | cons e r ih => intro h1 h2; exact ⟨h1.1, ih h1.2 h2⟩
theorem pm_k_o {a b c : Int} (h0 : a ≠ 0) (h1 : a ≠ 1) (h5 : a ≠ 5) : pm_k Y (a, b, c) := ⟨fun e => absurd e h0, fun e => absurd e h1, h5⟩
theorem pm_k_0 {b c : Int} (h0 : 0 ≤ b) (h1 : b < wk_u Y) (h2 : wk_e Y b - b ≤ 60) : pm_k Y (0, b, c) := ⟨fun _ => ⟨h0, h1, h2⟩, fun e => absurd (show (0 : Int) = 1 from e) (by decide), show (0 : Int) ≠ 5 by decide⟩
theorem pm_k_1 {b c : Int} (h0 : 0 ≤ b) (h1 : b < wk_f Y) (h2 : wk_x Y b - wk_b Y b ≤ 61) : pm_k Y (1, b, c) := ⟨fun e => absurd (show (1 : Int) = 0 from e) (by decide), fun _ => ⟨h0, h1, h2⟩, show (1 : Int) ≠ 5 by decide⟩
theorem pm_e_o {a b c : Int} (h0 : a ≠ 0) (h1 : a ≠ 1) : pm_e2 Y (a, b, c) = 2 := by
  unfold pm_e2
  rw [if_neg h0, if_neg h1]
theorem pm_e_0 {b c : Int} : pm_e2 Y (0, b, c) = 5 * (wk_e Y b - b) - 3 := rfl
theorem pm_e_1 {b c : Int} : pm_e2 Y (1, b, c) = 5 * (wk_x Y b - wk_b Y b) - 5 := rfl
theorem pm_it (hL : wk_L g Y) {f : Int} (h61 : wk_x Y f - wk_b Y f ≤ 61) : ∀ (n : Nat) (u : Int), (u < 0 ∨ (u < wk_u Y ∧ wk_c Y u = f)) → pm_Kn Y (wk_it g n u) ∧ (u < 0 → pm_pot Y (wk_it g n u) = 0) ∧ (0 ≤ u → pm_pot Y (wk_it g n u) ≤ 5 * (wk_x Y f - u) - 2) := by
  intro n
  induction n with
  | zero =>
    intro u h
    refine ⟨trivial, fun _ => rfl, fun h0 => ?_⟩
    rcases h with h | ⟨h1, h2⟩
    · omega
    · have k := (hL.2.2.1 u h0 h1).1
      rw [h2] at k
      show (0 : Int) ≤ _
      omega
  | succ n ih =>
    intro u h
    unfold wk_it
    by_cases hu : u < 0
    · rw [if_pos hu]
      exact ⟨trivial, fun _ => rfl, fun h0 => by omega⟩
    · rw [if_neg hu]
      obtain ⟨h1, h2⟩ := h.resolve_left hu
      have hu : 0 ≤ u := by omega
      obtain ⟨⟨k1, k2, k3, k4, k5⟩, km, kn, -, -, -⟩ := hL.2.2.1 u hu h1
      rw [h2] at k2 k3 km kn
      have IH := ih (g 125 u.toNat) (by
        by_cases c : g 125 u.toNat < 0
        · exact Or.inl c
        · have := kn (by omega)
          exact Or.inr ⟨this.1, this.2.1⟩)
      obtain ⟨i1, i2, i3⟩ := IH
      by_cases cm : 0 ≤ g 124 u.toNat
      · rw [if_pos cm]
        obtain ⟨m1, m2, m3, m4⟩ := km cm
        obtain ⟨⟨l1, l2, l3, -⟩, -⟩ := hL.2.2.1 _ cm m1
        rw [m2] at l2 l3
        refine ⟨⟨pm_k_0 hu h1 (by omega), pm_k_o (by decide) (by decide) (by decide), pm_k_0 cm m1 (by omega), pm_k_o (by decide) (by decide) (by decide), i1⟩, fun q => by omega, fun _ => ?_⟩
        show pm_e2 Y (0, u, 1) + (pm_e2 Y (3, 0, 0) + (pm_e2 Y (0, g 124 u.toNat, 0) + (pm_e2 Y (4, 0, 0) + pm_pot Y (wk_it g n (g 125 u.toNat))))) ≤ _
        rw [pm_e_0, pm_e_0, pm_e_o (by decide) (by decide), pm_e_o (by decide) (by decide)]
        by_cases c : g 125 u.toNat < 0
        · have := i2 c
          omega
        · have := i3 (by omega)
          have := (kn (by omega)).2.2.2 cm
          omega
      · rw [if_neg cm]
        refine ⟨⟨pm_k_0 hu h1 (by omega), i1⟩, fun q => by omega, fun _ => ?_⟩
        show pm_e2 Y (0, u, 0) + pm_pot Y (wk_it g n (g 125 u.toNat)) ≤ _
        rw [pm_e_0]
        by_cases c : g 125 u.toNat < 0
        · have := i2 c
          omega
        · have := i3 (by omega)
          have := (kn (by omega)).2.2.1
          omega
/-- a part by itself -/
theorem pm_sg_pot (hL : wk_L g Y) {u : Int} (u0 : 0 ≤ u) (u1 : u < wk_u Y) (h60 : wk_e Y u - u ≤ 60) (h : pm_sg l g E u r s = some c) : ∃ A, c.1 = A ++ r ∧ pm_Kn Y A ∧ gm_len s ≤ gm_len c.2 ∧ (gm_F c.2 = gm_F s ∨ (gm_F c.2 = gm_F s + 1 ∧ A = [])) ∧ pm_pot Y A ≤ 5 * (wk_e Y u - u) - 5 + 302 * (gm_len c.2 - gm_len s) := by
  obtain ⟨⟨k1, -⟩, -, -, k9, k10, -⟩ := hL.2.2.1 u u0 u1
  unfold pm_sg at h
  by_cases c9 : g 119 u.toNat = 9
  · rw [if_pos c9] at h
    obtain ⟨-, -, -, -, r1, r2, r3⟩ := k9 c9
    unfold pm_en at h
    by_cases cu : 12 ≤ l + wk_ul r
    · rw [if_pos cu] at h
      cases h
    · rw [if_neg cu] at h
      obtain ⟨t, t1, t2⟩ := Option.map_eq_some_iff.mp h
      subst t2
      obtain ⟨-, a2, a3, -⟩ := gm_c_e t1
      obtain ⟨d1, d2, -⟩ := gm_d_e (t := t)
      refine ⟨[(1, wk_rf g u, 0), (2, 1, 0)], rfl, ⟨pm_k_1 r1 r2 r3, pm_k_o (by decide) (by decide) (by decide), trivial⟩, ?_, Or.inl ?_, ?_⟩
      · show gm_len s ≤ gm_len (gm_d t)
        omega
      · show gm_F (gm_d t) = gm_F s
        omega
      · show pm_e2 Y (1, wk_rf g u, 0) + (pm_e2 Y (2, 1, 0) + 0) ≤ _ + 302 * (gm_len (gm_d t) - gm_len s)
        rw [pm_e_1, pm_e_o (by decide) (by decide)]
        omega
  rw [if_neg c9] at h
  by_cases c10 : g 119 u.toNat = 10
  · rw [if_pos c10] at h
    injection h with h
    subst h
    obtain ⟨r1, r2, r3, -⟩ := k10 c10
    refine ⟨[(1, g 120 u.toNat, 0)], rfl, ⟨pm_k_1 r1 r2 (by omega), trivial⟩, Int.le_refl _, Or.inl rfl, ?_⟩
    show pm_e2 Y (1, g 120 u.toNat, 0) + 0 ≤ _ + 302 * (gm_len s - gm_len s)
    rw [pm_e_1]
    omega
  rw [if_neg c10] at h
  obtain ⟨t, t1, t2⟩ := Option.map_eq_some_iff.mp h
  subst t2
  obtain ⟨-, -, q3, q4⟩ := pm_lf_e t1
  refine ⟨[], rfl, trivial, q3, ?_, ?_⟩
  · show gm_F t = gm_F s ∨ _
    rcases q4 with ⟨q4, -⟩ | ⟨q4, -⟩
    · exact Or.inr ⟨q4, rfl⟩
    · rw [q4]
      exact Or.inl rfl
  · show (0 : Int) ≤ _ + 302 * (gm_len t - gm_len s)
    omega
theorem pm_op_len {o : Int} : gm_len (gm_op o s) = gm_len s := by
  unfold gm_len
  rw [(gm_op_T o s).2]
/-- a turn, of what is no many -/
theorem pm_st_pot (hL : wk_L g Y) (hx : pm_x Y) {e : wk_E} (hw : e.1 = 0 → g 122 e.2.1.toNat ≠ 1) (hK : pm_Kn Y (e :: r)) (h : pm_st g E l e r s = some c) : pm_Kn Y c.1 ∧ gm_len s ≤ gm_len c.2 ∧ gm_F s ≤ gm_F c.2 ∧ gm_F c.2 ≤ gm_F s + 1 ∧ pm_pot Y c.1 + 2 ≤ pm_pot Y (e :: r) + 302 * (gm_len c.2 - gm_len s) := by
  obtain ⟨a, b, z⟩ := e
  obtain ⟨⟨h0, h1, h5⟩, hr⟩ := hK
  dsimp only at h0 h1 h5 hw
  have hp : pm_pot Y ((a, b, z) :: r) = pm_e2 Y (a, b, z) + pm_pot Y r := rfl
  rw [hp]
  unfold pm_st at h
  dsimp only at h
  by_cases c0 : a = 0
  · subst c0
    obtain ⟨k1, k2, k60⟩ := h0 rfl
    rw [if_pos rfl] at h
    rw [pm_e_0]
    have T1 := pm_op_len (s := s) (o := z)
    have T2 := pm_F_op (s := s) (o := z)
    unfold pm_u at h
    rw [if_neg (hw rfl)] at h
    by_cases w2 : g 122 b.toNat = 2
    · rw [if_pos w2] at h
      obtain ⟨t, t1, t2⟩ := Option.bind_eq_some_iff.mp h
      obtain ⟨-, a2, a3, -⟩ := gm_c_e t1
      obtain ⟨d1, d2, -⟩ := gm_d_e (t := t)
      by_cases ch : pm_h E b (gm_op z s) = true
      · rw [if_pos ch] at t2
        obtain ⟨A, s1, s2, s3, s4, s5⟩ := pm_sg_pot hL k1 k2 k60 t2
        rw [s1, pm_pot_a]
        refine ⟨pm_Kn_a _ _ s2 ⟨pm_k_o (by decide) (by decide) (by decide), hr⟩, by omega, by omega, by omega, ?_⟩
        show pm_pot Y A + (pm_e2 Y (2, 0, 0) + pm_pot Y r) + 2 ≤ _
        rw [pm_e_o (by decide) (by decide)]
        omega
      · rw [if_neg ch] at t2
        injection t2 with t2
        subst t2
        have l1 := (hL.2.2.1 b k1 k2).1.1
        refine ⟨⟨pm_k_o (by decide) (by decide) (by decide), hr⟩, ?_, ?_, ?_, ?_⟩
        · show gm_len s ≤ gm_len (gm_d t)
          omega
        · show gm_F s ≤ gm_F (gm_d t)
          omega
        · show gm_F (gm_d t) ≤ gm_F s + 1
          omega
        · show pm_e2 Y (2, 0, 0) + pm_pot Y r + 2 ≤ _ + _ + 302 * (gm_len (gm_d t) - gm_len s)
          rw [pm_e_o (by decide) (by decide)]
          omega
    rw [if_neg w2] at h
    obtain ⟨A, s1, s2, s3, s4, s5⟩ := pm_sg_pot hL k1 k2 k60 h
    rw [s1, pm_pot_a]
    exact ⟨pm_Kn_a _ _ s2 hr, by omega, by omega, by omega, by omega⟩
  rw [if_neg c0] at h
  by_cases c1 : a = 1
  · subst c1
    obtain ⟨k1, k2, k61⟩ := h1 rfl
    rw [if_pos rfl] at h
    obtain ⟨-, -, f1, -, f3, f4⟩ := hL.2.2.2 b k1 k2
    have hxb := hx b k1 k2
    rw [pm_e_1]
    have it : ∀ j : Nat, (j : Int) < g 130 b.toNat → pm_Kn Y (wk_it g 61 (g 126 (wk_alt g j (g 129 b.toNat)).toNat)) ∧ pm_pot Y (wk_it g 61 (g 126 (wk_alt g j (g 129 b.toNat)).toNat)) ≤ 5 * (wk_x Y b - wk_b Y b) - 7 := by
      intro j hj
      obtain ⟨-, -, j3⟩ := f4 j hj
      obtain ⟨i1, i2, i3⟩ := pm_it hL k61 61 _ j3
      refine ⟨i1, ?_⟩
      rcases j3 with j3 | ⟨j3, j4⟩
      · have := i2 j3
        omega
      · by_cases c : g 126 (wk_alt g j (g 129 b.toNat)).toNat < 0
        · have := i2 c
          omega
        · have := i3 (by omega)
          have := (hL.2.2.1 _ (by omega) j3).1.2.2.1
          rw [j4] at this
          omega
    unfold pm_fo at h
    by_cases w1 : 1 < g 130 b.toNat
    · rw [if_pos w1] at h
      obtain ⟨n, n1, h⟩ := Option.bind_eq_some_iff.mp h
      obtain ⟨t, t1, t2⟩ := Option.map_eq_some_iff.mp h
      subst t2
      obtain ⟨-, a2, a3, -⟩ := gm_c_e t1
      obtain ⟨d1, d2, -⟩ := gm_d_e (t := t)
      obtain ⟨i, i1, i2, -⟩ := pm_dr_e _ _ _ _ n1
      have en : n.toNat = i := by omega
      rw [en]
      obtain ⟨x1, x2⟩ := it i (by omega)
      refine ⟨pm_Kn_a _ _ x1 ⟨pm_k_o (by decide) (by decide) (by decide), hr⟩, ?_, ?_, ?_, ?_⟩
      · show gm_len s ≤ gm_len (gm_d t)
        omega
      · show gm_F s ≤ gm_F (gm_d t)
        omega
      · show gm_F (gm_d t) ≤ gm_F s + 1
        omega
      · show pm_pot Y (_ ++ (2, 0, 0) :: r) + 2 ≤ _ + _ + 302 * (gm_len (gm_d t) - gm_len s)
        rw [pm_pot_a]
        show _ + (pm_e2 Y (2, 0, 0) + pm_pot Y r) + 2 ≤ _
        rw [pm_e_o (by decide) (by decide)]
        omega
    · rw [if_neg w1] at h
      injection h with h
      subst h
      obtain ⟨x1, x2⟩ := it 0 (by omega)
      refine ⟨pm_Kn_a _ _ x1 hr, Int.le_refl _, Int.le_refl _, by show gm_F s ≤ gm_F s + 1; omega, ?_⟩
      show pm_pot Y (_ ++ r) + 2 ≤ _ + _ + 302 * (gm_len s - gm_len s)
      rw [pm_pot_a]
      have x2 : pm_pot Y (wk_it g 61 (g 126 (g 129 b.toNat).toNat)) ≤ 5 * (wk_x Y b - wk_b Y b) - 7 := x2
      omega
  rw [if_neg c1, if_neg h5] at h
  rw [pm_e_o c0 c1]
  by_cases c2 : a = 2
  · rw [if_pos c2] at h
    injection h with h
    subst h
    refine ⟨hr, ?_, ?_, ?_, ?_⟩ <;> simp only [gm_len, gm_T_mk, gm_F_mk] <;> omega
  rw [if_neg c2] at h
  by_cases c3 : a = 3
  · rw [if_pos c3] at h
    injection h with h
    subst h
    have e1 : gm_len (gm_mid s) = gm_len s := by unfold gm_len gm_mid; rw [gm_T_mk]
    have e2 := pm_F_mid (s := s)
    refine ⟨hr, ?_, ?_, ?_, ?_⟩ <;> dsimp only <;> omega
  · rw [if_neg c3] at h
    injection h with h
    subst h
    have e1 := gm_tu_len s
    have e2 := pm_F_tu (s := s)
    refine ⟨hr, ?_, ?_, ?_, ?_⟩ <;> dsimp only <;> omega
end PM3
section PM4
variable {g : wk_g} {Y : wk_Y} {E : pm_E} {pf pa : Int → Int → Bool}
/-- a run of n turns from a stack without an AGAIN -/
def pm_b (g : wk_g) (Y : wk_Y) (E : pm_E) (n : Nat) : Prop := ∀ (l : Int) (A B : List wk_E) (s s' : gm_S), pm_Kn Y A → pw_to (pm_st g E l) n (A, s) (B, s') → 2 * (n : Int) + pm_pot Y B ≤ pm_pot Y A + 302 * (gm_len s' - gm_len s) + 298 * (gm_F s' - gm_F s) ∧ (B = [] → 1 ≤ gm_F s' - gm_F s → 2 * (n : Int) ≤ pm_pot Y A + 302 * (gm_len s' - gm_len s) + 298 * (gm_F s' - gm_F s - 1))
/-- .. from one with an AGAIN on the top -/
def pm_m (g : wk_g) (Y : wk_Y) (E : pm_E) (n : Nat) : Prop := ∀ (l u a : Int) (q B : List wk_E) (s s' : gm_S), 0 ≤ u → u < wk_u Y → wk_e Y u - u ≤ 60 → pm_Kn Y q → pw_to (pm_st g E l) n ((5, u, a) :: q, s) (B, s') → 2 * (n : Int) + pm_pot Y B ≤ 299 + pm_pot Y q + 302 * (gm_len s' - gm_len s) + 298 * (gm_F s' - gm_F s) ∧ (B = [] → 1 ≤ gm_F s' - gm_F s → 2 * (n : Int) ≤ 299 + pm_pot Y q + 302 * (gm_len s' - gm_len s) + 298 * (gm_F s' - gm_F s - 1)) ∧ (B = [] → gm_F s' = gm_F s → 2 * (n : Int) ≤ 2 + pm_pot Y q + 302 * (gm_len s' - gm_len s))
theorem pm_b_s (hL : wk_L g Y) (hx : pm_x Y) {n : Nat} (hb : pm_b g Y E n) (hm : pm_m g Y E n) : pm_b g Y E (n + 1) := by
  intro l A B s s' hK h
  cases A with
  | nil =>
    obtain ⟨h1, -⟩ := pw_end _ h
    omega
  | cons e r =>
    obtain ⟨c1, h3, h4⟩ := pw_cons h
    obtain ⟨A1, s1⟩ := c1
    have F0 := pm_to_F _ _ h4
    dsimp only at F0
    by_cases cw : e.1 = 0 ∧ g 122 e.2.1.toNat = 1
    · obtain ⟨a, b, z⟩ := e
      obtain ⟨cw, w1⟩ := cw
      dsimp only at cw w1
      subst cw
      obtain ⟨⟨h0, -, -⟩, hr⟩ := hK
      obtain ⟨k1, k2, k60⟩ := h0 rfl
      dsimp only at k1 k2 k60
      rw [pm_st_0] at h3
      unfold pm_u at h3
      rw [if_pos w1] at h3
      obtain ⟨t, t1, t2⟩ := Option.map_eq_some_iff.mp h3
      injection t2 with t2 t3
      subst t2
      subst t3
      obtain ⟨-, a2, a3, -⟩ := gm_c_e t1
      obtain ⟨d1, d2, -⟩ := gm_d_e (t := t)
      have T1 := pm_op_len (s := s) (o := z)
      have T2 := pm_F_op (s := s) (o := z)
      obtain ⟨m1, m2, -⟩ := hm _ _ _ _ _ _ _ k1 k2 k60 (show pm_Kn Y ((2, 0, 0) :: r) from ⟨pm_k_o (by decide) (by decide) (by decide), hr⟩) h4
      have p2 : pm_pot Y ((2, 0, 0) :: r) = 2 + pm_pot Y r := by
        show pm_e2 Y (2, 0, 0) + pm_pot Y r = _
        rw [pm_e_o (by decide) (by decide)]
      have p0 : pm_pot Y ((0, b, z) :: r) = 5 * (wk_e Y b - b) - 3 + pm_pot Y r := rfl
      have l1 := (hL.2.2.1 b k1 k2).1.1
      rw [p2] at m1 m2
      rw [p0]
      refine ⟨by omega, fun q1 q2 => ?_⟩
      have := m2 q1 (by omega)
      omega
    · obtain ⟨x1, x2, x3, x4, x5⟩ := pm_st_pot hL hx (fun q w => cw ⟨q, w⟩) hK h3
      dsimp only at x1 x2 x3 x4 x5
      obtain ⟨b1, b2⟩ := hb _ _ _ _ _ x1 h4
      refine ⟨by omega, fun q1 q2 => ?_⟩
      by_cases cf : 1 ≤ gm_F s' - gm_F s1
      · have := b2 q1 cf
        omega
      · rw [q1] at b1
        have : pm_pot Y [] = 0 := rfl
        omega
theorem pm_m_s (hL : wk_L g Y) (hH : pm_Hs g Y E pf pa) {n : Nat} (hb : ∀ m, m ≤ n → pm_b g Y E m) (hm : ∀ m, m ≤ n → pm_m g Y E m) : pm_m g Y E (n + 1) := by
  intro l u a q B s s' u0 u1 u60 hq h
  obtain ⟨c1, h3, h4⟩ := pw_cons h
  rw [pm_st_5] at h3
  unfold pm_ag at h3
  have e0 : pm_pot Y [] = 0 := rfl
  have l1 := (hL.2.2.1 u u0 u1).1.1
  by_cases ch : pm_h E u s = true
  · rw [if_pos ch] at h3
    have h3' := h3
    rw [show ((5, u, a) :: q : List wk_E) = [] ++ ((5, u, a) :: q) from rfl, pm_sg_loc] at h3'
    obtain ⟨c0, k1, k2⟩ := Option.map_eq_some_iff.mp h3'
    subst k2
    obtain ⟨A, s1, s2, s3, s4, s5⟩ := pm_sg_pot hL u0 u1 u60 k1
    rw [List.append_nil] at s1
    rw [pm_inc_len] at s3 s5
    rw [pm_inc_e.1] at s4
    obtain ⟨C, t⟩ := c0
    dsimp only at s1 s3 s4 s5 h4
    subst s1
    rcases pw_split pm_loc n (C, t) h4 with ⟨B0, t', i1, i2, i3⟩ | ⟨n1, t1, i1, i2, i3⟩
    · injection i1 with i4 i5
      subst i4
      subst i5
      have b1 := (hb n (Nat.le_refl _) _ _ _ _ _ s2 i3).1
      rw [pm_pot_a]
      have p5 : pm_pot Y ((5, u, a) :: q) = 2 + pm_pot Y q := by
        show pm_e2 Y (5, u, a) + pm_pot Y q = _
        rw [pm_e_o (by decide) (by decide)]
      rw [p5]
      refine ⟨by omega, fun q1 => absurd (List.append_eq_nil_iff.mp q1).1 i2, fun q1 => absurd (List.append_eq_nil_iff.mp q1).1 i2⟩
    · have F1 : gm_F s < gm_F t1 := by
        have x := pm_eat_sg hL hH (pm_eat hL hH n1) (Nat.le_refl _) u0 u1 (s := pm_inc a s) (by rw [pm_h_of pm_inc_e.1]; exact ch) k1 i2
        have x2 := (pm_inc_e (s := s) (a := a)).1
        omega
      have F2 := pm_to_F _ _ i3
      dsimp only at F2
      obtain ⟨b1, b2⟩ := hb n1 i1 _ _ _ _ _ s2 i2
      have b3 : 2 * (n1 : Int) ≤ pm_pot Y C + 302 * (gm_len t1 - gm_len t) + 298 * (gm_F t1 - gm_F s - 1) := by
        by_cases cf : 1 ≤ gm_F t1 - gm_F t
        · have := b2 rfl cf
          omega
        · rw [e0] at b1
          omega
      obtain ⟨m1, m2, m3⟩ := hm (n - n1) (by omega) _ _ _ _ _ _ _ u0 u1 u60 hq i3
      have en : ((n - n1 : Nat) : Int) = (n : Int) - n1 := by omega
      rw [en] at m1 m2 m3
      refine ⟨by omega, fun q1 q2 => ?_, fun q1 q2 => by omega⟩
      by_cases cf : 1 ≤ gm_F s' - gm_F t1
      · have := m2 q1 cf
        omega
      · have := m3 q1 (by omega)
        omega
  · rw [if_neg ch] at h3
    injection h3 with h3
    subst h3
    obtain ⟨b1, b2⟩ := hb n (Nat.le_refl _) _ _ _ _ _ hq h4
    refine ⟨by omega, fun q1 q2 => ?_, fun q1 q2 => ?_⟩
    · have := b2 q1 q2
      omega
    · rw [q1, e0] at b1
      omega
theorem pm_b_all (hL : wk_L g Y) (hx : pm_x Y) (hH : pm_Hs g Y E pf pa) : ∀ (N n : Nat), n ≤ N → pm_b g Y E n ∧ pm_m g Y E n := by
  intro N
  induction N with
  | zero =>
    intro n hn
    have : n = 0 := by omega
    subst this
    constructor
    · intro l A B s s' hK h
      have h : ((A, s) : gm_C) = (B, s') := h
      injection h with h1 h2
      subst h1
      subst h2
      exact ⟨by omega, fun _ _ => by omega⟩
    · intro l u a q B s s' u0 u1 u60 hq h
      have h : (((5, u, a) :: q, s) : gm_C) = (B, s') := h
      injection h with h1 h2
      subst h1
      subst h2
      have p5 : pm_pot Y ((5, u, a) :: q) = 2 + pm_pot Y q := by
        show pm_e2 Y (5, u, a) + pm_pot Y q = _
        rw [pm_e_o (by decide) (by decide)]
      rw [p5]
      exact ⟨by omega, fun q1 => absurd q1 (List.cons_ne_nil _ _), fun q1 => absurd q1 (List.cons_ne_nil _ _)⟩
  | succ N ih =>
    intro n hn
    by_cases c : n ≤ N
    · exact ih n c
    · have : n = N + 1 := by omega
      subst this
      exact ⟨pm_b_s hL hx (ih N (Nat.le_refl _)).1 (ih N (Nat.le_refl _)).2, pm_m_s hL hH (fun m h => (ih m h).1) (fun m h => (ih m h).2)⟩
/-- from the start: fewer than the turns that there are -/
theorem pm_turns (hL : wk_L g Y) (hx : pm_x Y) (hH : pm_Hs g Y E pf pa) {l f0 : Int} (hr : wk_Lrule Y f0) {n : Nat} {B : List wk_E} {s s' : gm_S} (hs : gm_len s = 1 ∧ gm_F s = 0) (h : pw_to (pm_st g E l) n ([(1, f0, 0), (2, 1, 0)], s) (B, s')) (hl : gm_len s' ≤ 100) (hF : gm_F s' ≤ 160) (hB : 0 ≤ pm_pot Y B) : n < 40000 := by
  obtain ⟨r1, r2, r3⟩ := hr
  have := ((pm_b_all hL hx hH n n (Nat.le_refl _)).1 l _ _ _ _ (show pm_Kn Y [(1, f0, 0), (2, 1, 0)] from ⟨pm_k_1 r1 r2 r3, pm_k_o (by decide) (by decide) (by decide), trivial⟩) h).1
  have p : pm_pot Y [(1, f0, 0), (2, 1, 0)] = 5 * (wk_x Y f0 - wk_b Y f0) - 5 + 2 := by
    show pm_e2 Y (1, f0, 0) + (pm_e2 Y (2, 1, 0) + 0) = _
    rw [pm_e_1, pm_e_o (by decide) (by decide)]
    omega
  omega
end PM4
