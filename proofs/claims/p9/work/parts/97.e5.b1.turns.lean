/-! how many turns a growing walk has: each one is paid by the entries, or by a node -/
def gm_e1 (Y : wk_Y) (e : wk_E) : Int :=
  if e.1 = 0 then 3 * (wk_e Y e.2.1 - e.2.1) - 1
  else if e.1 = 1 then 3 * (wk_x Y e.2.1 - wk_b Y e.2.1) - 2
  else if e.1 = 5 then (if e.2.2 ≤ 0 then 1 else if e.2.2 = 1 then 3 * (wk_e Y e.2.1 - e.2.1) else 6 * (wk_e Y e.2.1 - e.2.1) - 1)
  else 1
def gm_pot (Y : wk_Y) : List wk_E → Int
  | [] => 0
  | e :: r => gm_e1 Y e + gm_pot Y r
def gm_k (Y : wk_Y) (e : wk_E) : Prop := (e.1 = 0 → 0 ≤ e.2.1 ∧ e.2.1 < wk_u Y ∧ wk_e Y e.2.1 - e.2.1 ≤ 60) ∧ (e.1 = 1 → 0 ≤ e.2.1 ∧ e.2.1 < wk_f Y ∧ wk_x Y e.2.1 - wk_b Y e.2.1 ≤ 61) ∧ (e.1 = 5 → 0 ≤ e.2.1 ∧ e.2.1 < wk_u Y ∧ e.2.2 ≤ 2 ∧ wk_e Y e.2.1 - e.2.1 ≤ 60)
def gm_K (Y : wk_Y) : List wk_E → Prop
  | [] => True
  | e :: r => gm_k Y e ∧ gm_K Y r
def gm_vb : Prop := ∀ (x : Int64) (n : Int), 0 < n → n ≤ 10000 → 0 ≤ gm_v x n ∧ gm_v x n < n
section GM2
variable {g : wk_g} {Y : wk_Y} {kw : Int → Bool}
theorem gm_pot_a : ∀ (r q : List wk_E), gm_pot Y (r ++ q) = gm_pot Y r + gm_pot Y q := by
  intro r q
  induction r with
  | nil => show gm_pot Y q = 0 + _; omega
  | cons e r ih => show gm_e1 Y e + gm_pot Y (r ++ q) = gm_e1 Y e + gm_pot Y r + gm_pot Y q; omega
theorem gm_K_a : ∀ (r q : List wk_E), gm_K Y r → gm_K Y q → gm_K Y (r ++ q) := by
  intro r q
  induction r with
  | nil => intro _ h; exact h
  | cons e r ih => intro h1 h2; exact ⟨h1.1, ih h1.2 h2⟩
theorem gm_k_o {a b c : Int} (h0 : a ≠ 0) (h1 : a ≠ 1) (h5 : a ≠ 5) : gm_k Y (a, b, c) := ⟨fun e => absurd e h0, fun e => absurd e h1, fun e => absurd e h5⟩
theorem gm_k_0 {b c : Int} (h0 : 0 ≤ b) (h1 : b < wk_u Y) (h2 : wk_e Y b - b ≤ 60) : gm_k Y (0, b, c) := ⟨fun _ => ⟨h0, h1, h2⟩, fun e => absurd (show (0 : Int) = 1 from e) (by decide), fun e => absurd (show (0 : Int) = 5 from e) (by decide)⟩
theorem gm_k_1 {b c : Int} (h0 : 0 ≤ b) (h1 : b < wk_f Y) (h2 : wk_x Y b - wk_b Y b ≤ 61) : gm_k Y (1, b, c) := ⟨fun e => absurd (show (1 : Int) = 0 from e) (by decide), fun _ => ⟨h0, h1, h2⟩, fun e => absurd (show (1 : Int) = 5 from e) (by decide)⟩
theorem gm_k_5 {b c : Int} (h0 : 0 ≤ b) (h1 : b < wk_u Y) (h2 : c ≤ 2) (h3 : wk_e Y b - b ≤ 60) : gm_k Y (5, b, c) := ⟨fun e => absurd (show (5 : Int) = 0 from e) (by decide), fun e => absurd (show (5 : Int) = 1 from e) (by decide), fun _ => ⟨h0, h1, h2, h3⟩⟩
theorem gm_e_o {a b c : Int} (h0 : a ≠ 0) (h1 : a ≠ 1) (h5 : a ≠ 5) : gm_e1 Y (a, b, c) = 1 := by
  unfold gm_e1
  rw [if_neg h0, if_neg h1, if_neg h5]
theorem gm_e_0 {b c : Int} : gm_e1 Y (0, b, c) = 3 * (wk_e Y b - b) - 1 := rfl
theorem gm_e_1 {b c : Int} : gm_e1 Y (1, b, c) = 3 * (wk_x Y b - wk_b Y b) - 2 := rfl
theorem gm_e_5 {b c : Int} : gm_e1 Y (5, b, c) = if c ≤ 0 then 1 else if c = 1 then 3 * (wk_e Y b - b) else 6 * (wk_e Y b - b) - 1 := rfl
theorem gm_e_pos (hL : wk_L g Y) {e : wk_E} (h : gm_k Y e) : 1 ≤ gm_e1 Y e := by
  obtain ⟨a, b, c⟩ := e
  obtain ⟨h0, h1, h5⟩ := h
  dsimp only at h0 h1 h5
  by_cases c0 : a = 0
  · subst c0
    obtain ⟨k1, k2, -⟩ := h0 rfl
    have := (hL.2.2.1 b k1 k2).1.1
    rw [gm_e_0]
    omega
  by_cases c1 : a = 1
  · subst c1
    obtain ⟨k1, k2, -⟩ := h1 rfl
    have := (hL.2.2.2 b k1 k2).2.2.2.2.1
    rw [gm_e_1]
    omega
  by_cases c5 : a = 5
  · subst c5
    obtain ⟨k1, k2, k3, -⟩ := h5 rfl
    have := (hL.2.2.1 b k1 k2).1.1
    rw [gm_e_5]
    split
    · omega
    · split <;> omega
  · rw [gm_e_o c0 c1 c5]
    omega
theorem gm_pot_nn (hL : wk_L g Y) : ∀ r : List wk_E, gm_K Y r → 0 ≤ gm_pot Y r := by
  intro r
  induction r with
  | nil => intro _; exact Int.le_refl _
  | cons e r ih =>
    intro h
    have := gm_e_pos hL h.1
    have := ih h.2
    show 0 ≤ gm_e1 Y e + gm_pot Y r
    omega
theorem gm_it (hL : wk_L g Y) {f : Int} (h61 : wk_x Y f - wk_b Y f ≤ 61) : ∀ (n : Nat) (u : Int), (u < 0 ∨ (u < wk_u Y ∧ wk_c Y u = f)) → gm_K Y (wk_it g n u) ∧ (u < 0 → gm_pot Y (wk_it g n u) = 0) ∧ (0 ≤ u → gm_pot Y (wk_it g n u) ≤ 3 * (wk_x Y f - u)) := by
  intro n
  induction n with
  | zero =>
    intro u h
    refine ⟨trivial, fun _ => rfl, fun h0 => ?_⟩
    rcases h with h | ⟨h1, h2⟩
    · omega
    · have k := (hL.2.2.1 u h0 h1).1
      rw [h2] at k
      show (0 : Int) ≤ _
      omega
  | succ n ih =>
    intro u h
    unfold wk_it
    by_cases hu : u < 0
    · rw [if_pos hu]
      exact ⟨trivial, fun _ => rfl, fun h0 => by omega⟩
    · rw [if_neg hu]
      obtain ⟨h1, h2⟩ := h.resolve_left hu
      have hu : 0 ≤ u := by omega
      obtain ⟨⟨k1, k2, k3, k4, k5⟩, km, kn, -, -, -⟩ := hL.2.2.1 u hu h1
      rw [h2] at k2 k3 km kn
      have IH := ih (g 125 u.toNat) (by
        by_cases c : g 125 u.toNat < 0
        · exact Or.inl c
        · have := kn (by omega)
          exact Or.inr ⟨this.1, this.2.1⟩)
      obtain ⟨i1, i2, i3⟩ := IH
      by_cases cm : 0 ≤ g 124 u.toNat
      · rw [if_pos cm]
        obtain ⟨m1, m2, m3, m4⟩ := km cm
        obtain ⟨⟨l1, l2, l3, -⟩, -⟩ := hL.2.2.1 _ cm m1
        rw [m2] at l2 l3
        refine ⟨⟨gm_k_0 hu h1 (by omega), gm_k_o (by decide) (by decide) (by decide), gm_k_0 cm m1 (by omega), gm_k_o (by decide) (by decide) (by decide), i1⟩, fun q => by omega, fun _ => ?_⟩
        show gm_e1 Y (0, u, 1) + (gm_e1 Y (3, 0, 0) + (gm_e1 Y (0, g 124 u.toNat, 0) + (gm_e1 Y (4, 0, 0) + gm_pot Y (wk_it g n (g 125 u.toNat))))) ≤ _
        rw [gm_e_0, gm_e_0, gm_e_o (by decide) (by decide) (by decide), gm_e_o (by decide) (by decide) (by decide)]
        by_cases c : g 125 u.toNat < 0
        · have := i2 c
          omega
        · have := i3 (by omega)
          have := (kn (by omega)).2.2.2 cm
          omega
      · rw [if_neg cm]
        refine ⟨⟨gm_k_0 hu h1 (by omega), i1⟩, fun q => by omega, fun _ => ?_⟩
        show gm_e1 Y (0, u, 0) + gm_pot Y (wk_it g n (g 125 u.toNat)) ≤ _
        rw [gm_e_0]
        by_cases c : g 125 u.toNat < 0
        · have := i2 c
          omega
        · have := i3 (by omega)
          have := (kn (by omega)).2.2.1
          omega
theorem gm_c_len {k v : Int} {s t : gm_S} (h : gm_c k v s = some t) : (gm_T s).length < 100 ∧ (gm_T t).length = (gm_T s).length + 1 := by
  unfold gm_c at h
  by_cases c : 100 ≤ (gm_T s).length
  · rw [if_pos c] at h
    cases h
  · rw [if_neg c] at h
    injection h with h
    subst h
    refine ⟨by omega, ?_⟩
    show (gm_T s ++ [_]).length = _
    rw [List.length_append]
    rfl
def gm_len (s : gm_S) : Int := ((gm_T s).length : Int)
theorem gm_sg_pot (hL : wk_L g Y) {u : Int} (h0 : 0 ≤ u) (h1 : u < wk_u Y) (h60 : wk_e Y u - u ≤ 60) {r : List wk_E} {s : gm_S} {c : gm_C} (hK : gm_K Y r) (h : gm_sg g kw u r s = some c) : gm_K Y c.1 ∧ gm_len s ≤ gm_len c.2 ∧ gm_pot Y c.1 ≤ gm_pot Y r + (3 * (wk_e Y u - u) - 2) + 360 * (gm_len c.2 - gm_len s) := by
  obtain ⟨⟨k1, -⟩, -, -, k9, k10, -⟩ := hL.2.2.1 u h0 h1
  unfold gm_sg at h
  by_cases c9 : g 119 u.toNat = 9
  · rw [if_pos c9] at h
    obtain ⟨-, -, -, -, r1, r2, r3⟩ := k9 c9
    unfold gm_en at h
    by_cases cu : 12 ≤ wk_ul r
    · rw [if_pos cu] at h
      cases h
    · rw [if_neg cu] at h
      obtain ⟨t, t1, t2⟩ := Option.map_eq_some_iff.mp h
      obtain ⟨l1, l2⟩ := gm_c_len t1
      subst t2
      have e1 : gm_len (gm_d t) = gm_len s + 1 := by
        show ((gm_T t).length : Int) = ((gm_T s).length : Int) + 1
        have l2 : (gm_T t).length = (gm_T s).length + 1 := l2
        omega
      refine ⟨⟨gm_k_1 r1 r2 (by first | exact r3 | omega), gm_k_o (by decide) (by decide) (by decide), hK⟩, by show gm_len s ≤ gm_len (gm_d t); omega, ?_⟩
      show gm_e1 Y (1, wk_rf g u, 0) + (gm_e1 Y (2, 1, 0) + gm_pot Y r) ≤ _
      rw [gm_e_1, gm_e_o (by decide) (by decide) (by decide)]
      have e2 : gm_len (((1, g 114 (g 115 (g 120 u.toNat).toNat).toNat, 0) :: (2, 1, 0) :: r, gm_d t) : gm_C).2 = gm_len (gm_d t) := rfl
      rw [e2]
      omega
  rw [if_neg c9] at h
  by_cases c10 : g 119 u.toNat = 10
  · rw [if_pos c10] at h
    injection h with h
    subst h
    obtain ⟨r1, r2, r3, -⟩ := k10 c10
    refine ⟨⟨gm_k_1 r1 r2 (by first | exact r3 | omega), hK⟩, Int.le_refl _, ?_⟩
    show gm_e1 Y (1, g 120 u.toNat, 0) + gm_pot Y r ≤ gm_pot Y r + _ + 360 * (gm_len s - gm_len s)
    rw [gm_e_1]
    omega
  rw [if_neg c10] at h
  have leaf : ∀ (k v : Int) (s1 : gm_S), gm_T s1 = gm_T s → (gm_c k v s1).map (fun t => (r, t)) = some c → gm_K Y c.1 ∧ gm_len s ≤ gm_len c.2 ∧ gm_pot Y c.1 ≤ gm_pot Y r + (3 * (wk_e Y u - u) - 2) + 360 * (gm_len c.2 - gm_len s) := by
    intro k v s1 es h
    obtain ⟨t, t1, t2⟩ := Option.map_eq_some_iff.mp h
    obtain ⟨l1, l2⟩ := gm_c_len t1
    rw [es] at l2
    subst t2
    have e1 : gm_len t = gm_len s + 1 := by
      show ((gm_T t).length : Int) = ((gm_T s).length : Int) + 1
      omega
    refine ⟨hK, by show gm_len s ≤ gm_len t; omega, ?_⟩
    show gm_pot Y r ≤ gm_pot Y r + _ + 360 * (gm_len t - gm_len s)
    omega
  by_cases c1 : g 119 u.toNat = 1
  · rw [if_pos c1] at h
    exact leaf 2 _ (gm_x (gm_X s), gm_F s, gm_T s, gm_D s, gm_P s) (gm_T_mk _ _ _ _ _) h
  rw [if_neg c1] at h
  by_cases c2 : g 119 u.toNat = 2
  · rw [if_pos c2] at h
    exact leaf 3 _ ((gm_nm kw (gm_X s)).2, gm_F s, gm_T s, gm_D s, gm_P s) (gm_T_mk _ _ _ _ _) h
  rw [if_neg c2] at h
  injection h with h
  subst h
  refine ⟨hK, Int.le_refl _, ?_⟩
  show gm_pot Y r ≤ gm_pot Y r + _ + 360 * (gm_len s - gm_len s)
  omega
theorem gm_lo_b : ∀ (m : Nat) (a n b hi : Int), 0 ≤ b → 0 ≤ n → (m = 0 → b < n) → (b < n ∨ b = 0) → 0 ≤ gm_lo g m a n b hi ∧ gm_lo g m a n b hi < n + m := by
  intro m
  induction m with
  | zero => intro a n b hi h1 h2 h3 h4; have := h3 rfl; exact ⟨h1, by show b < n + 0; omega⟩
  | succ m ih =>
    intro a n b hi h1 h2 h3 h4
    have := ih (g 128 a.toNat) (n + 1) (if g 143 a.toNat < hi then n else b) (if g 143 a.toNat < hi then g 143 a.toNat else hi) (by split <;> omega) (by omega) (fun _ => by split <;> omega) (Or.inl (by split <;> omega))
    refine ⟨this.1, ?_⟩
    have t := this.2
    show gm_lo g m _ _ _ _ < _
    omega
theorem gm_w_b (hv : gm_vb) {f : Int} (hf : 1 ≤ g 130 f.toNat) (hf2 : g 130 f.toNat ≤ 10000) (s : gm_S) : 0 ≤ gm_w g f s ∧ gm_w g f s < g 130 f.toNat := by
  unfold gm_w
  split
  · have := gm_lo_b (g := g) (g 130 f.toNat).toNat (g 129 f.toNat) 0 0 1001 (by decide) (by decide) (fun q => by omega) (Or.inr rfl)
    omega
  · exact hv _ _ (by omega) hf2
theorem gm_n_b (hv : gm_vb) (n : Int) (h1 : 0 < n) (h2 : n ≤ 10000) (s : gm_S) : 0 ≤ gm_n n s ∧ gm_n n s < n := by
  unfold gm_n
  split
  · omega
  · exact hv _ _ h1 h2
theorem gm_rot_len (a b : Nat) (T : List (Int × Int × Int)) : (gm_rot a b T).length = T.length := by
  unfold gm_rot
  by_cases c : a ≤ b ∧ b ≤ T.length
  · rw [if_pos c]
    simp only [List.length_append, List.length_take, List.length_drop]
    omega
  · rw [if_neg c]
theorem gm_tu_len (s : gm_S) : gm_len (gm_tu s) = gm_len s := by
  unfold gm_tu gm_len
  split
  · rfl
  · show ((gm_rot _ _ (gm_T s)).length : Int) = _
    rw [gm_rot_len]
theorem gm_op_T (o : Int) (s : gm_S) : gm_T (gm_y (gm_op o s)) = gm_T s ∧ gm_T (gm_op o s) = gm_T s := by
  unfold gm_y gm_op
  split
  · exact ⟨gm_T_mk _ _ _ _ _, gm_T_mk _ _ _ _ _⟩
  · exact ⟨gm_T_mk _ _ _ _ _, rfl⟩
/-- a turn -/
theorem gm_st_pot (hL : wk_L g Y) (hv : gm_vb) (hm : ∀ f, 0 ≤ f → f < wk_f Y → g 130 f.toNat ≤ 10000) {e : wk_E} {r : List wk_E} {s : gm_S} {c : gm_C} (hK : gm_K Y (e :: r)) (h : gm_st g kw e r s = some c) : gm_K Y c.1 ∧ gm_len s ≤ gm_len c.2 ∧ gm_pot Y c.1 + 1 ≤ gm_pot Y (e :: r) + 360 * (gm_len c.2 - gm_len s) := by
  obtain ⟨a, b, z⟩ := e
  obtain ⟨⟨h0, h1, h5⟩, hr⟩ := hK
  dsimp only at h0 h1 h5
  have hp : gm_pot Y ((a, b, z) :: r) = gm_e1 Y (a, b, z) + gm_pot Y r := rfl
  rw [hp]
  unfold gm_st at h
  dsimp only at h
  by_cases c0 : a = 0
  · subst c0
    obtain ⟨k1, k2, k60⟩ := h0 rfl
    rw [if_pos rfl] at h
    obtain ⟨⟨l1, l2, l3, l4, l5⟩, -⟩ := hL.2.2.1 b k1 k2
    have l60 := hL.1
    rw [gm_e_0]
    obtain ⟨T1, T2⟩ := gm_op_T z s
    by_cases w1 : g 122 b.toNat = 1
    · rw [if_pos w1] at h
      obtain ⟨t, t1, t2⟩ := Option.map_eq_some_iff.mp h
      obtain ⟨-, q2⟩ := gm_c_len t1
      rw [T1] at q2
      subst t2
      have nb := gm_n_b hv 3 (by decide) (by decide) s
      have e1 : gm_len (gm_d t) = gm_len s + 1 := by
        show ((gm_T t).length : Int) = ((gm_T s).length : Int) + 1
        omega
      refine ⟨⟨gm_k_5 k1 k2 (by omega) k60, gm_k_o (by decide) (by decide) (by decide), hr⟩, by show gm_len s ≤ gm_len (gm_d t); omega, ?_⟩
      show gm_e1 Y (5, b, gm_n 3 s) + (gm_e1 Y (2, 0, 0) + gm_pot Y r) + 1 ≤ 3 * (wk_e Y b - b) - 1 + gm_pot Y r + 360 * (gm_len (gm_d t) - gm_len s)
      rw [gm_e_o (a := 2) (by decide) (by decide) (by decide), gm_e_5, e1]
      split
      · omega
      · split <;> omega
    rw [if_neg w1] at h
    by_cases w2 : g 122 b.toNat = 2
    · rw [if_pos w2] at h
      obtain ⟨t, t1, t2⟩ := Option.bind_eq_some_iff.mp h
      obtain ⟨-, q2⟩ := gm_c_len t1
      rw [T1] at q2
      have e1 : gm_len (gm_d t) = gm_len s + 1 := by
        show ((gm_T t).length : Int) = ((gm_T s).length : Int) + 1
        omega
      have hr2 : gm_K Y ((2, 0, 0) :: r) := ⟨gm_k_o (by decide) (by decide) (by decide), hr⟩
      have p2 : gm_pot Y ((2, 0, 0) :: r) = 1 + gm_pot Y r := by
        show gm_e1 Y (2, 0, 0) + gm_pot Y r = _
        rw [gm_e_o (by decide) (by decide) (by decide)]
      by_cases w3 : 0 < gm_n 2 s
      · rw [if_pos w3] at t2
        obtain ⟨s1, s2, s3⟩ := gm_sg_pot hL k1 k2 k60 hr2 t2
        rw [p2] at s3
        exact ⟨s1, by omega, by omega⟩
      · rw [if_neg w3] at t2
        injection t2 with t2
        subst t2
        refine ⟨hr2, by show gm_len s ≤ gm_len (gm_d t); omega, ?_⟩
        show gm_pot Y ((2, 0, 0) :: r) + 1 ≤ 3 * (wk_e Y b - b) - 1 + gm_pot Y r + 360 * (gm_len (gm_d t) - gm_len s)
        rw [p2]
        omega
    rw [if_neg w2] at h
    obtain ⟨s1, s2, s3⟩ := gm_sg_pot hL k1 k2 k60 hr h
    have e2 : gm_len (gm_op z s) = gm_len s := by unfold gm_len; rw [T2]
    rw [e2] at s2 s3
    exact ⟨s1, s2, by omega⟩
  rw [if_neg c0] at h
  by_cases c1 : a = 1
  · subst c1
    obtain ⟨k1, k2, k61⟩ := h1 rfl
    rw [if_pos rfl] at h
    obtain ⟨-, -, f1, -, f3, f4⟩ := hL.2.2.2 b k1 k2
    rw [gm_e_1]
    have it : ∀ j : Nat, (j : Int) < g 130 b.toNat → gm_K Y (wk_it g 61 (g 126 (wk_alt g j (g 129 b.toNat)).toNat)) ∧ gm_pot Y (wk_it g 61 (g 126 (wk_alt g j (g 129 b.toNat)).toNat)) ≤ 3 * (wk_x Y b - wk_b Y b) - 3 := by
      intro j hj
      obtain ⟨-, -, j3⟩ := f4 j hj
      obtain ⟨i1, i2, i3⟩ := gm_it hL k61 61 _ j3
      refine ⟨i1, ?_⟩
      rcases j3 with j3 | ⟨j3, j4⟩
      · have := i2 j3
        omega
      · by_cases c : g 126 (wk_alt g j (g 129 b.toNat)).toNat < 0
        · have := i2 c
          omega
        · have := i3 (by omega)
          have := (hL.2.2.1 _ (by omega) j3).1.2.2.1
          rw [j4] at this
          omega
    by_cases w1 : 1 < g 130 b.toNat
    · rw [if_pos w1] at h
      obtain ⟨t, t1, t2⟩ := Option.map_eq_some_iff.mp h
      obtain ⟨-, q2⟩ := gm_c_len t1
      have q2 : (gm_T t).length = (gm_T s).length + 1 := q2
      subst t2
      have e1 : gm_len (gm_d t) = gm_len s + 1 := by
        show ((gm_T t).length : Int) = ((gm_T s).length : Int) + 1
        omega
      obtain ⟨b1, b2⟩ := gm_w_b hv f1 (hm b k1 k2) s
      obtain ⟨i1, i2⟩ := it (gm_w g b s).toNat (by omega)
      refine ⟨gm_K_a _ _ i1 ⟨gm_k_o (by decide) (by decide) (by decide), hr⟩, by show gm_len s ≤ gm_len (gm_d t); omega, ?_⟩
      show gm_pot Y (_ ++ _) + 1 ≤ _ + 360 * (gm_len (gm_d t) - gm_len s)
      rw [gm_pot_a, e1]
      show _ + (gm_e1 Y (2, 0, 0) + gm_pot Y r) + 1 ≤ _
      rw [gm_e_o (by decide) (by decide) (by decide)]
      omega
    · rw [if_neg w1] at h
      injection h with h
      subst h
      obtain ⟨i1, i2⟩ := it 0 (by omega)
      refine ⟨gm_K_a _ _ i1 hr, Int.le_refl _, ?_⟩
      show gm_pot Y (_ ++ _) + 1 ≤ _ + 360 * (gm_len s - gm_len s)
      rw [gm_pot_a]
      have i2 : gm_pot Y (wk_it g 61 (g 126 (g 129 b.toNat).toNat)) ≤ 3 * (wk_x Y b - wk_b Y b) - 3 := i2
      omega
  rw [if_neg c1] at h
  by_cases c5 : a = 5
  · subst c5
    obtain ⟨k1, k2, k3, k60⟩ := h5 rfl
    rw [if_pos rfl] at h
    have l1 := (hL.2.2.1 b k1 k2).1.1
    by_cases w1 : 0 < z
    · rw [if_pos w1] at h
      have hr2 : gm_K Y ((5, b, z - 1) :: r) := ⟨gm_k_5 k1 k2 (by omega) k60, hr⟩
      have p2 : gm_pot Y ((5, b, z - 1) :: r) = gm_e1 Y (5, b, z - 1) + gm_pot Y r := rfl
      obtain ⟨s1, s2, s3⟩ := gm_sg_pot hL k1 k2 k60 hr2 h
      rw [p2, gm_e_5] at s3
      refine ⟨s1, s2, ?_⟩
      rw [gm_e_5, if_neg (by omega)]
      by_cases z1 : z = 1
      · rw [if_pos (by omega)] at s3
        rw [if_pos z1]
        omega
      · rw [if_neg (by omega), if_pos (by omega)] at s3
        rw [if_neg z1]
        omega
    · rw [if_neg w1] at h
      injection h with h
      subst h
      refine ⟨hr, Int.le_refl _, ?_⟩
      show gm_pot Y r + 1 ≤ gm_e1 Y (5, b, z) + gm_pot Y r + 360 * (gm_len s - gm_len s)
      rw [gm_e_5, if_pos (by omega)]
      omega
  rw [if_neg c5] at h
  rw [gm_e_o c0 c1 c5]
  have fin : ∀ s' : gm_S, gm_len s' = gm_len s → some (r, s') = some c → gm_K Y c.1 ∧ gm_len s ≤ gm_len c.2 ∧ gm_pot Y c.1 + 1 ≤ 1 + gm_pot Y r + 360 * (gm_len c.2 - gm_len s) := by
    intro s' e h
    injection h with h
    subst h
    refine ⟨hr, by show gm_len s ≤ gm_len s'; omega, ?_⟩
    show gm_pot Y r + 1 ≤ 1 + gm_pot Y r + 360 * (gm_len s' - gm_len s)
    omega
  by_cases c2 : a = 2
  · rw [if_pos c2] at h
    exact fin (gm_X s, gm_F s, gm_T s, gm_D s - 1, gm_P s) rfl h
  rw [if_neg c2] at h
  by_cases c3 : a = 3
  · rw [if_pos c3] at h
    exact fin (gm_mid s) rfl h
  rw [if_neg c3] at h
  exact fin (gm_tu s) (gm_tu_len s) h
/-- all turns -/
theorem gm_to_pot (hL : wk_L g Y) (hv : gm_vb) (hm : ∀ f, 0 ≤ f → f < wk_f Y → g 130 f.toNat ≤ 10000) {d : gm_C} : ∀ (n : Nat) (c : gm_C), gm_K Y c.1 → gm_to g kw n c d → gm_K Y d.1 ∧ gm_len c.2 ≤ gm_len d.2 ∧ (n : Int) + gm_pot Y d.1 ≤ gm_pot Y c.1 + 360 * (gm_len d.2 - gm_len c.2) := by
  intro n
  induction n with
  | zero =>
    intro c hK h
    have h : c = d := h
    subst h
    exact ⟨hK, Int.le_refl _, by omega⟩
  | succ n ih =>
    intro c hK h
    obtain ⟨e, r, c1, k1, k2, k3⟩ := h
    rw [k1] at hK ⊢
    obtain ⟨a1, a2, a3⟩ := gm_st_pot hL hv hm hK k2
    obtain ⟨b1, b2, b3⟩ := ih c1 a1 k3
    exact ⟨b1, by omega, by omega⟩
end GM2
