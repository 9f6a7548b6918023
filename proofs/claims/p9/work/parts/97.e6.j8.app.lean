/-! runs of the replay, taken apart; what they append; how many of it stand on top -/
def rn (g : wk_g) (V : Int → Int) (n : Nat) (u : Int) (E : List wk_E) (s s' : gm_S) (L : List (Int × Int)) : Prop := pe_to (dm_st g V u) (dv g V) n (E, s) ([], s') L
/-- a node is left -/
def gm_cl (s : gm_S) : gm_S := (gm_X s, gm_F s, gm_T s, gm_D s - 1, gm_P s)
/-- what a part once does -/
def sgr (g : wk_g) (V : Int → Int) (n : Nat) (u p : Int) (s s' : gm_S) (L : List (Int × Int)) : Prop := ∃ B s1 L1, dm_sg u g V p [] s = some (B, s1) ∧ rn g V n u B s1 s' L1 ∧ L = dv_lf g V p (gm_len s) ++ L1
section RN0
variable {g : wk_g} {V : Int → Int} {n : Nat} {u : Int} {s s' : gm_S} {L : List (Int × Int)}
theorem rn_nil (h : rn g V n u [] s s' L) : s' = s ∧ L = [] := by
  cases n with
  | zero =>
    obtain ⟨h1, h2⟩ := h
    exact ⟨(Prod.mk.inj h1).2.symm, h2⟩
  | succ n =>
    obtain ⟨e, r, c1, L1, h1, -⟩ := h
    cases h1
theorem rn_split {A q : List wk_E} (h : rn g V n u (A ++ q) s s' L) : ∃ n1 n2 s1 L1 L2, n1 ≤ n ∧ n2 ≤ n ∧ rn g V n1 (u + wk_ul q) A s s1 L1 ∧ rn g V n2 u q s1 s' L2 ∧ L = L1 ++ L2 := by
  obtain ⟨n1, s1, L1, L2, h1, h2, h3, h4⟩ := pe_split0 dm_loc n A s L h
  exact ⟨n1, n - n1, s1, L1, L2, h1, Nat.sub_le _ _, h2, h3, h4⟩
theorem rn_cons {e : wk_E} {E : List wk_E} (h : rn g V n u (e :: E) s s' L) : ∃ m B s1 L1, m + 1 = n ∧ dm_st g V (u + wk_ul E) e [] s = some (B, s1) ∧ rn g V m u (B ++ E) s1 s' L1 ∧ L = dv g V e s ++ L1 := by
  cases n with
  | zero =>
    obtain ⟨h1, -⟩ := h
    cases (Prod.mk.inj h1).1
  | succ n =>
    obtain ⟨c1, L1, h2, h3, h4⟩ := pe_cons h
    have hl := dm_loc (g := g) (V := V) u e [] E s
    rw [List.nil_append] at hl
    rw [hl] at h2
    obtain ⟨c0, k1, k2⟩ := Option.map_eq_some_iff.mp h2
    subst k2
    exact ⟨n, c0.1, c0.2, L1, rfl, k1, h3, h4⟩
theorem ul_nil : wk_ul [] = 0 := rfl
/-- one entry is left: a node ends -/
theorem rn_2 {a : Int} (h : rn g V n u [(2, a, 0)] s s' L) : s' = gm_cl s ∧ L = [] := by
  obtain ⟨m, B, s1, L1, h1, h2, h3, h4⟩ := rn_cons h
  rw [dm_st_2] at h2
  injection h2 with h2
  injection h2 with h5 h6
  subst h5
  subst h6
  obtain ⟨h7, h8⟩ := rn_nil h3
  subst h7
  subst h8
  refine ⟨rfl, ?_⟩
  rw [h4]
  unfold dv
  rw [if_neg (show ¬ (2 : Int) = 0 by decide), if_neg (show ¬ (2 : Int) = 5 by decide)]
  rfl
theorem rn_in {a : Int} {E : List wk_E} (h : rn g V n u (E ++ [(2, a, 0)]) s s' L) : ∃ m s2, m ≤ n ∧ rn g V m (u + a) E s s2 L ∧ s' = gm_cl s2 := by
  obtain ⟨n1, n2, s1, L1, L2, h1, h2, h3, h4, h5⟩ := rn_split h
  obtain ⟨h6, h7⟩ := rn_2 h4
  subst h7
  rw [List.append_nil] at h5
  subst h5
  have e : wk_ul [(2, a, 0)] = a := by rw [wk_ul_o, ul_nil, Int.add_zero]
  rw [e] at h3
  exact ⟨n1, s1, h1, h3, h6⟩
theorem dv_lf_n {p c : Int} (h : g 119 p.toNat = 9 ∨ g 119 p.toNat = 10) : dv_lf g V p c = [] := by
  unfold dv_lf
  rw [if_pos h]
theorem dv_lf_y {p c : Int} (h9 : g 119 p.toNat ≠ 9) (h10 : g 119 p.toNat ≠ 10) : dv_lf g V p c = [(p, V c)] := by
  unfold dv_lf
  rw [if_neg (fun q => by rcases q with q | q; exact h9 q; exact h10 q)]
/-- a use -/
theorem sgr_9 {p : Int} (h9 : g 119 p.toNat = 9) (h : sgr g V n u p s s' L) : u < 12 ∧ ∃ t m s2, gm_c 1 (g 115 (g 120 p.toNat).toNat) s = some t ∧ m ≤ n ∧ rn g V m (u + 1) [(1, wk_rf g p, 0)] (gm_d t) s2 L ∧ s' = gm_cl s2 := by
  obtain ⟨B, s1, L1, h1, h2, h3⟩ := h
  rw [dv_lf_n (Or.inl h9), List.nil_append] at h3
  subst h3
  unfold dm_sg at h1
  rw [if_pos h9] at h1
  unfold pm_en at h1
  rw [ul_nil] at h1
  by_cases c : 12 ≤ u + 0
  · rw [if_pos c] at h1
    cases h1
  · rw [if_neg c] at h1
    obtain ⟨t, k1, k2⟩ := Option.map_eq_some_iff.mp h1
    injection k2 with k3 k4
    subst k3
    subst k4
    obtain ⟨m, s2, m1, m2, m3⟩ := rn_in (E := [(1, g 114 (g 115 (g 120 p.toNat).toNat).toNat, 0)]) h2
    exact ⟨by omega, t, m, s2, k1, m1, m2, m3⟩
theorem sgr_10 {p : Int} (h10 : g 119 p.toNat = 10) (h : sgr g V n u p s s' L) : rn g V n u [(1, g 120 p.toNat, 0)] s s' L := by
  obtain ⟨B, s1, L1, h1, h2, h3⟩ := h
  rw [dv_lf_n (Or.inr h10), List.nil_append] at h3
  subst h3
  unfold dm_sg at h1
  rw [if_neg (by omega), if_pos h10] at h1
  injection h1 with h1
  injection h1 with k3 k4
  subst k3
  subst k4
  exact h2
theorem sgr_lf {p : Int} (h9 : g 119 p.toNat ≠ 9) (h10 : g 119 p.toNat ≠ 10) (h : sgr g V n u p s s' L) : L = [(p, V (gm_len s))] ∧ ((g 119 p.toNat = 1 ∧ gm_c 2 (V (gm_len s)) s = some s') ∨ (g 119 p.toNat = 2 ∧ gm_c 3 (V (gm_len s)) s = some s') ∨ (g 119 p.toNat ≠ 1 ∧ g 119 p.toNat ≠ 2 ∧ s' = s)) := by
  obtain ⟨B, s1, L1, h1, h2, h3⟩ := h
  rw [dv_lf_y h9 h10] at h3
  unfold dm_sg at h1
  rw [if_neg h9, if_neg h10] at h1
  obtain ⟨t, k1, k2⟩ := Option.map_eq_some_iff.mp h1
  injection k2 with k3 k4
  subst k3
  subst k4
  obtain ⟨h4, h5⟩ := rn_nil h2
  subst h4
  subst h5
  refine ⟨h3, ?_⟩
  unfold dm_lf at k1
  by_cases c1 : g 119 p.toNat = 1
  · rw [if_pos c1] at k1
    exact Or.inl ⟨c1, k1⟩
  · rw [if_neg c1] at k1
    by_cases c2 : g 119 p.toNat = 2
    · rw [if_pos c2] at k1
      exact Or.inr (Or.inl ⟨c2, k1⟩)
    · rw [if_neg c2] at k1
      injection k1 with k1
      exact Or.inr (Or.inr ⟨c1, c2, k1.symm⟩)
/-- a unit: many -/
theorem rn_u1 {p o : Int} (c1 : g 122 p.toNat = 1) (h : rn g V n u [(0, p, o)] s s' L) : ∃ t m s2, gm_c 5 (V (gm_len (gm_op o s))) (gm_op o s) = some t ∧ m < n ∧ rn g V m u [(5, p, V (gm_len (gm_op o s)))] (gm_d t) s2 L ∧ s' = gm_cl s2 := by
  obtain ⟨m, B, s1, L1, h1, h2, h3, h4⟩ := rn_cons h
  rw [dm_st_0, ul_nil, Int.add_zero] at h2
  unfold dm_u at h2
  rw [if_pos c1] at h2
  obtain ⟨t, k1, k2⟩ := Option.map_eq_some_iff.mp h2
  injection k2 with k3 k4
  subst k3
  subst k4
  have e : dv g V (0, p, o) s = [] := by
    unfold dv
    rw [if_pos rfl, if_pos c1]
  rw [e, List.nil_append] at h4
  subst h4
  obtain ⟨m', s2, m1, m2, m3⟩ := rn_in (E := [(5, p, V (gm_len (gm_op o s)))]) h3
  rw [Int.add_zero] at m2
  exact ⟨t, m', s2, k1, by omega, m2, m3⟩
/-- .. maybe -/
theorem rn_u2 {p o : Int} (c2 : g 122 p.toNat = 2) (h : rn g V n u [(0, p, o)] s s' L) : ∃ t, gm_c 6 (V (gm_len (gm_op o s))) (gm_op o s) = some t ∧ ((0 < V (gm_len (gm_op o s)) ∧ ∃ m s2, m < n ∧ sgr g V m u p (gm_d t) s2 L ∧ s' = gm_cl s2) ∨ (¬ 0 < V (gm_len (gm_op o s)) ∧ L = [] ∧ s' = gm_cl (gm_d t))) := by
  obtain ⟨m, B, s1, L1, h1, h2, h3, h4⟩ := rn_cons h
  rw [dm_st_0, ul_nil, Int.add_zero] at h2
  have el : gm_len s = gm_len (gm_op o s) := gm_op_e.2.symm
  have e : dv g V (0, p, o) s = if 0 < V (gm_len (gm_op o s)) then dv_lf g V p (gm_len (gm_op o s) + 1) else [] := by
    unfold dv
    rw [if_pos rfl, if_neg (show ¬ g 122 p.toNat = 1 by omega), if_pos c2, el]
  rw [e] at h4
  unfold dm_u at h2
  rw [if_neg (by omega), if_pos c2] at h2
  obtain ⟨t, k1, k2⟩ := Option.bind_eq_some_iff.mp h2
  refine ⟨t, k1, ?_⟩
  by_cases c : 0 < V (gm_len (gm_op o s))
  · rw [if_pos c] at k2 h4
    have hl := dm_sg_loc (l := u) (g := g) (V := V) (u := p) (r := []) (q := [(2, 0, 0)]) (s := gm_d t)
    rw [List.nil_append] at hl
    rw [hl] at k2
    obtain ⟨c0, x1, x2⟩ := Option.map_eq_some_iff.mp k2
    injection x2 with x3 x4
    subst x3
    subst x4
    have e0 : u + wk_ul [(2, 0, 0)] = u := by rw [wk_ul_o, ul_nil]; omega
    rw [e0] at x1
    rw [List.append_nil] at h3
    obtain ⟨m', s2, m1, m2, m3⟩ := rn_in h3
    rw [Int.add_zero] at m2
    obtain ⟨l1, l2⟩ := gm_c_len k1
    have el2 : gm_len (gm_d t) = gm_len (gm_op o s) + 1 := by
      unfold gm_len
      rw [gm_d_T, l2]
      omega
    exact Or.inl ⟨c, m', s2, by omega, ⟨c0.1, c0.2, L1, x1, m2, by rw [h4, el2]⟩, m3⟩
  · rw [if_neg c] at k2 h4
    injection k2 with k2
    injection k2 with x3 x4
    subst x3
    subst x4
    obtain ⟨m1, m2⟩ := rn_2 h3
    subst m2
    exact Or.inr ⟨c, h4, m1⟩
/-- .. once -/
theorem rn_u0 {p o : Int} (c1 : g 122 p.toNat ≠ 1) (c2 : g 122 p.toNat ≠ 2) (h : rn g V n u [(0, p, o)] s s' L) : ∃ m, m < n ∧ sgr g V m u p (gm_op o s) s' L := by
  obtain ⟨m, B, s1, L1, h1, h2, h3, h4⟩ := rn_cons h
  rw [dm_st_0, ul_nil, Int.add_zero] at h2
  unfold dm_u at h2
  rw [if_neg c1, if_neg c2] at h2
  rw [List.append_nil] at h3
  refine ⟨m, by omega, B, s1, L1, h2, h3, ?_⟩
  rw [h4]
  unfold dv
  rw [if_pos rfl, if_neg c1, if_neg c2, gm_op_e.2]
/-- once more -/
theorem rn_5 {p a : Int} (h : rn g V n u [(5, p, a)] s s' L) : (0 < a ∧ ∃ m1 m2 s1 L1 L2, m1 < n ∧ m2 < n ∧ sgr g V m1 u p s s1 L1 ∧ rn g V m2 u [(5, p, a - 1)] s1 s' L2 ∧ L = L1 ++ L2) ∨ (¬ 0 < a ∧ s' = s ∧ L = []) := by
  obtain ⟨m, B, s1, L1, h1, h2, h3, h4⟩ := rn_cons h
  rw [dm_st_5, ul_nil, Int.add_zero] at h2
  rw [List.append_nil] at h3
  have e : dv g V (5, p, a) s = if 0 < a then dv_lf g V p (gm_len s) else [] := by
    unfold dv
    rw [if_neg (show ¬ (5 : Int) = 0 by decide), if_pos rfl]
  rw [e] at h4
  unfold dm_ag at h2
  by_cases c : 0 < a
  · rw [if_pos c] at h2 h4
    have hl := dm_sg_loc (l := u) (g := g) (V := V) (u := p) (r := []) (q := [(5, p, a - 1)]) (s := s)
    rw [List.nil_append] at hl
    rw [hl] at h2
    obtain ⟨c0, x1, x2⟩ := Option.map_eq_some_iff.mp h2
    injection x2 with x3 x4
    subst x3
    subst x4
    have e0 : u + wk_ul [(5, p, a - 1)] = u := by rw [wk_ul_c (by decide), ul_nil]; omega
    rw [e0] at x1
    obtain ⟨n1, n2, s2, M1, M2, i1, i2, i3, i4, i5⟩ := rn_split h3
    rw [e0] at i3
    exact Or.inl ⟨c, n1, n2, s2, _, M2, by omega, by omega, ⟨c0.1, c0.2, M1, x1, i3, rfl⟩, i4, by rw [h4, i5, List.append_assoc]⟩
  · rw [if_neg c] at h2 h4
    injection h2 with h2
    injection h2 with x3 x4
    subst x3
    subst x4
    obtain ⟨k1, k2⟩ := rn_nil h3
    exact Or.inr ⟨c, k1, by rw [h4, k2]; rfl⟩
theorem dv_1 {f a : Int} : dv g V (1, f, a) s = [] := by
  unfold dv
  rw [if_neg (show ¬ (1 : Int) = 0 by decide), if_neg (show ¬ (1 : Int) = 5 by decide)]
/-- a form: a choice -/
theorem rn_f1 {f a : Int} (c : 1 < g 130 f.toNat) (h : rn g V n u [(1, f, a)] s s' L) : (0 ≤ V (gm_len s) ∧ V (gm_len s) < g 130 f.toNat) ∧ ∃ t m s2, gm_c 4 (V (gm_len s)) s = some t ∧ m < n ∧ rn g V m u (wk_it g 61 (g 126 (wk_alt g (V (gm_len s)).toNat (g 129 f.toNat)).toNat)) (gm_d t) s2 L ∧ s' = gm_cl s2 := by
  obtain ⟨m, B, s1, L1, h1, h2, h3, h4⟩ := rn_cons h
  rw [dv_1, List.nil_append] at h4
  subst h4
  rw [dm_st_1] at h2
  unfold dm_fo at h2
  rw [if_pos c] at h2
  by_cases cv : 0 ≤ V (gm_len s) ∧ V (gm_len s) < g 130 f.toNat
  · rw [if_pos cv] at h2
    obtain ⟨t, k1, k2⟩ := Option.map_eq_some_iff.mp h2
    injection k2 with k3 k4
    subst k3
    subst k4
    rw [List.append_nil] at h3
    obtain ⟨m', s2, m1, m2, m3⟩ := rn_in h3
    rw [Int.add_zero] at m2
    exact ⟨cv, t, m', s2, k1, by omega, m2, m3⟩
  · rw [if_neg cv] at h2
    cases h2
theorem rn_f0 {f a : Int} (c : ¬ 1 < g 130 f.toNat) (h : rn g V n u [(1, f, a)] s s' L) : ∃ m, m < n ∧ rn g V m u (wk_it g 61 (g 126 (g 129 f.toNat).toNat)) s s' L := by
  obtain ⟨m, B, s1, L1, h1, h2, h3, h4⟩ := rn_cons h
  rw [dv_1, List.nil_append] at h4
  subst h4
  rw [dm_st_1] at h2
  unfold dm_fo at h2
  rw [if_neg c] at h2
  injection h2 with h2
  injection h2 with k3 k4
  subst k3
  subst k4
  rw [List.append_nil, List.append_nil] at h3
  exact ⟨m, by omega, h3⟩
theorem ul_it {N : Nat} {p : Int} : wk_ul (wk_it g N p) = 0 := by
  have := wk_ul_it (g := g) (N := N) (u := p) (r := [])
  rw [List.append_nil] at this
  exact this
/-- an item -/
theorem rn_i0 {e : wk_E} {N : Nat} {p : Int} (h : rn g V n u (e :: wk_it g N p) s s' L) : ∃ n1 n2 s1 L1 L2, n1 ≤ n ∧ n2 ≤ n ∧ rn g V n1 u [e] s s1 L1 ∧ rn g V n2 u (wk_it g N p) s1 s' L2 ∧ L = L1 ++ L2 := by
  obtain ⟨n1, n2, s1, L1, L2, h1, h2, h3, h4, h5⟩ := rn_split (A := [e]) (q := wk_it g N p) h
  rw [ul_it, Int.add_zero] at h3
  exact ⟨n1, n2, s1, L1, L2, h1, h2, h3, h4, h5⟩
/-- a pair -/
theorem rn_i1 {N : Nat} {a b p : Int} (h : rn g V n u ((0, a, 1) :: (3, 0, 0) :: (0, b, 0) :: (4, 0, 0) :: wk_it g N p) s s' L) : ∃ n1 n2 n3 s1 s2 L1 L2 L3, n1 ≤ n ∧ n2 ≤ n ∧ n3 ≤ n ∧ rn g V n1 u [(0, a, 1)] s s1 L1 ∧ rn g V n2 u [(0, b, 0)] (gm_mid s1) s2 L2 ∧ rn g V n3 u (wk_it g N p) (gm_tu s2) s' L3 ∧ L = L1 ++ (L2 ++ L3) := by
  have e4 : wk_ul ((4, 0, 0) :: wk_it g N p) = 0 := by rw [wk_ul_c (by decide), ul_it]
  have e3 : wk_ul ((3, 0, 0) :: (0, b, 0) :: (4, 0, 0) :: wk_it g N p) = 0 := by rw [wk_ul_c (by decide), wk_ul_c (by decide), e4]
  obtain ⟨n1, n2, s1, L1, L2, h1, h2, h3, h4, h5⟩ := rn_split (A := [(0, a, 1)]) (q := (3, 0, 0) :: (0, b, 0) :: (4, 0, 0) :: wk_it g N p) h
  rw [e3, Int.add_zero] at h3
  obtain ⟨m, B, s2, L3, k1, k2, k3, k4⟩ := rn_cons h4
  rw [dm_st_3] at k2
  injection k2 with k2
  injection k2 with x3 x4
  subst x3
  subst x4
  have d3 : dv g V (3, 0, 0) s1 = [] := by
    unfold dv
    rw [if_neg (show ¬ (3 : Int) = 0 by decide), if_neg (show ¬ (3 : Int) = 5 by decide)]
  rw [d3, List.nil_append] at k4
  subst k4
  obtain ⟨m1, m2, s3, L4, L5, i1, i2, i3, i4, i5⟩ := rn_split (A := [(0, b, 0)]) (q := (4, 0, 0) :: wk_it g N p) k3
  rw [e4, Int.add_zero] at i3
  obtain ⟨m', B, s4, L6, y1, y2, y3, y4⟩ := rn_cons i4
  rw [dm_st_4] at y2
  injection y2 with y2
  injection y2 with x3 x4
  subst x3
  subst x4
  have d4 : dv g V (4, 0, 0) s3 = [] := by
    unfold dv
    rw [if_neg (show ¬ (4 : Int) = 0 by decide), if_neg (show ¬ (4 : Int) = 5 by decide)]
  rw [d4, List.nil_append] at y4
  subst y4
  exact ⟨n1, m1, m', s1, s3, L1, L4, L5, h1, by omega, by omega, h3, i3, y3, by rw [h5, i5]⟩
end RN0
/-! what a run appends -/
def tpc (D : Int) (A : List (Int × Int × Int)) : Int := ((A.filter (fun x => decide (x.2.2 = D))).length : Int)
def apt (k : Int) (s s' : gm_S) : Prop := gm_D s' = gm_D s ∧ gm_P s' = gm_P s ∧ ∃ A, gm_T s' = gm_T s ++ A ∧ fo (gm_D s) A ∧ tpc (gm_D s) A = k
theorem tpc_app {D : Int} {A B : List (Int × Int × Int)} : tpc D (A ++ B) = tpc D A + tpc D B := by
  unfold tpc
  rw [List.filter_append, List.length_append]
  omega
theorem tpc_0 {D : Int} {A : List (Int × Int × Int)} (h : fo (D + 1) A) : tpc D A = 0 := by
  unfold tpc
  rw [List.filter_eq_nil_iff.mpr (fun x hx => by
    have := h.1 x hx
    rw [decide_eq_true_eq]
    omega)]
  rfl
theorem tpc_cons {D k v : Int} {A : List (Int × Int × Int)} (h : fo (D + 1) A) : tpc D ((k, v, D) :: A) = 1 := by
  have e := tpc_app (D := D) (A := [(k, v, D)]) (B := A)
  rw [tpc_0 h] at e
  have e1 : tpc D [(k, v, D)] = 1 := by
    unfold tpc
    rw [List.filter_cons, if_pos (by rw [decide_eq_true_eq])]
    rfl
  rw [e1] at e
  exact e
section APT
variable {s s1 s2 s' t : gm_S} {a b k v : Int}
theorem apt_refl : apt 0 s s := ⟨rfl, rfl, [], (List.append_nil _).symm, fo_nil, rfl⟩
theorem apt_trans (h1 : apt a s s1) (h2 : apt b s1 s2) : apt (a + b) s s2 := by
  obtain ⟨x1, x2, A, x3, x4, x5⟩ := h1
  obtain ⟨y1, y2, B, y3, y4, y5⟩ := h2
  rw [x1] at y4 y5
  exact ⟨y1.trans x1, y2.trans x2, A ++ B, by rw [y3, x3, List.append_assoc], fo_app x4 y4, by rw [tpc_app, x5, y5]⟩
theorem cl_T : gm_T (gm_cl s) = gm_T s := by unfold gm_cl; rw [gm_T_mk]
theorem cl_D : gm_D (gm_cl s) = gm_D s - 1 := by unfold gm_cl; rw [gm_D_mk]
theorem cl_P : gm_P (gm_cl s) = gm_P s := by unfold gm_cl; rw [gm_P_mk]
/-- a node with all that is in it, told openly -/
theorem node_T {A : List (Int × Int × Int)} (h : gm_c k v s = some t) (hA : gm_T s2 = gm_T (gm_d t) ++ A) : gm_T (gm_cl s2) = gm_T s ++ (k + 10 * ((gm_T s).length : Int), v, gm_D s) :: A := by
  obtain ⟨-, -, t3, -, -⟩ := gm_c_t h
  rw [cl_T, hA, gm_d_T, t3, List.append_assoc]
  rfl
theorem apt_node (h : gm_c k v s = some t) (h2 : apt a (gm_d t) s2) : apt 1 s (gm_cl s2) := by
  obtain ⟨x1, x2, A, x3, x4, x5⟩ := h2
  obtain ⟨-, -, t3, t4, t5⟩ := gm_c_t h
  obtain ⟨-, -, d3, d4⟩ := gm_d_e (t := t)
  rw [d3, t4] at x1 x4
  rw [d4, t5] at x2
  exact ⟨by rw [cl_D, x1]; omega, by rw [cl_P, x2], _, node_T h x3, fo_cons x4, tpc_cons x4⟩
theorem apt_leaf (h : gm_c k v s = some t) : apt 1 s t := by
  obtain ⟨-, -, t3, t4, t5⟩ := gm_c_t h
  exact ⟨t4, t5, _, t3, fo_one, tpc_cons fo_nil⟩
/-- a pair: what comes second stands first -/
theorem pair_T {A B : List (Int × Int × Int)} (p1 : gm_P s1 = gm_P (gm_op 1 s)) (a1 : gm_T s1 = gm_T (gm_op 1 s) ++ A) (p2 : gm_P s2 = gm_P (gm_mid s1)) (a2 : gm_T s2 = gm_T (gm_mid s1) ++ B) : gm_T (gm_tu s2) = gm_T s ++ (B ++ A) ∧ gm_P (gm_tu s2) = gm_P s ∧ gm_D (gm_tu s2) = gm_D s2 := by
  have oP : gm_P (gm_op 1 s) = ((gm_T s).length, 0) :: gm_P s := by unfold gm_op; rw [if_pos rfl, gm_P_mk]
  have mP : gm_P (gm_mid s1) = ((gm_T s).length, (gm_T s1).length) :: gm_P s := by unfold gm_mid; rw [gm_P_mk, p1, oP]
  rw [gm_op_t] at a1
  rw [gm_mid_T] at a2
  rw [mP] at p2
  have etu : gm_tu s2 = (gm_X s2, gm_F s2, gm_rot (gm_T s).length (gm_T s1).length (gm_T s2), gm_D s2, gm_P s) := by
    unfold gm_tu
    rw [p2]
  refine ⟨?_, by rw [etu, gm_P_mk], by rw [etu, gm_D_mk]⟩
  rw [etu, gm_T_mk, a2, a1]
  exact gm_rot_pre
theorem apt_pair (h1 : apt a (gm_op 1 s) s1) (h2 : apt b (gm_mid s1) s2) : apt (a + b) s (gm_tu s2) := by
  obtain ⟨x1, x2, A, x3, x4, x5⟩ := h1
  obtain ⟨y1, y2, B, y3, y4, y5⟩ := h2
  have mD : gm_D (gm_mid s1) = gm_D s1 := by unfold gm_mid; rw [gm_D_mk]
  have oD : gm_D (gm_op 1 s) = gm_D s := gm_op_e.1
  obtain ⟨z1, z2, z3⟩ := pair_T x2 x3 y2 y3
  rw [oD] at x1 x4 x5
  rw [mD, x1] at y1 y4 y5
  exact ⟨z3.trans y1, z2, B ++ A, z1, fo_app y4 x4, by rw [tpc_app, x5, y5]; omega⟩
end APT
/-- tops of items -/
def itt (t : Int → Int) : List wk_E → Int
  | [] => 0
  | e :: r => (if e.1 = 0 then t e.2.1 else 0) + itt t r
/-- the tops, told of all units -/
def tt_G (t : Int → Int) (g : wk_g) (Y : wk_Y) : Prop := ∀ p, 0 ≤ p → p < wk_u Y → (g 122 p.toNat ≠ 0 → t p = 1) ∧ (g 122 p.toNat = 0 → ((g 119 p.toNat = 1 ∨ g 119 p.toNat = 2 ∨ g 119 p.toNat = 9) → t p = 1) ∧ (g 119 p.toNat = 10 → t p = if 1 < g 130 (g 120 p.toNat).toNat then 1 else itt t (wk_it g 61 (g 126 (g 129 (g 120 p.toNat).toNat).toNat))) ∧ (g 119 p.toNat ≠ 1 → g 119 p.toNat ≠ 2 → g 119 p.toNat ≠ 9 → g 119 p.toNat ≠ 10 → t p = 0))
def ftt (t : Int → Int) (g : wk_g) (f : Int) : Int := if 1 < g 130 f.toNat then 1 else itt t (wk_it g 61 (g 126 (g 129 f.toNat).toNat))
def sgt (t : Int → Int) (g : wk_g) (p : Int) : Int := if g 119 p.toNat = 1 ∨ g 119 p.toNat = 2 ∨ g 119 p.toNat = 9 then 1 else if g 119 p.toNat = 10 then ftt t g (g 120 p.toNat) else 0
section TOP
variable {g : wk_g} {V : Int → Int} {Y : wk_Y} {t : Int → Int}
def tpq_F (g : wk_g) (V : Int → Int) (Y : wk_Y) (t : Int → Int) (N : Nat) : Prop := ∀ n, n < N → ∀ u f s s' L, 0 ≤ f → f < wk_f Y → rn g V n u [(1, f, 0)] s s' L → apt (ftt t g f) s s'
theorem tpq_sg {N : Nat} (hL : wk_L g Y) (hF : tpq_F g V Y t N) {n : Nat} {u p : Int} {s s' : gm_S} {L : List (Int × Int)} (hn : n < N) (p0 : 0 ≤ p) (p1 : p < wk_u Y) (h : sgr g V n u p s s' L) : apt (sgt t g p) s s' := by
  obtain ⟨-, -, -, l9, l10, -⟩ := hL.2.2.1 p p0 p1
  unfold sgt
  by_cases c9 : g 119 p.toNat = 9
  · rw [if_pos (Or.inr (Or.inr c9))]
    obtain ⟨-, t', m, s2, h1, h2, h3, h4⟩ := sgr_9 c9 h
    obtain ⟨-, -, -, -, r1, r2, -⟩ := l9 c9
    subst h4
    exact apt_node h1 (hF m (by omega) _ _ _ _ _ r1 r2 h3)
  · by_cases c10 : g 119 p.toNat = 10
    · rw [if_neg (by omega), if_pos c10]
      obtain ⟨x1, x2, -⟩ := l10 c10
      exact hF n hn _ _ _ _ _ x1 x2 (sgr_10 c10 h)
    · obtain ⟨-, h2⟩ := sgr_lf c9 c10 h
      rcases h2 with ⟨a, b⟩ | ⟨a, b⟩ | ⟨a, b, c⟩
      · rw [if_pos (Or.inl a)]
        exact apt_leaf b
      · rw [if_pos (Or.inr (Or.inl a))]
        exact apt_leaf b
      · rw [if_neg (by omega), if_neg c10, c]
        exact apt_refl
theorem tpq_5 {N : Nat} (hL : wk_L g Y) (hF : tpq_F g V Y t N) {u p : Int} (p0 : 0 ≤ p) (p1 : p < wk_u Y) : ∀ (k : Nat) (a : Int) (n : Nat) (s s' : gm_S) (L : List (Int × Int)), a ≤ k → n ≤ N → rn g V n u [(5, p, a)] s s' L → ∃ j, apt j s s' := by
  intro k
  induction k with
  | zero =>
    intro a n s s' L ha hn h
    rcases rn_5 h with ⟨c, -⟩ | ⟨-, c, -⟩
    · omega
    · rw [c]
      exact ⟨0, apt_refl⟩
  | succ k ih =>
    intro a n s s' L ha hn h
    rcases rn_5 h with ⟨c, m1, m2, s1, L1, L2, h1, h2, h3, h4, -⟩ | ⟨-, c, -⟩
    · obtain ⟨j, hj⟩ := ih (a - 1) m2 s1 s' L2 (by omega) (by omega) h4
      exact ⟨_, apt_trans (tpq_sg hL hF (by omega) p0 p1 h3) hj⟩
    · rw [c]
      exact ⟨0, apt_refl⟩
theorem tpq_u {N : Nat} (hL : wk_L g Y) (hT : tt_G t g Y) (hr : ∀ p, 0 ≤ p → p < wk_u Y → 0 ≤ g 122 p.toNat ∧ g 122 p.toNat ≤ 2) (hF : tpq_F g V Y t N) {n : Nat} {u p o : Int} {s s' : gm_S} {L : List (Int × Int)} (hn : n ≤ N) (p0 : 0 ≤ p) (p1 : p < wk_u Y) (h : rn g V n u [(0, p, o)] s s' L) : apt (t p) (gm_op o s) s' := by
  obtain ⟨t1, t2⟩ := hT p p0 p1
  have hr := hr p p0 p1
  by_cases c1 : g 122 p.toNat = 1
  · obtain ⟨t', m, s2, h1, h2, h3, h4⟩ := rn_u1 c1 h
    obtain ⟨j, hj⟩ := tpq_5 hL hF p0 p1 (V (gm_len (gm_op o s))).toNat _ m _ _ _ (by omega) (by omega) h3
    rw [h4, t1 (by omega)]
    exact apt_node h1 hj
  · by_cases c2 : g 122 p.toNat = 2
    · obtain ⟨t', h1, h2⟩ := rn_u2 c2 h
      rw [t1 (by omega)]
      rcases h2 with ⟨-, m, s2, h3, h4, h5⟩ | ⟨-, -, h5⟩
      · rw [h5]
        exact apt_node h1 (tpq_sg hL hF (by omega) p0 p1 h4)
      · rw [h5]
        exact apt_node h1 apt_refl
    · obtain ⟨m, h1, h2⟩ := rn_u0 c1 c2 h
      have e : t p = sgt t g p := by
        obtain ⟨a1, a2, a3⟩ := t2 (by omega)
        unfold sgt ftt
        by_cases q : g 119 p.toNat = 1 ∨ g 119 p.toNat = 2 ∨ g 119 p.toNat = 9
        · rw [if_pos q]
          exact a1 q
        · rw [if_neg q]
          by_cases q2 : g 119 p.toNat = 10
          · rw [if_pos q2]
            exact a2 q2
          · rw [if_neg q2]
            exact a3 (by omega) (by omega) (by omega) q2
      rw [e]
      exact tpq_sg hL hF (by omega) p0 p1 h2
theorem tpq_it {N : Nat} (hL : wk_L g Y) (hT : tt_G t g Y) (hr : ∀ p, 0 ≤ p → p < wk_u Y → 0 ≤ g 122 p.toNat ∧ g 122 p.toNat ≤ 2) (hF : tpq_F g V Y t N) {u : Int} : ∀ (K : Nat) (p : Int) (n : Nat) (s s' : gm_S) (L : List (Int × Int)), n ≤ N → (p < 0 ∨ p < wk_u Y) → rn g V n u (wk_it g K p) s s' L → apt (itt t (wk_it g K p)) s s' := by
  intro K
  induction K with
  | zero =>
    intro p n s s' L hn hp h
    have h : rn g V n u [] s s' L := h
    rw [(rn_nil h).1]
    exact apt_refl
  | succ K ih =>
    intro p n s s' L hn hp h
    by_cases c : p < 0
    · have e : wk_it g (K + 1) p = [] := by rw [wk_it, if_pos c]
      rw [e] at h ⊢
      rw [(rn_nil h).1]
      exact apt_refl
    · have hp : p < wk_u Y := by omega
      obtain ⟨-, lm, ln, -⟩ := hL.2.2.1 p (by omega) hp
      have nx : g 125 p.toNat < 0 ∨ g 125 p.toNat < wk_u Y := by
        by_cases q : 0 ≤ g 125 p.toNat
        · exact Or.inr (ln q).1
        · exact Or.inl (by omega)
      by_cases cm : 0 ≤ g 124 p.toNat
      · have e : wk_it g (K + 1) p = (0, p, 1) :: (3, 0, 0) :: (0, g 124 p.toNat, 0) :: (4, 0, 0) :: wk_it g K (g 125 p.toNat) := by rw [wk_it, if_neg c, if_pos cm]
        rw [e] at h ⊢
        obtain ⟨n1, n2, n3, s1, s2, L1, L2, L3, h1, h2, h3, h4, h5, h6, -⟩ := rn_i1 h
        have a1 := tpq_u hL hT hr hF (by omega) (by omega) hp h4
        have a2 := tpq_u hL hT hr hF (by omega) cm (lm cm).1 h5
        have a3 := ih _ _ _ _ _ (by omega) nx h6
        have o0 : gm_op 0 (gm_mid s1) = gm_mid s1 := by unfold gm_op; rw [if_neg (by decide)]
        rw [o0] at a2
        have := apt_trans (apt_pair a1 a2) a3
        have ei : itt t ((0, p, 1) :: (3, 0, 0) :: (0, g 124 p.toNat, 0) :: (4, 0, 0) :: wk_it g K (g 125 p.toNat)) = t p + t (g 124 p.toNat) + itt t (wk_it g K (g 125 p.toNat)) := by
          show (if (0 : Int) = 0 then t p else 0) + ((if (3 : Int) = 0 then t 0 else 0) + ((if (0 : Int) = 0 then t (g 124 p.toNat) else 0) + ((if (4 : Int) = 0 then t 0 else 0) + itt t (wk_it g K (g 125 p.toNat))))) = _
          rw [if_pos rfl, if_pos rfl, if_neg (by decide), if_neg (by decide)]
          omega
        rw [ei]
        exact this
      · have e : wk_it g (K + 1) p = (0, p, 0) :: wk_it g K (g 125 p.toNat) := by rw [wk_it, if_neg c, if_neg cm]
        rw [e] at h ⊢
        obtain ⟨n1, n2, s1, L1, L2, h1, h2, h3, h4, -⟩ := rn_i0 h
        have a1 := tpq_u hL hT hr hF (by omega) (by omega) hp h3
        have a3 := ih _ _ _ _ _ (by omega) nx h4
        have o0 : gm_op 0 s = s := by unfold gm_op; rw [if_neg (by decide)]
        rw [o0] at a1
        have ei : itt t ((0, p, 0) :: wk_it g K (g 125 p.toNat)) = t p + itt t (wk_it g K (g 125 p.toNat)) := by
          show (if (0 : Int) = 0 then t p else 0) + itt t (wk_it g K (g 125 p.toNat)) = _
          rw [if_pos rfl]
        rw [ei]
        exact apt_trans a1 a3
theorem tpq_all (hL : wk_L g Y) (hT : tt_G t g Y) (hr : ∀ p, 0 ≤ p → p < wk_u Y → 0 ≤ g 122 p.toNat ∧ g 122 p.toNat ≤ 2) : ∀ N : Nat, tpq_F g V Y t N := by
  intro N
  induction N with
  | zero => intro n hn; omega
  | succ N ih =>
    intro n hn u f s s' L f0 f1 h
    obtain ⟨-, -, d3, -, -, d5⟩ := hL.2.2.2 f f0 f1
    unfold ftt
    by_cases c : 1 < g 130 f.toNat
    · rw [if_pos c]
      obtain ⟨cv, t', m, s2, h1, h2, h3, h4⟩ := rn_f1 c h
      rw [h4]
      obtain ⟨-, -, p8⟩ := d5 (V (gm_len s)).toNat (by omega)
      exact apt_node h1 (tpq_it hL hT hr ih 61 _ m _ _ _ (by omega) (by omega) h3)
    · rw [if_neg c]
      obtain ⟨m, h1, h2⟩ := rn_f0 c h
      obtain ⟨-, -, p8⟩ := d5 0 (by omega)
      have p8 : g 126 (g 129 f.toNat).toNat < 0 ∨ (g 126 (g 129 f.toNat).toNat < wk_u Y ∧ wk_c Y (g 126 (g 129 f.toNat).toNat) = f) := p8
      exact tpq_it hL hT hr ih 61 _ m _ _ _ (by omega) (by omega) h2
end TOP
