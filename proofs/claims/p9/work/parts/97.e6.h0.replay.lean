/-! THE REPLAY: the walk that goes by the values V of the nodes, in the order in which they are made; it builds the tree again, and its leaves are told -/
def dm_lf (V : Int → Int) (o : Int) (s : gm_S) : Option gm_S := if o = 1 then gm_c 2 (V (gm_len s)) s else if o = 2 then gm_c 3 (V (gm_len s)) s else some s
def dm_sg (l : Int) (g : wk_g) (V : Int → Int) (u : Int) (r : List wk_E) (s : gm_S) : Option gm_C :=
  if g 119 u.toNat = 9 then pm_en l g (g 115 (g 120 u.toNat).toNat) r s
  else if g 119 u.toNat = 10 then some ((1, g 120 u.toNat, 0) :: r, s)
  else (dm_lf V (g 119 u.toNat) s).map (fun t => (r, t))
def dm_u (l : Int) (g : wk_g) (V : Int → Int) (u : Int) (r : List wk_E) (s : gm_S) : Option gm_C :=
  if g 122 u.toNat = 1 then (gm_c 5 (V (gm_len s)) s).map (fun t => ((5, u, V (gm_len s)) :: (2, 0, 0) :: r, gm_d t))
  else if g 122 u.toNat = 2 then (gm_c 6 (V (gm_len s)) s).bind (fun t => if 0 < V (gm_len s) then dm_sg l g V u ((2, 0, 0) :: r) (gm_d t) else some ((2, 0, 0) :: r, gm_d t))
  else dm_sg l g V u r s
def dm_fo (g : wk_g) (V : Int → Int) (f : Int) (r : List wk_E) (s : gm_S) : Option gm_C :=
  if 1 < g 130 f.toNat then (if 0 ≤ V (gm_len s) ∧ V (gm_len s) < g 130 f.toNat then (gm_c 4 (V (gm_len s)) s).map (fun t => (wk_it g 61 (g 126 (wk_alt g (V (gm_len s)).toNat (g 129 f.toNat)).toNat) ++ (2, 0, 0) :: r, gm_d t)) else none)
  else some (wk_it g 61 (g 126 (g 129 f.toNat).toNat) ++ r, s)
def dm_ag (l : Int) (g : wk_g) (V : Int → Int) (u a : Int) (r : List wk_E) (s : gm_S) : Option gm_C := if 0 < a then dm_sg l g V u ((5, u, a - 1) :: r) s else some (r, s)
def dm_st (g : wk_g) (V : Int → Int) (l : Int) (e : wk_E) (r : List wk_E) (s : gm_S) : Option gm_C :=
  if e.1 = 0 then dm_u l g V e.2.1 r (gm_op e.2.2 s)
  else if e.1 = 1 then dm_fo g V e.2.1 r s
  else if e.1 = 5 then dm_ag l g V e.2.1 e.2.2 r s
  else if e.1 = 2 then some (r, (gm_X s, gm_F s, gm_T s, gm_D s - 1, gm_P s))
  else if e.1 = 3 then some (r, gm_mid s)
  else some (r, gm_tu s)
/-- the leaves of a turn: the unit, and the value of its node -/
def dv_lf (g : wk_g) (V : Int → Int) (u c : Int) : List (Int × Int) := if g 119 u.toNat = 9 ∨ g 119 u.toNat = 10 then [] else [(u, V c)]
def dv (g : wk_g) (V : Int → Int) (e : wk_E) (s : gm_S) : List (Int × Int) :=
  if e.1 = 0 then (if g 122 e.2.1.toNat = 1 then [] else if g 122 e.2.1.toNat = 2 then (if 0 < V (gm_len s) then dv_lf g V e.2.1 (gm_len s + 1) else []) else dv_lf g V e.2.1 (gm_len s))
  else if e.1 = 5 then (if 0 < e.2.2 then dv_lf g V e.2.1 (gm_len s) else [])
  else []
section DM0
variable {g : wk_g} {V : Int → Int} {l : Int} {r q : List wk_E} {s : gm_S}
theorem dm_st_0 {u o : Int} : dm_st g V l (0, u, o) r s = dm_u l g V u r (gm_op o s) := by
  unfold dm_st
  rw [if_pos rfl]
theorem dm_st_1 {f a : Int} : dm_st g V l (1, f, a) r s = dm_fo g V f r s := by
  unfold dm_st
  rw [if_neg (show ¬ (1 : Int) = 0 by decide), if_pos rfl]
theorem dm_st_5 {u a : Int} : dm_st g V l (5, u, a) r s = dm_ag l g V u a r s := by
  unfold dm_st
  rw [if_neg (show ¬ (5 : Int) = 0 by decide), if_neg (show ¬ (5 : Int) = 1 by decide), if_pos rfl]
theorem dm_st_2 {u a : Int} : dm_st g V l (2, u, a) r s = some (r, (gm_X s, gm_F s, gm_T s, gm_D s - 1, gm_P s)) := by
  unfold dm_st
  rw [if_neg (show ¬ (2 : Int) = 0 by decide), if_neg (show ¬ (2 : Int) = 1 by decide), if_neg (show ¬ (2 : Int) = 5 by decide), if_pos rfl]
theorem dm_st_3 {u a : Int} : dm_st g V l (3, u, a) r s = some (r, gm_mid s) := by
  unfold dm_st
  rw [if_neg (show ¬ (3 : Int) = 0 by decide), if_neg (show ¬ (3 : Int) = 1 by decide), if_neg (show ¬ (3 : Int) = 5 by decide), if_neg (show ¬ (3 : Int) = 2 by decide), if_pos rfl]
theorem dm_st_4 {u a : Int} : dm_st g V l (4, u, a) r s = some (r, gm_tu s) := by
  unfold dm_st
  rw [if_neg (show ¬ (4 : Int) = 0 by decide), if_neg (show ¬ (4 : Int) = 1 by decide), if_neg (show ¬ (4 : Int) = 5 by decide), if_neg (show ¬ (4 : Int) = 2 by decide), if_neg (show ¬ (4 : Int) = 3 by decide)]
theorem dm_sg_loc {u : Int} : dm_sg l g V u (r ++ q) s = (dm_sg (l + wk_ul q) g V u r s).map (fun c => (c.1 ++ q, c.2)) := by
  unfold dm_sg
  by_cases c9 : g 119 u.toNat = 9
  · rw [if_pos c9, if_pos c9]
    exact pm_en_loc
  · rw [if_neg c9, if_neg c9]
    by_cases c10 : g 119 u.toNat = 10
    · rw [if_pos c10, if_pos c10]
      rfl
    · rw [if_neg c10, if_neg c10]
      cases dm_lf V (g 119 u.toNat) s with
      | none => rfl
      | some t => rfl
theorem dm_u_loc {u : Int} : dm_u l g V u (r ++ q) s = (dm_u (l + wk_ul q) g V u r s).map (fun c => (c.1 ++ q, c.2)) := by
  unfold dm_u
  by_cases c1 : g 122 u.toNat = 1
  · rw [if_pos c1, if_pos c1]
    cases gm_c 5 (V (gm_len s)) s with
    | none => rfl
    | some t => rfl
  · rw [if_neg c1, if_neg c1]
    by_cases c2 : g 122 u.toNat = 2
    · rw [if_pos c2, if_pos c2]
      cases gm_c 6 (V (gm_len s)) s with
      | none => rfl
      | some t =>
        show (if 0 < V (gm_len s) then dm_sg l g V u ((2, 0, 0) :: (r ++ q)) (gm_d t) else some ((2, 0, 0) :: (r ++ q), gm_d t)) = Option.map _ (if 0 < V (gm_len s) then dm_sg (l + wk_ul q) g V u ((2, 0, 0) :: r) (gm_d t) else some ((2, 0, 0) :: r, gm_d t))
        by_cases ch : 0 < V (gm_len s)
        · rw [if_pos ch, if_pos ch]
          exact dm_sg_loc (r := (2, 0, 0) :: r)
        · rw [if_neg ch, if_neg ch]
          rfl
    · rw [if_neg c2, if_neg c2]
      exact dm_sg_loc
theorem dm_loc : pw_loc (dm_st g V) := by
  intro l e r q s
  unfold dm_st
  by_cases c0 : e.1 = 0
  · rw [if_pos c0, if_pos c0]
    exact dm_u_loc
  · rw [if_neg c0, if_neg c0]
    by_cases c1 : e.1 = 1
    · rw [if_pos c1, if_pos c1]
      unfold dm_fo
      by_cases c2 : 1 < g 130 e.2.1.toNat
      · rw [if_pos c2, if_pos c2]
        by_cases c3 : 0 ≤ V (gm_len s) ∧ V (gm_len s) < g 130 e.2.1.toNat
        · rw [if_pos c3, if_pos c3]
          cases gm_c 4 (V (gm_len s)) s with
          | none => rfl
          | some t =>
            dsimp only [Option.map]
            rw [List.append_assoc]
            rfl
        · rw [if_neg c3, if_neg c3]
          rfl
      · rw [if_neg c2, if_neg c2]
        dsimp only [Option.map]
        rw [List.append_assoc]
    · rw [if_neg c1, if_neg c1]
      by_cases c5 : e.1 = 5
      · rw [if_pos c5, if_pos c5]
        unfold dm_ag
        by_cases ch : 0 < e.2.2
        · rw [if_pos ch, if_pos ch]
          exact dm_sg_loc (r := (5, e.2.1, e.2.2 - 1) :: r)
        · rw [if_neg ch, if_neg ch]
          rfl
      · rw [if_neg c5, if_neg c5]
        by_cases c2 : e.1 = 2
        · rw [if_pos c2, if_pos c2]
          rfl
        · rw [if_neg c2, if_neg c2]
          by_cases c3 : e.1 = 3
          · rw [if_pos c3, if_pos c3]
            rfl
          · rw [if_neg c3, if_neg c3]
            rfl
end DM0
/-- runs that tell something at each turn -/
def pe_to (st : wk_E → List wk_E → gm_S → Option gm_C) (ev : wk_E → gm_S → List (Int × Int)) : Nat → gm_C → gm_C → List (Int × Int) → Prop
  | 0, c, d, L => c = d ∧ L = []
  | n + 1, c, d, L => ∃ e r c1 L1, c.1 = e :: r ∧ st e r c.2 = some c1 ∧ pe_to st ev n c1 d L1 ∧ L = ev e c.2 ++ L1
section PE0
variable {st : wk_E → List wk_E → gm_S → Option gm_C} {ev : wk_E → gm_S → List (Int × Int)}
theorem pe_pw {d : gm_C} : ∀ (n : Nat) (c : gm_C) (L : List (Int × Int)), pe_to st ev n c d L → pw_to st n c d := by
  intro n
  induction n with
  | zero => intro c L h; exact h.1
  | succ n ih =>
    intro c L h
    obtain ⟨e, r, c1, L1, h1, h2, h3, -⟩ := h
    exact ⟨e, r, c1, h1, h2, ih c1 L1 h3⟩
theorem pe_of {d : gm_C} : ∀ (n : Nat) (c : gm_C), pw_to st n c d → ∃ L, pe_to st ev n c d L := by
  intro n
  induction n with
  | zero => intro c h; exact ⟨[], h, rfl⟩
  | succ n ih =>
    intro c h
    obtain ⟨e, r, c1, h1, h2, h3⟩ := h
    obtain ⟨L, hL⟩ := ih c1 h3
    exact ⟨_, e, r, c1, L, h1, h2, hL, rfl⟩
theorem pe_cons {n : Nat} {e : wk_E} {r : List wk_E} {s : gm_S} {d : gm_C} {L : List (Int × Int)} (h : pe_to st ev (n + 1) (e :: r, s) d L) : ∃ c1 L1, st e r s = some c1 ∧ pe_to st ev n c1 d L1 ∧ L = ev e s ++ L1 := by
  obtain ⟨e', r', c1, L1, h1, h2, h3, h4⟩ := h
  injection h1 with h5 h6
  subst h5
  subst h6
  exact ⟨c1, L1, h2, h3, h4⟩
theorem pe_app {b d : gm_C} {m : Nat} {K : List (Int × Int)} (h2 : pe_to st ev m b d K) : ∀ (n : Nat) (a : gm_C) (L : List (Int × Int)), pe_to st ev n a b L → pe_to st ev (n + m) a d (L ++ K) := by
  intro n
  induction n with
  | zero =>
    intro a L h
    obtain ⟨h, k⟩ := h
    subst h
    subst k
    rw [Nat.zero_add]
    exact h2
  | succ n ih =>
    intro a L h
    obtain ⟨e, r, c1, L1, h3, h4, h5, h6⟩ := h
    subst h6
    rw [Nat.succ_add, List.append_assoc]
    exact ⟨e, r, c1, L1 ++ K, h3, h4, ih c1 L1 h5, rfl⟩
theorem pe_one {e : wk_E} {r : List wk_E} {s : gm_S} {c : gm_C} (h : st e r s = some c) : pe_to st ev 1 (e :: r, s) c (ev e s) := ⟨e, r, c, [], rfl, h, ⟨rfl, rfl⟩, (List.append_nil _).symm⟩
/-- what is told from the begin to the end is one thing -/
theorem pe_u {s s' : gm_S} : ∀ (n m : Nat) (a : gm_C) (L K : List (Int × Int)), pe_to st ev n a ([], s) L → pe_to st ev m a ([], s') K → n = m ∧ s = s' ∧ L = K := by
  intro n
  induction n with
  | zero =>
    intro m a L K h1 h2
    obtain ⟨h1, k1⟩ := h1
    subst h1
    cases m with
    | zero =>
      obtain ⟨h2, k2⟩ := h2
      exact ⟨rfl, (Prod.mk.inj h2).2, by rw [k1, k2]⟩
    | succ m =>
      obtain ⟨e, r, c1, L1, x, -⟩ := h2
      cases x
  | succ n ih =>
    intro m a L K h1 h2
    obtain ⟨e, r, c1, L1, x1, x2, x3, x4⟩ := h1
    cases m with
    | zero =>
      obtain ⟨h2, -⟩ := h2
      rw [h2] at x1
      cases x1
    | succ m =>
      obtain ⟨e', r', c1', L1', y1, y2, y3, y4⟩ := h2
      rw [x1] at y1
      injection y1 with y5 y6
      subst y5
      subst y6
      rw [x2] at y2
      injection y2 with y2
      subst y2
      obtain ⟨i1, i2, i3⟩ := ih m c1 L1 L1' x3 y3
      exact ⟨by omega, i2, by rw [x4, y4, i3]⟩
end PE0
section PE1
variable {st : Int → wk_E → List wk_E → gm_S → Option gm_C} {ev : wk_E → gm_S → List (Int × Int)}
theorem pe_split0 (hl : pw_loc st) {l : Int} {q : List wk_E} {s' : gm_S} : ∀ (n : Nat) (A : List wk_E) (s : gm_S) (L : List (Int × Int)), pe_to (st l) ev n (A ++ q, s) ([], s') L → ∃ n1 s1 L1 L2, n1 ≤ n ∧ pe_to (st (l + wk_ul q)) ev n1 (A, s) ([], s1) L1 ∧ pe_to (st l) ev (n - n1) (q, s1) ([], s') L2 ∧ L = L1 ++ L2 := by
  intro n
  induction n with
  | zero =>
    intro A s L h
    obtain ⟨h, k⟩ := h
    have hA : A ++ q = [] := (Prod.mk.inj h).1
    obtain ⟨a1, a2⟩ := List.append_eq_nil_iff.mp hA
    subst a1
    exact ⟨0, s, [], L, Nat.le_refl _, ⟨rfl, rfl⟩, ⟨h, k⟩, rfl⟩
  | succ n ih =>
    intro A s L h
    cases A with
    | nil => exact ⟨0, s, [], L, Nat.zero_le _, ⟨rfl, rfl⟩, h, rfl⟩
    | cons e r =>
      obtain ⟨c1, L1, h2, h3, h4⟩ := pe_cons (show pe_to (st l) ev (n + 1) (e :: (r ++ q), s) ([], s') L from h)
      rw [hl] at h2
      obtain ⟨c0, k1, k2⟩ := Option.map_eq_some_iff.mp h2
      subst k2
      obtain ⟨n1, s1, M1, M2, i1, i2, i3, i4⟩ := ih c0.1 c0.2 L1 h3
      refine ⟨n1 + 1, s1, ev e s ++ M1, M2, by omega, ⟨e, r, c0, M1, rfl, k1, i2, rfl⟩, ?_, by rw [h4, i4, List.append_assoc]⟩
      rwa [show n + 1 - (n1 + 1) = n - n1 from by omega]
end PE1
