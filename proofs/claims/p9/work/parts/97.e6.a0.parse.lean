/-! WALKS by turns, whatever a turn is; THE WALK THAT PARSES, purely and exactly: of a state the second is the place of the next token here -/
def pw_to (st : wk_E → List wk_E → gm_S → Option gm_C) : Nat → gm_C → gm_C → Prop
  | 0, c, d => c = d
  | n + 1, c, d => ∃ e r c1, c.1 = e :: r ∧ st e r c.2 = some c1 ∧ pw_to st n c1 d
section PW0
variable {st : wk_E → List wk_E → gm_S → Option gm_C}
theorem pw_app {b d : gm_C} {m : Nat} (h2 : pw_to st m b d) : ∀ (n : Nat) (a : gm_C), pw_to st n a b → pw_to st (n + m) a d := by
  intro n
  induction n with
  | zero => intro a h; have h : a = b := h; rw [h, Nat.zero_add]; exact h2
  | succ n ih =>
    intro a h
    obtain ⟨e, r, c1, h3, h4, h5⟩ := h
    rw [Nat.succ_add]
    exact ⟨e, r, c1, h3, h4, ih c1 h5⟩
theorem pw_one {e : wk_E} {r : List wk_E} {s : gm_S} {c : gm_C} (h : st e r s = some c) : pw_to st 1 (e :: r, s) c := ⟨e, r, c, rfl, h, rfl⟩
theorem pw_det {b d : gm_C} : ∀ (n m : Nat) (a : gm_C), pw_to st n a b → pw_to st m a d → n ≤ m → pw_to st (m - n) b d := by
  intro n
  induction n with
  | zero => intro m a h1 h2 _; have h1 : a = b := h1; rw [← h1]; exact h2
  | succ n ih =>
    intro m a h1 h2 h3
    obtain ⟨e, r, c1, k1, k2, k3⟩ := h1
    cases m with
    | zero => exact absurd h3 (by omega)
    | succ m =>
      obtain ⟨e', r', c1', l1, l2, l3⟩ := h2
      rw [k1] at l1
      injection l1 with l4 l5
      rw [← l4, ← l5, k2] at l2
      injection l2 with l6
      rw [← l6] at l3
      have := ih m c1 k3 l3 (by omega)
      rwa [show m + 1 - (n + 1) = m - n from by omega]
/-- a turn from a state -/
theorem pw_cons {n : Nat} {e : wk_E} {r : List wk_E} {s : gm_S} {d : gm_C} (h : pw_to st (n + 1) (e :: r, s) d) : ∃ c1, st e r s = some c1 ∧ pw_to st n c1 d := by
  obtain ⟨e', r', c1, h1, h2, h3⟩ := h
  injection h1 with h4 h5
  subst h4
  subst h5
  exact ⟨c1, h2, h3⟩
theorem pw_end {s : gm_S} {d : gm_C} : ∀ n : Nat, pw_to st n ([], s) d → n = 0 ∧ d = ([], s) := by
  intro n h
  cases n with
  | zero => exact ⟨rfl, (show ([], s) = d from h).symm⟩
  | succ n =>
    obtain ⟨e, r, c1, h1, -⟩ := h
    cases h1
theorem pw_0 {e : wk_E} {r : List wk_E} {s s' : gm_S} (h : pw_to st 0 (e :: r, s) ([], s')) : False := by
  have h : ((e :: r, s) : gm_C) = ([], s') := h
  cases h
end PW0
theorem wk_ul_a : ∀ (r q : List wk_E), wk_ul (r ++ q) = wk_ul r + wk_ul q := by
  intro r q
  induction r with
  | nil => show wk_ul q = 0 + wk_ul q; omega
  | cons e r ih =>
    obtain ⟨a, b, c⟩ := e
    show wk_ul ((a, b, c) :: (r ++ q)) = _
    by_cases h : a = 2
    · subst h
      rw [wk_ul_o, wk_ul_o, ih]
      omega
    · rw [wk_ul_c h, wk_ul_c h, ih]
/-- a turn looks at the top alone (and at how many uses are below) -/
def pw_loc (st : Int → wk_E → List wk_E → gm_S → Option gm_C) : Prop := ∀ (l : Int) (e : wk_E) (r q : List wk_E) (s : gm_S), st l e (r ++ q) s = (st (l + wk_ul q) e r s).map (fun c => (c.1 ++ q, c.2))
section PW1
variable {st : Int → wk_E → List wk_E → gm_S → Option gm_C}
theorem pw_lift (hl : pw_loc st) {l : Int} {q : List wk_E} {d : gm_C} : ∀ (n : Nat) (c : gm_C), pw_to (st (l + wk_ul q)) n c d → pw_to (st l) n (c.1 ++ q, c.2) (d.1 ++ q, d.2) := by
  intro n
  induction n with
  | zero => intro c h; have h : c = d := h; rw [h]; rfl
  | succ n ih =>
    intro c h
    obtain ⟨e, r, c1, h1, h2, h3⟩ := h
    refine ⟨e, r ++ q, (c1.1 ++ q, c1.2), by rw [h1]; rfl, ?_, ih c1 h3⟩
    rw [hl, h2]
    rfl
/-- a run over a stack that stands on another one: it stays above, or it comes down to it -/
theorem pw_split (hl : pw_loc st) {l : Int} {q : List wk_E} {d : gm_C} : ∀ (n : Nat) (c : gm_C), pw_to (st l) n (c.1 ++ q, c.2) d → (∃ B s', d = (B ++ q, s') ∧ B ≠ [] ∧ pw_to (st (l + wk_ul q)) n c (B, s')) ∨ ∃ n1 s1, n1 ≤ n ∧ pw_to (st (l + wk_ul q)) n1 c ([], s1) ∧ pw_to (st l) (n - n1) (q, s1) d := by
  intro n
  induction n with
  | zero =>
    intro c h
    have h : (c.1 ++ q, c.2) = d := h
    obtain ⟨A, s⟩ := c
    by_cases cA : A = []
    · refine Or.inr ⟨0, s, Nat.le_refl _, by rw [cA]; rfl, ?_⟩
      rw [cA] at h
      exact h
    · exact Or.inl ⟨A, s, h.symm, cA, rfl⟩
  | succ n ih =>
    intro c h
    obtain ⟨A, s⟩ := c
    cases A with
    | nil => exact Or.inr ⟨0, s, Nat.zero_le _, rfl, h⟩
    | cons e r =>
      obtain ⟨c1, h2, h3⟩ := pw_cons (show pw_to (st l) (n + 1) (e :: (r ++ q), s) d from h)
      rw [hl] at h2
      obtain ⟨c0, k1, k2⟩ := Option.map_eq_some_iff.mp h2
      subst k2
      rcases ih c0 h3 with ⟨B, s', i1, i2, i3⟩ | ⟨n1, s1, i1, i2, i3⟩
      · exact Or.inl ⟨B, s', i1, i2, e, r, c0, rfl, k1, i3⟩
      · refine Or.inr ⟨n1 + 1, s1, by omega, ⟨e, r, c0, rfl, k1, i2⟩, ?_⟩
        rwa [show n + 1 - (n1 + 1) = n - n1 from by omega]
/-- .. to the end -/
theorem pw_split0 (hl : pw_loc st) {l : Int} {q : List wk_E} {s' : gm_S} {n : Nat} {A : List wk_E} {s : gm_S} (h : pw_to (st l) n (A ++ q, s) ([], s')) : ∃ n1 s1, n1 ≤ n ∧ pw_to (st (l + wk_ul q)) n1 (A, s) ([], s1) ∧ pw_to (st l) (n - n1) (q, s1) ([], s') := by
  rcases pw_split hl n (A, s) h with ⟨B, s2, i1, i2, -⟩ | h
  · injection i1 with i1 _
    exact absurd (List.append_eq_nil_iff.mp i1.symm).1 i2
  · exact h
end PW1
/-- kinds and values of the tokens; whether a kind is among the starts of a unit; among the directors of a form's alternative -/
abbrev pm_E : Type := (Int → Int) × (Int → Int) × (Int → Int → Bool) × (Int → Int → Int → Bool)
def pm_K (E : pm_E) (s : gm_S) : Int := E.1 (gm_F s)
def pm_V (E : pm_E) (s : gm_S) : Int := E.2.1 (gm_F s)
def pm_h (E : pm_E) (u : Int) (s : gm_S) : Bool := E.2.2.1 u (pm_K E s)
/-- the first alternative that is directed to -/
def pm_dr (g : wk_g) (p : Int → Bool) : Nat → Int → Int → Option Int
  | 0, _, _ => none
  | m + 1, a, n => if p a = true then some n else pm_dr g p m (g 128 a.toNat) (n + 1)
def pm_nx (s : gm_S) : gm_S := (gm_X s, gm_F s + 1, gm_T s, gm_D s, gm_P s)
/-- a node's value becomes one more -/
def pm_up : Nat → List (Int × Int × Int) → List (Int × Int × Int)
  | _, [] => []
  | 0, x :: q => (x.1, x.2.1 + 1, x.2.2) :: q
  | n + 1, x :: q => x :: pm_up n q
def pm_inc (a : Int) (s : gm_S) : gm_S := (gm_X s, gm_F s, pm_up a.toNat (gm_T s), gm_D s, gm_P s)
def pm_en (l : Int) (g : wk_g) (i : Int) (r : List wk_E) (s : gm_S) : Option gm_C :=
  if 12 ≤ l + wk_ul r then none else (gm_c 1 i s).map (fun t => ((1, g 114 i.toNat, 0) :: (2, 1, 0) :: r, gm_d t))
/-- what has no form: its sort, what it is -/
def pm_lf (E : pm_E) (o w : Int) (s : gm_S) : Option gm_S :=
  if o = 1 then (if pm_K E s = 1 then (gm_c 2 ((pm_V E s + w) % 10000) s).map pm_nx else none)
  else if o = 2 then (if pm_K E s = 2 then (gm_c 3 (pm_V E s) s).map pm_nx else none)
  else if o = 8 then (if 0 ≤ w ∧ pm_K E s = 3 + w then some (pm_nx s) else none)
  else some s
def pm_sg (l : Int) (g : wk_g) (E : pm_E) (u : Int) (r : List wk_E) (s : gm_S) : Option gm_C :=
  if g 119 u.toNat = 9 then pm_en l g (g 115 (g 120 u.toNat).toNat) r s
  else if g 119 u.toNat = 10 then some ((1, g 120 u.toNat, 0) :: r, s)
  else (pm_lf E (g 119 u.toNat) (g 120 u.toNat) s).map (fun t => (r, t))
def pm_u (l : Int) (g : wk_g) (E : pm_E) (u : Int) (r : List wk_E) (s : gm_S) : Option gm_C :=
  if g 122 u.toNat = 1 then (gm_c 5 0 s).map (fun t => ((5, u, gm_len s) :: (2, 0, 0) :: r, gm_d t))
  else if g 122 u.toNat = 2 then (gm_c 6 (if pm_h E u s = true then 1 else 0) s).bind (fun t => if pm_h E u s = true then pm_sg l g E u ((2, 0, 0) :: r) (gm_d t) else some ((2, 0, 0) :: r, gm_d t))
  else pm_sg l g E u r s
def pm_w (g : wk_g) (E : pm_E) (f : Int) (s : gm_S) : Option Int := pm_dr g (fun a => E.2.2.2 f a (pm_K E s)) (g 130 f.toNat).toNat (g 129 f.toNat) 0
def pm_fo (g : wk_g) (E : pm_E) (f : Int) (r : List wk_E) (s : gm_S) : Option gm_C :=
  if 1 < g 130 f.toNat then (pm_w g E f s).bind (fun n => (gm_c 4 n s).map (fun t => (wk_it g 61 (g 126 (wk_alt g n.toNat (g 129 f.toNat)).toNat) ++ (2, 0, 0) :: r, gm_d t)))
  else some (wk_it g 61 (g 126 (g 129 f.toNat).toNat) ++ r, s)
def pm_ag (l : Int) (g : wk_g) (E : pm_E) (u a : Int) (r : List wk_E) (s : gm_S) : Option gm_C := if pm_h E u s = true then pm_sg l g E u ((5, u, a) :: r) (pm_inc a s) else some (r, s)
def pm_st (g : wk_g) (E : pm_E) (l : Int) (e : wk_E) (r : List wk_E) (s : gm_S) : Option gm_C :=
  if e.1 = 0 then pm_u l g E e.2.1 r (gm_op e.2.2 s)
  else if e.1 = 1 then pm_fo g E e.2.1 r s
  else if e.1 = 5 then pm_ag l g E e.2.1 e.2.2 r s
  else if e.1 = 2 then some (r, (gm_X s, gm_F s, gm_T s, gm_D s - 1, gm_P s))
  else if e.1 = 3 then some (r, gm_mid s)
  else some (r, gm_tu s)
section PM0
variable {g : wk_g} {E : pm_E} {l : Int} {r q : List wk_E} {s : gm_S}
theorem pm_st_0 {u o : Int} : pm_st g E l (0, u, o) r s = pm_u l g E u r (gm_op o s) := by
  unfold pm_st
  rw [if_pos rfl]
theorem pm_st_1 {f a : Int} : pm_st g E l (1, f, a) r s = pm_fo g E f r s := by
  unfold pm_st
  rw [if_neg (show ¬ (1 : Int) = 0 by decide), if_pos rfl]
theorem pm_st_5 {u a : Int} : pm_st g E l (5, u, a) r s = pm_ag l g E u a r s := by
  unfold pm_st
  rw [if_neg (show ¬ (5 : Int) = 0 by decide), if_neg (show ¬ (5 : Int) = 1 by decide), if_pos rfl]
theorem pm_st_2 {u a : Int} : pm_st g E l (2, u, a) r s = some (r, (gm_X s, gm_F s, gm_T s, gm_D s - 1, gm_P s)) := by
  unfold pm_st
  rw [if_neg (show ¬ (2 : Int) = 0 by decide), if_neg (show ¬ (2 : Int) = 1 by decide), if_neg (show ¬ (2 : Int) = 5 by decide), if_pos rfl]
theorem pm_st_3 {u a : Int} : pm_st g E l (3, u, a) r s = some (r, gm_mid s) := by
  unfold pm_st
  rw [if_neg (show ¬ (3 : Int) = 0 by decide), if_neg (show ¬ (3 : Int) = 1 by decide), if_neg (show ¬ (3 : Int) = 5 by decide), if_neg (show ¬ (3 : Int) = 2 by decide), if_pos rfl]
theorem pm_st_4 {u a : Int} : pm_st g E l (4, u, a) r s = some (r, gm_tu s) := by
  unfold pm_st
  rw [if_neg (show ¬ (4 : Int) = 0 by decide), if_neg (show ¬ (4 : Int) = 1 by decide), if_neg (show ¬ (4 : Int) = 5 by decide), if_neg (show ¬ (4 : Int) = 2 by decide), if_neg (show ¬ (4 : Int) = 3 by decide)]
theorem pm_en_loc {i : Int} : pm_en l g i (r ++ q) s = (pm_en (l + wk_ul q) g i r s).map (fun c => (c.1 ++ q, c.2)) := by
  unfold pm_en
  rw [wk_ul_a]
  by_cases c : 12 ≤ l + (wk_ul r + wk_ul q)
  · rw [if_pos c, if_pos (by omega)]
    rfl
  · rw [if_neg c, if_neg (by omega)]
    cases gm_c 1 i s with
    | none => rfl
    | some t => rfl
theorem pm_sg_loc {u : Int} : pm_sg l g E u (r ++ q) s = (pm_sg (l + wk_ul q) g E u r s).map (fun c => (c.1 ++ q, c.2)) := by
  unfold pm_sg
  by_cases c9 : g 119 u.toNat = 9
  · rw [if_pos c9, if_pos c9]
    exact pm_en_loc
  · rw [if_neg c9, if_neg c9]
    by_cases c10 : g 119 u.toNat = 10
    · rw [if_pos c10, if_pos c10]
      rfl
    · rw [if_neg c10, if_neg c10]
      cases pm_lf E (g 119 u.toNat) (g 120 u.toNat) s with
      | none => rfl
      | some t => rfl
theorem pm_u_loc {u : Int} : pm_u l g E u (r ++ q) s = (pm_u (l + wk_ul q) g E u r s).map (fun c => (c.1 ++ q, c.2)) := by
  unfold pm_u
  by_cases c1 : g 122 u.toNat = 1
  · rw [if_pos c1, if_pos c1]
    cases gm_c 5 0 s with
    | none => rfl
    | some t => rfl
  · rw [if_neg c1, if_neg c1]
    by_cases c2 : g 122 u.toNat = 2
    · rw [if_pos c2, if_pos c2]
      cases gm_c 6 (if pm_h E u s = true then 1 else 0) s with
      | none => rfl
      | some t =>
        show (if pm_h E u s = true then pm_sg l g E u ((2, 0, 0) :: (r ++ q)) (gm_d t) else some ((2, 0, 0) :: (r ++ q), gm_d t)) = Option.map _ (if pm_h E u s = true then pm_sg (l + wk_ul q) g E u ((2, 0, 0) :: r) (gm_d t) else some ((2, 0, 0) :: r, gm_d t))
        by_cases ch : pm_h E u s = true
        · rw [if_pos ch, if_pos ch]
          exact pm_sg_loc (r := (2, 0, 0) :: r)
        · rw [if_neg ch, if_neg ch]
          rfl
    · rw [if_neg c2, if_neg c2]
      exact pm_sg_loc
theorem pm_loc : pw_loc (pm_st g E) := by
  intro l e r q s
  unfold pm_st
  by_cases c0 : e.1 = 0
  · rw [if_pos c0, if_pos c0]
    exact pm_u_loc
  · rw [if_neg c0, if_neg c0]
    by_cases c1 : e.1 = 1
    · rw [if_pos c1, if_pos c1]
      unfold pm_fo
      by_cases c2 : 1 < g 130 e.2.1.toNat
      · rw [if_pos c2, if_pos c2]
        cases pm_w g E e.2.1 s with
        | none => rfl
        | some n =>
          show Option.map _ (gm_c 4 n s) = Option.map _ (Option.map _ (gm_c 4 n s))
          cases gm_c 4 n s with
          | none => rfl
          | some t =>
            dsimp only [Option.map]
            rw [List.append_assoc]
            rfl
      · rw [if_neg c2, if_neg c2]
        dsimp only [Option.map]
        rw [List.append_assoc]
    · rw [if_neg c1, if_neg c1]
      by_cases c5 : e.1 = 5
      · rw [if_pos c5, if_pos c5]
        unfold pm_ag
        by_cases ch : pm_h E e.2.1 s = true
        · rw [if_pos ch, if_pos ch]
          exact pm_sg_loc (r := (5, e.2.1, e.2.2) :: r)
        · rw [if_neg ch, if_neg ch]
          rfl
      · rw [if_neg c5, if_neg c5]
        by_cases c2 : e.1 = 2
        · rw [if_pos c2, if_pos c2]
          rfl
        · rw [if_neg c2, if_neg c2]
          by_cases c3 : e.1 = 3
          · rw [if_pos c3, if_pos c3]
            rfl
          · rw [if_neg c3, if_neg c3]
            rfl
end PM0
