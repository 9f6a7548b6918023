/-! grow of the class, exactly -/
def gt_W : List (Nat × Nat) := [(12032, 12033), (12160, 12161), (12288, 12289), (12416, 12417)]
section GCX
variable {d : Nat} {h : sm_H}
theorem me_gtake (hS0 : ab_Sh sx_sk h) (n0 : 0 ≤ mi_f h 13056) (n1 : mi_f h 13056 ≤ 100) : me_E (d + 2) 93 0 [some (.inr (.inr 94)), some (.inr (.inr 102)), none] [] h (fun w h' => w = none ∧ ab_Sh sx_sk h' ∧ ab_Fr gt_W h h' ∧ mi_f h' 12032 = mi_f h 13056 ∧ ∀ i : Nat, (i : Int) < mi_f h 13056 → mi_a h' 95 i = mi_a h 103 i ∧ mi_a h' 96 i = mi_a h 104 i ∧ mi_a h' 97 i = mi_a h 105 i) := by
  have main : ∀ (N : Nat) (zk : Int) (h1 : sm_H), mi_f h 13056 - zk < N → 0 ≤ zk → zk ≤ mi_f h 13056 → ab_Sh sx_sk h1 → ab_Fr gt_W h h1 → mi_f h1 12032 = mi_f h 13056 → (∀ i : Nat, (i : Int) < zk → mi_a h1 95 i = mi_a h 103 i ∧ mi_a h1 96 i = mi_a h 104 i ∧ mi_a h1 97 i = mi_a h 105 i) → me_E (d + 2) 93 10 [some (.inr (.inr 94)), some (.inr (.inr 102)), some (.inl zk)] [] h1 (fun w h' => w = none ∧ ab_Sh sx_sk h' ∧ ab_Fr gt_W h h' ∧ mi_f h' 12032 = mi_f h 13056 ∧ ∀ i : Nat, (i : Int) < mi_f h 13056 → mi_a h' 95 i = mi_a h 103 i ∧ mi_a h' 96 i = mi_a h 104 i ∧ mi_a h' 97 i = mi_a h 105 i) := by
    intro N
    induction N with
    | zero => intro zk h1 hN _ _; exfalso; omega
    | succ N ih =>
      intro zk h1 hN k0 k1 hS hF hn hi
      refine mt_khtB hS ⟨by omega, by omega⟩ ?_ (fun _ _ c => by exfalso; omega) (fun _ c1 _ c => by exfalso; omega) ?_
      · intro b c h2 g1 g2
        have e2 := me_nil g2
        subst e2
        exact ⟨rfl, hS, hF, hn, fun i hi2 => hi i (by omega)⟩
      · intro b c c1 c2
        refine ⟨⟨⟨by omega, by omega⟩, by omega, by omega⟩, fun h2 g1 g2 g3 g4 g5 => ?_⟩
        refine ih (zk + 1) h2 (by omega) (by omega) (by omega) g1 (hF.trans (g5.wide (fun c hc => ab_swr_ok (by decide) hc))) ((me_f (c := 12032) g5 hS rfl rfl).trans hn) (fun i hi2 => ?_)
        rw [g2, g3, g4]
        by_cases e : i = zk.toNat
        · rw [if_pos e, if_pos e, if_pos e, me_a (k := 103) hF hS0 rfl rfl, me_a (k := 104) hF hS0 rfl rfl, me_a (k := 105) hF hS0 rfl rfl, e]
          exact ⟨rfl, rfl, rfl⟩
        · rw [if_neg e, if_neg e, if_neg e]
          exact hi i (by omega)
  refine mt_khtA hS0 ?_
  intro h1 g1 g2 g3
  exact main 200 0 h1 (by omega) (by decide) (by omega) g1 (g3.wide (fun c hc => ab_swr_ok (by decide) hc)) g2 (fun i hi => by exfalso; omega)
/-- what grow may write -/
def gc_W : List (Nat × Nat) := [(12032, 12033), (12160, 12161), (12288, 12289), (12416, 12417), (13056, 13057), (13184, 13185), (13312, 13313), (13440, 13441), (13699, 13704)]
/-- from where it goes -/
def gc_0 (g : wk_g) (zx : Int64) (zf : Int) : Option gm_C := gm_en g 0 [] (zx, zf, [], 0, [])
/-- what is answered; the tree -/
def gc_R (h : sm_H) (T : List (Int × Int × Int)) : Prop := mi_f h 12032 = (T.length : Int) ∧ ∀ k : Nat, k < T.length → ∃ l q, T[k]? = some (mi_a h 95 k + 10 * q, mi_a h 96 k, l) ∧ 0 ≤ mi_a h 95 k ∧ mi_a h 95 k < 10
/-- what the tree holds, with the sizes -/
def gc_S (h : sm_H) (T : List (Int × Int × Int)) : Prop := gc_R h T ∧ fo 0 T ∧ ∀ k : Nat, k < T.length → (sz T)[k]? = some (mi_a h 97 k)
def gc_Q (h : sm_H) (zx : Int64) (zf : Int) (w : Option mi_V) (h' : sm_H) : Prop := ab_Sh sx_sk h' ∧ ab_Fr gc_W h h' ∧ (0 ≤ zf ∧ zf ≤ 20) ∧ mi_f h 6543 ≠ 0 ∧ ∃ s', gm_RO (mi_a h) (gx_k h) (gc_0 (mi_a h) zx zf) ([], s') ∧ w = some (.inl ((gm_T s').length : Int)) ∧ (gm_T s').length ≤ 100 ∧ gc_S h' (gm_T s')
end GCX
/-! WALKS by turns, whatever a turn is; THE WALK THAT PARSES, purely and exactly: of a state the second is the place of the next token here -/
def pw_to (st : wk_E → List wk_E → gm_S → Option gm_C) : Nat → gm_C → gm_C → Prop
  | 0, c, d => c = d
  | n + 1, c, d => ∃ e r c1, c.1 = e :: r ∧ st e r c.2 = some c1 ∧ pw_to st n c1 d
section PW0
variable {st : wk_E → List wk_E → gm_S → Option gm_C}
theorem pw_app {b d : gm_C} {m : Nat} (h2 : pw_to st m b d) : ∀ (n : Nat) (a : gm_C), pw_to st n a b → pw_to st (n + m) a d := by
  intro n
  induction n with
  | zero => intro a h; have h : a = b := h; rw [h, Nat.zero_add]; exact h2
  | succ n ih =>
    intro a h
    obtain ⟨e, r, c1, h3, h4, h5⟩ := h
    rw [Nat.succ_add]
    exact ⟨e, r, c1, h3, h4, ih c1 h5⟩
theorem pw_one {e : wk_E} {r : List wk_E} {s : gm_S} {c : gm_C} (h : st e r s = some c) : pw_to st 1 (e :: r, s) c := ⟨e, r, c, rfl, h, rfl⟩
theorem pw_det {b d : gm_C} : ∀ (n m : Nat) (a : gm_C), pw_to st n a b → pw_to st m a d → n ≤ m → pw_to st (m - n) b d := by
  intro n
  induction n with
  | zero => intro m a h1 h2 _; have h1 : a = b := h1; rw [← h1]; exact h2
  | succ n ih =>
    intro m a h1 h2 h3
    obtain ⟨e, r, c1, k1, k2, k3⟩ := h1
    cases m with
    | zero => exact absurd h3 (by omega)
    | succ m =>
      obtain ⟨e', r', c1', l1, l2, l3⟩ := h2
      rw [k1] at l1
      injection l1 with l4 l5
      rw [← l4, ← l5, k2] at l2
      injection l2 with l6
      rw [← l6] at l3
      have := ih m c1 k3 l3 (by omega)
      rwa [show m + 1 - (n + 1) = m - n from by omega]
/-- a turn from a state -/
theorem pw_cons {n : Nat} {e : wk_E} {r : List wk_E} {s : gm_S} {d : gm_C} (h : pw_to st (n + 1) (e :: r, s) d) : ∃ c1, st e r s = some c1 ∧ pw_to st n c1 d := by
  obtain ⟨e', r', c1, h1, h2, h3⟩ := h
  injection h1 with h4 h5
  subst h4
  subst h5
  exact ⟨c1, h2, h3⟩
theorem pw_end {s : gm_S} {d : gm_C} : ∀ n : Nat, pw_to st n ([], s) d → n = 0 ∧ d = ([], s) := by
  intro n h
  cases n with
  | zero => exact ⟨rfl, (show ([], s) = d from h).symm⟩
  | succ n =>
    obtain ⟨e, r, c1, h1, -⟩ := h
    cases h1
theorem pw_0 {e : wk_E} {r : List wk_E} {s s' : gm_S} (h : pw_to st 0 (e :: r, s) ([], s')) : False := by
  have h : ((e :: r, s) : gm_C) = ([], s') := h
  cases h
end PW0
theorem wk_ul_a : ∀ (r q : List wk_E), wk_ul (r ++ q) = wk_ul r + wk_ul q := by
  intro r q
  induction r with
  | nil => show wk_ul q = 0 + wk_ul q; omega
  | cons e r ih =>
    obtain ⟨a, b, c⟩ := e
    show wk_ul ((a, b, c) :: (r ++ q)) = _
    by_cases h : a = 2
    · subst h
      rw [wk_ul_o, wk_ul_o, ih]
      omega
    · rw [wk_ul_c h, wk_ul_c h, ih]
/-- a turn looks at the top alone (and at how many uses are below) -/
def pw_loc (st : Int → wk_E → List wk_E → gm_S → Option gm_C) : Prop := ∀ (l : Int) (e : wk_E) (r q : List wk_E) (s : gm_S), st l e (r ++ q) s = (st (l + wk_ul q) e r s).map (fun c => (c.1 ++ q, c.2))
section PW1
variable {st : Int → wk_E → List wk_E → gm_S → Option gm_C}
/-- a run over a stack that stands on another one: it stays above, or it comes down to it -/
theorem pw_split (hl : pw_loc st) {l : Int} {q : List wk_E} {d : gm_C} : ∀ (n : Nat) (c : gm_C), pw_to (st l) n (c.1 ++ q, c.2) d → (∃ B s', d = (B ++ q, s') ∧ B ≠ [] ∧ pw_to (st (l + wk_ul q)) n c (B, s')) ∨ ∃ n1 s1, n1 ≤ n ∧ pw_to (st (l + wk_ul q)) n1 c ([], s1) ∧ pw_to (st l) (n - n1) (q, s1) d := by
  intro n
  induction n with
  | zero =>
    intro c h
    have h : (c.1 ++ q, c.2) = d := h
    obtain ⟨A, s⟩ := c
    by_cases cA : A = []
    · refine Or.inr ⟨0, s, Nat.le_refl _, by rw [cA]; rfl, ?_⟩
      rw [cA] at h
      exact h
    · exact Or.inl ⟨A, s, h.symm, cA, rfl⟩
  | succ n ih =>
    intro c h
    obtain ⟨A, s⟩ := c
    cases A with
    | nil => exact Or.inr ⟨0, s, Nat.zero_le _, rfl, h⟩
    | cons e r =>
      obtain ⟨c1, h2, h3⟩ := pw_cons (show pw_to (st l) (n + 1) (e :: (r ++ q), s) d from h)
      rw [hl] at h2
      obtain ⟨c0, k1, k2⟩ := Option.map_eq_some_iff.mp h2
      subst k2
      rcases ih c0 h3 with ⟨B, s', i1, i2, i3⟩ | ⟨n1, s1, i1, i2, i3⟩
      · exact Or.inl ⟨B, s', i1, i2, e, r, c0, rfl, k1, i3⟩
      · refine Or.inr ⟨n1 + 1, s1, by omega, ⟨e, r, c0, rfl, k1, i2⟩, ?_⟩
        rwa [show n + 1 - (n1 + 1) = n - n1 from by omega]
/-- .. to the end -/
theorem pw_split0 (hl : pw_loc st) {l : Int} {q : List wk_E} {s' : gm_S} {n : Nat} {A : List wk_E} {s : gm_S} (h : pw_to (st l) n (A ++ q, s) ([], s')) : ∃ n1 s1, n1 ≤ n ∧ pw_to (st (l + wk_ul q)) n1 (A, s) ([], s1) ∧ pw_to (st l) (n - n1) (q, s1) ([], s') := by
  rcases pw_split hl n (A, s) h with ⟨B, s2, i1, i2, -⟩ | h
  · injection i1 with i1 _
    exact absurd (List.append_eq_nil_iff.mp i1.symm).1 i2
  · exact h
end PW1
/-- kinds and values of the tokens; whether a kind is among the starts of a unit; among the directors of a form's alternative -/
abbrev pm_E : Type := (Int → Int) × (Int → Int) × (Int → Int → Bool) × (Int → Int → Int → Bool)
def pm_K (E : pm_E) (s : gm_S) : Int := E.1 (gm_F s)
def pm_V (E : pm_E) (s : gm_S) : Int := E.2.1 (gm_F s)
def pm_h (E : pm_E) (u : Int) (s : gm_S) : Bool := E.2.2.1 u (pm_K E s)
/-- the first alternative that is directed to -/
def pm_dr (g : wk_g) (p : Int → Bool) : Nat → Int → Int → Option Int
  | 0, _, _ => none
  | m + 1, a, n => if p a = true then some n else pm_dr g p m (g 128 a.toNat) (n + 1)
def pm_nx (s : gm_S) : gm_S := (gm_X s, gm_F s + 1, gm_T s, gm_D s, gm_P s)
/-- a node's value becomes one more -/
def pm_up : Nat → List (Int × Int × Int) → List (Int × Int × Int)
  | _, [] => []
  | 0, x :: q => (x.1, x.2.1 + 1, x.2.2) :: q
  | n + 1, x :: q => x :: pm_up n q
def pm_inc (a : Int) (s : gm_S) : gm_S := (gm_X s, gm_F s, pm_up a.toNat (gm_T s), gm_D s, gm_P s)
def pm_en (l : Int) (g : wk_g) (i : Int) (r : List wk_E) (s : gm_S) : Option gm_C :=
  if 12 ≤ l + wk_ul r then none else (gm_c 1 i s).map (fun t => ((1, g 114 i.toNat, 0) :: (2, 1, 0) :: r, gm_d t))
/-- what has no form: its sort, what it is -/
def pm_lf (E : pm_E) (o w : Int) (s : gm_S) : Option gm_S :=
  if o = 1 then (if pm_K E s = 1 then (gm_c 2 ((pm_V E s + w) % 10000) s).map pm_nx else none)
  else if o = 2 then (if pm_K E s = 2 then (gm_c 3 (pm_V E s) s).map pm_nx else none)
  else if o = 8 then (if 0 ≤ w ∧ pm_K E s = 3 + w then some (pm_nx s) else none)
  else some s
def pm_sg (l : Int) (g : wk_g) (E : pm_E) (u : Int) (r : List wk_E) (s : gm_S) : Option gm_C :=
  if g 119 u.toNat = 9 then pm_en l g (g 115 (g 120 u.toNat).toNat) r s
  else if g 119 u.toNat = 10 then some ((1, g 120 u.toNat, 0) :: r, s)
  else (pm_lf E (g 119 u.toNat) (g 120 u.toNat) s).map (fun t => (r, t))
def pm_u (l : Int) (g : wk_g) (E : pm_E) (u : Int) (r : List wk_E) (s : gm_S) : Option gm_C :=
  if g 122 u.toNat = 1 then (gm_c 5 0 s).map (fun t => ((5, u, gm_len s) :: (2, 0, 0) :: r, gm_d t))
  else if g 122 u.toNat = 2 then (gm_c 6 (if pm_h E u s = true then 1 else 0) s).bind (fun t => if pm_h E u s = true then pm_sg l g E u ((2, 0, 0) :: r) (gm_d t) else some ((2, 0, 0) :: r, gm_d t))
  else pm_sg l g E u r s
def pm_w (g : wk_g) (E : pm_E) (f : Int) (s : gm_S) : Option Int := pm_dr g (fun a => E.2.2.2 f a (pm_K E s)) (g 130 f.toNat).toNat (g 129 f.toNat) 0
def pm_fo (g : wk_g) (E : pm_E) (f : Int) (r : List wk_E) (s : gm_S) : Option gm_C :=
  if 1 < g 130 f.toNat then (pm_w g E f s).bind (fun n => (gm_c 4 n s).map (fun t => (wk_it g 61 (g 126 (wk_alt g n.toNat (g 129 f.toNat)).toNat) ++ (2, 0, 0) :: r, gm_d t)))
  else some (wk_it g 61 (g 126 (g 129 f.toNat).toNat) ++ r, s)
def pm_ag (l : Int) (g : wk_g) (E : pm_E) (u a : Int) (r : List wk_E) (s : gm_S) : Option gm_C := if pm_h E u s = true then pm_sg l g E u ((5, u, a) :: r) (pm_inc a s) else some (r, s)
def pm_st (g : wk_g) (E : pm_E) (l : Int) (e : wk_E) (r : List wk_E) (s : gm_S) : Option gm_C :=
  if e.1 = 0 then pm_u l g E e.2.1 r (gm_op e.2.2 s)
  else if e.1 = 1 then pm_fo g E e.2.1 r s
  else if e.1 = 5 then pm_ag l g E e.2.1 e.2.2 r s
  else if e.1 = 2 then some (r, (gm_X s, gm_F s, gm_T s, gm_D s - 1, gm_P s))
  else if e.1 = 3 then some (r, gm_mid s)
  else some (r, gm_tu s)
section PM0
variable {g : wk_g} {E : pm_E} {l : Int} {r q : List wk_E} {s : gm_S}
theorem pm_st_0 {u o : Int} : pm_st g E l (0, u, o) r s = pm_u l g E u r (gm_op o s) := by
  unfold pm_st
  rw [if_pos rfl]
theorem pm_st_1 {f a : Int} : pm_st g E l (1, f, a) r s = pm_fo g E f r s := by
  unfold pm_st
  rw [if_neg (show ¬ (1 : Int) = 0 by decide), if_pos rfl]
theorem pm_st_5 {u a : Int} : pm_st g E l (5, u, a) r s = pm_ag l g E u a r s := by
  unfold pm_st
  rw [if_neg (show ¬ (5 : Int) = 0 by decide), if_neg (show ¬ (5 : Int) = 1 by decide), if_pos rfl]
theorem pm_st_2 {u a : Int} : pm_st g E l (2, u, a) r s = some (r, (gm_X s, gm_F s, gm_T s, gm_D s - 1, gm_P s)) := by
  unfold pm_st
  rw [if_neg (show ¬ (2 : Int) = 0 by decide), if_neg (show ¬ (2 : Int) = 1 by decide), if_neg (show ¬ (2 : Int) = 5 by decide), if_pos rfl]
theorem pm_st_3 {u a : Int} : pm_st g E l (3, u, a) r s = some (r, gm_mid s) := by
  unfold pm_st
  rw [if_neg (show ¬ (3 : Int) = 0 by decide), if_neg (show ¬ (3 : Int) = 1 by decide), if_neg (show ¬ (3 : Int) = 5 by decide), if_neg (show ¬ (3 : Int) = 2 by decide), if_pos rfl]
theorem pm_st_4 {u a : Int} : pm_st g E l (4, u, a) r s = some (r, gm_tu s) := by
  unfold pm_st
  rw [if_neg (show ¬ (4 : Int) = 0 by decide), if_neg (show ¬ (4 : Int) = 1 by decide), if_neg (show ¬ (4 : Int) = 5 by decide), if_neg (show ¬ (4 : Int) = 2 by decide), if_neg (show ¬ (4 : Int) = 3 by decide)]
theorem pm_en_loc {i : Int} : pm_en l g i (r ++ q) s = (pm_en (l + wk_ul q) g i r s).map (fun c => (c.1 ++ q, c.2)) := by
  unfold pm_en
  rw [wk_ul_a]
  by_cases c : 12 ≤ l + (wk_ul r + wk_ul q)
  · rw [if_pos c, if_pos (by omega)]
    rfl
  · rw [if_neg c, if_neg (by omega)]
    cases gm_c 1 i s with
    | none => rfl
    | some t => rfl
theorem pm_sg_loc {u : Int} : pm_sg l g E u (r ++ q) s = (pm_sg (l + wk_ul q) g E u r s).map (fun c => (c.1 ++ q, c.2)) := by
  unfold pm_sg
  by_cases c9 : g 119 u.toNat = 9
  · rw [if_pos c9, if_pos c9]
    exact pm_en_loc
  · rw [if_neg c9, if_neg c9]
    by_cases c10 : g 119 u.toNat = 10
    · rw [if_pos c10, if_pos c10]
      rfl
    · rw [if_neg c10, if_neg c10]
      cases pm_lf E (g 119 u.toNat) (g 120 u.toNat) s with
      | none => rfl
      | some t => rfl
theorem pm_u_loc {u : Int} : pm_u l g E u (r ++ q) s = (pm_u (l + wk_ul q) g E u r s).map (fun c => (c.1 ++ q, c.2)) := by
  unfold pm_u
  by_cases c1 : g 122 u.toNat = 1
  · rw [if_pos c1, if_pos c1]
    cases gm_c 5 0 s with
    | none => rfl
    | some t => rfl
  · rw [if_neg c1, if_neg c1]
    by_cases c2 : g 122 u.toNat = 2
    · rw [if_pos c2, if_pos c2]
      cases gm_c 6 (if pm_h E u s = true then 1 else 0) s with
      | none => rfl
      | some t =>
        show (if pm_h E u s = true then pm_sg l g E u ((2, 0, 0) :: (r ++ q)) (gm_d t) else some ((2, 0, 0) :: (r ++ q), gm_d t)) = Option.map _ (if pm_h E u s = true then pm_sg (l + wk_ul q) g E u ((2, 0, 0) :: r) (gm_d t) else some ((2, 0, 0) :: r, gm_d t))
        by_cases ch : pm_h E u s = true
        · rw [if_pos ch, if_pos ch]
          exact pm_sg_loc (r := (2, 0, 0) :: r)
        · rw [if_neg ch, if_neg ch]
          rfl
    · rw [if_neg c2, if_neg c2]
      exact pm_sg_loc
theorem pm_loc : pw_loc (pm_st g E) := by
  intro l e r q s
  unfold pm_st
  by_cases c0 : e.1 = 0
  · rw [if_pos c0, if_pos c0]
    exact pm_u_loc
  · rw [if_neg c0, if_neg c0]
    by_cases c1 : e.1 = 1
    · rw [if_pos c1, if_pos c1]
      unfold pm_fo
      by_cases c2 : 1 < g 130 e.2.1.toNat
      · rw [if_pos c2, if_pos c2]
        cases pm_w g E e.2.1 s with
        | none => rfl
        | some n =>
          show Option.map _ (gm_c 4 n s) = Option.map _ (Option.map _ (gm_c 4 n s))
          cases gm_c 4 n s with
          | none => rfl
          | some t =>
            dsimp only [Option.map]
            rw [List.append_assoc]
            rfl
      · rw [if_neg c2, if_neg c2]
        dsimp only [Option.map]
        rw [List.append_assoc]
    · rw [if_neg c1, if_neg c1]
      by_cases c5 : e.1 = 5
      · rw [if_pos c5, if_pos c5]
        unfold pm_ag
        by_cases ch : pm_h E e.2.1 s = true
        · rw [if_pos ch, if_pos ch]
          exact pm_sg_loc (r := (5, e.2.1, e.2.2) :: r)
        · rw [if_neg ch, if_neg ch]
          rfl
      · rw [if_neg c5, if_neg c5]
        by_cases c2 : e.1 = 2
        · rw [if_pos c2, if_pos c2]
          rfl
        · rw [if_neg c2, if_neg c2]
          by_cases c3 : e.1 = 3
          · rw [if_pos c3, if_pos c3]
            rfl
          · rw [if_neg c3, if_neg c3]
            rfl
end PM0
/-! the walk that parses, purely: what is in the starts of a part that is read takes a token -/
section PM1
variable {g : wk_g} {E : pm_E} {l : Int} {r : List wk_E} {s t : gm_S} {c : gm_C}
theorem pm_F_op {o : Int} : gm_F (gm_op o s) = gm_F s := by
  unfold gm_op
  by_cases c : o = 1
  · rw [if_pos c, gm_F_mk]
  · rw [if_neg c]
theorem pm_F_mid : gm_F (gm_mid s) = gm_F s := by
  unfold gm_mid
  rw [gm_F_mk]
theorem pm_F_tu : gm_F (gm_tu s) = gm_F s := by
  unfold gm_tu
  cases gm_P s with
  | nil => rfl
  | cons p q => exact gm_F_mk _ _ _ _ _
theorem pm_nx_e : gm_F (pm_nx s) = gm_F s + 1 ∧ gm_T (pm_nx s) = gm_T s ∧ gm_D (pm_nx s) = gm_D s ∧ gm_P (pm_nx s) = gm_P s := by
  unfold pm_nx
  rw [gm_F_mk, gm_T_mk, gm_D_mk, gm_P_mk]
  exact ⟨rfl, rfl, rfl, rfl⟩
theorem pm_inc_e {a : Int} : gm_F (pm_inc a s) = gm_F s ∧ gm_T (pm_inc a s) = pm_up a.toNat (gm_T s) ∧ gm_D (pm_inc a s) = gm_D s ∧ gm_P (pm_inc a s) = gm_P s := by
  unfold pm_inc
  rw [gm_F_mk, gm_T_mk, gm_D_mk, gm_P_mk]
  exact ⟨rfl, rfl, rfl, rfl⟩
theorem pm_up_len : ∀ (a : Nat) (T : List (Int × Int × Int)), (pm_up a T).length = T.length := by
  intro a
  induction a with
  | zero =>
    intro T
    cases T with
    | nil => rfl
    | cons x q => rfl
  | succ a ih =>
    intro T
    cases T with
    | nil => rfl
    | cons x q =>
      show (pm_up a q).length + 1 = q.length + 1
      rw [ih]
theorem pm_inc_len {a : Int} : gm_len (pm_inc a s) = gm_len s := by
  unfold gm_len
  rw [pm_inc_e.2.1, pm_up_len]
theorem pm_lf_e {o w : Int} (h : pm_lf E o w s = some t) : gm_D t = gm_D s ∧ gm_P t = gm_P s ∧ gm_len s ≤ gm_len t ∧ ((gm_F t = gm_F s + 1 ∧ (o = 1 ∨ o = 2 ∨ o = 8)) ∨ (t = s ∧ o ≠ 1 ∧ o ≠ 2 ∧ o ≠ 8)) := by
  have fin : ∀ (k v : Int), (gm_c k v s).map pm_nx = some t → gm_D t = gm_D s ∧ gm_P t = gm_P s ∧ gm_len s ≤ gm_len t ∧ gm_F t = gm_F s + 1 := by
    intro k v h
    obtain ⟨t1, h1, h2⟩ := Option.map_eq_some_iff.mp h
    obtain ⟨-, a2, a3, a4, a5⟩ := gm_c_e h1
    obtain ⟨n1, n2, n3, n4⟩ := pm_nx_e (s := t1)
    subst h2
    refine ⟨n3.trans a4, n4.trans a5, ?_, by rw [n1, a3]⟩
    have : gm_len (pm_nx t1) = gm_len t1 := by unfold gm_len; rw [n2]
    omega
  unfold pm_lf at h
  by_cases c1 : o = 1
  · rw [if_pos c1] at h
    by_cases ck : pm_K E s = 1
    · rw [if_pos ck] at h
      obtain ⟨x1, x2, x3, x4⟩ := fin _ _ h
      exact ⟨x1, x2, x3, Or.inl ⟨x4, Or.inl c1⟩⟩
    · rw [if_neg ck] at h
      cases h
  rw [if_neg c1] at h
  by_cases c2 : o = 2
  · rw [if_pos c2] at h
    by_cases ck : pm_K E s = 2
    · rw [if_pos ck] at h
      obtain ⟨x1, x2, x3, x4⟩ := fin _ _ h
      exact ⟨x1, x2, x3, Or.inl ⟨x4, Or.inr (Or.inl c2)⟩⟩
    · rw [if_neg ck] at h
      cases h
  rw [if_neg c2] at h
  by_cases c8 : o = 8
  · rw [if_pos c8] at h
    by_cases ck : 0 ≤ w ∧ pm_K E s = 3 + w
    · rw [if_pos ck] at h
      injection h with h
      subst h
      obtain ⟨n1, n2, n3, n4⟩ := pm_nx_e (s := s)
      exact ⟨n3, n4, by unfold gm_len; rw [n2]; exact Int.le_refl _, Or.inl ⟨n1, Or.inr (Or.inr c8)⟩⟩
    · rw [if_neg ck] at h
      cases h
  rw [if_neg c8] at h
  injection h with h
  subst h
  exact ⟨rfl, rfl, Int.le_refl _, Or.inr ⟨rfl, c1, c2, c8⟩⟩
/-- only what has a kind is taken -/
theorem pm_lf_K {o w : Int} (h : pm_lf E o w s = some t) : gm_F t = gm_F s ∨ (gm_F t = gm_F s + 1 ∧ 1 ≤ pm_K E s) := by
  have hl := (pm_lf_e h).2.2.2
  rcases hl with ⟨x, y⟩ | ⟨x, -⟩
  · refine Or.inr ⟨x, ?_⟩
    unfold pm_lf at h
    rcases y with y | y | y
    · rw [if_pos y] at h
      by_cases ck : pm_K E s = 1
      · omega
      · rw [if_neg ck] at h
        cases h
    · rw [if_neg (by omega), if_pos y] at h
      by_cases ck : pm_K E s = 2
      · omega
      · rw [if_neg ck] at h
        cases h
    · rw [if_neg (by omega), if_neg (by omega), if_pos y] at h
      by_cases ck : 0 ≤ w ∧ pm_K E s = 3 + w
      · omega
      · rw [if_neg ck] at h
        cases h
  · exact Or.inl (by rw [x])
theorem pm_sg_F {u : Int} (h : pm_sg l g E u r s = some c) : gm_F s ≤ gm_F c.2 := by
  unfold pm_sg at h
  by_cases c9 : g 119 u.toNat = 9
  · rw [if_pos c9] at h
    unfold pm_en at h
    by_cases cu : 12 ≤ l + wk_ul r
    · rw [if_pos cu] at h
      cases h
    · rw [if_neg cu] at h
      obtain ⟨t, t1, t2⟩ := Option.map_eq_some_iff.mp h
      subst t2
      have := (gm_c_e t1).2.2.1
      have := (gm_d_e (t := t)).2.1
      show gm_F s ≤ gm_F (gm_d t)
      omega
  rw [if_neg c9] at h
  by_cases c10 : g 119 u.toNat = 10
  · rw [if_pos c10] at h
    injection h with h
    subst h
    exact Int.le_refl _
  rw [if_neg c10] at h
  obtain ⟨t, t1, t2⟩ := Option.map_eq_some_iff.mp h
  subst t2
  show gm_F s ≤ gm_F t
  rcases (pm_lf_e t1).2.2.2 with ⟨x, -⟩ | ⟨x, -⟩
  · omega
  · rw [x]
    exact Int.le_refl _
theorem pm_st_F {e : wk_E} (h : pm_st g E l e r s = some c) : gm_F s ≤ gm_F c.2 := by
  unfold pm_st at h
  by_cases c0 : e.1 = 0
  · rw [if_pos c0] at h
    have eo := pm_F_op (o := e.2.2) (s := s)
    unfold pm_u at h
    by_cases w1 : g 122 e.2.1.toNat = 1
    · rw [if_pos w1] at h
      obtain ⟨t, t1, t2⟩ := Option.map_eq_some_iff.mp h
      subst t2
      have := (gm_c_e t1).2.2.1
      have := (gm_d_e (t := t)).2.1
      show gm_F s ≤ gm_F (gm_d t)
      omega
    rw [if_neg w1] at h
    by_cases w2 : g 122 e.2.1.toNat = 2
    · rw [if_pos w2] at h
      obtain ⟨t, t1, t2⟩ := Option.bind_eq_some_iff.mp h
      have k1 := (gm_c_e t1).2.2.1
      have k2 := (gm_d_e (t := t)).2.1
      by_cases ch : pm_h E e.2.1 (gm_op e.2.2 s) = true
      · rw [if_pos ch] at t2
        have := pm_sg_F t2
        omega
      · rw [if_neg ch] at t2
        injection t2 with t2
        subst t2
        show gm_F s ≤ gm_F (gm_d t)
        omega
    rw [if_neg w2] at h
    have := pm_sg_F h
    omega
  rw [if_neg c0] at h
  by_cases c1 : e.1 = 1
  · rw [if_pos c1] at h
    unfold pm_fo at h
    by_cases w1 : 1 < g 130 e.2.1.toNat
    · rw [if_pos w1] at h
      obtain ⟨n, -, h⟩ := Option.bind_eq_some_iff.mp h
      obtain ⟨t, t1, t2⟩ := Option.map_eq_some_iff.mp h
      subst t2
      have := (gm_c_e t1).2.2.1
      have := (gm_d_e (t := t)).2.1
      show gm_F s ≤ gm_F (gm_d t)
      omega
    · rw [if_neg w1] at h
      injection h with h
      subst h
      exact Int.le_refl _
  rw [if_neg c1] at h
  by_cases c5 : e.1 = 5
  · rw [if_pos c5] at h
    unfold pm_ag at h
    by_cases ch : pm_h E e.2.1 s = true
    · rw [if_pos ch] at h
      have := pm_sg_F h
      rw [pm_inc_e.1] at this
      exact this
    · rw [if_neg ch] at h
      injection h with h
      subst h
      exact Int.le_refl _
  rw [if_neg c5] at h
  by_cases c2 : e.1 = 2
  · rw [if_pos c2] at h
    injection h with h
    subst h
    exact Int.le_of_eq (gm_F_mk _ _ _ _ _).symm
  rw [if_neg c2] at h
  by_cases c3 : e.1 = 3
  · rw [if_pos c3] at h
    injection h with h
    subst h
    exact Int.le_of_eq pm_F_mid.symm
  · rw [if_neg c3] at h
    injection h with h
    subst h
    exact Int.le_of_eq pm_F_tu.symm
theorem pm_sg_K {u : Int} (h : pm_sg l g E u r s = some c) : gm_F c.2 = gm_F s ∨ (gm_F c.2 = gm_F s + 1 ∧ 1 ≤ pm_K E s) := by
  unfold pm_sg at h
  by_cases c9 : g 119 u.toNat = 9
  · rw [if_pos c9] at h
    unfold pm_en at h
    by_cases cu : 12 ≤ l + wk_ul r
    · rw [if_pos cu] at h
      cases h
    · rw [if_neg cu] at h
      obtain ⟨t, t1, t2⟩ := Option.map_eq_some_iff.mp h
      subst t2
      have k1 := (gm_c_e t1).2.2.1
      have k2 := (gm_d_e (t := t)).2.1
      exact Or.inl (by show gm_F (gm_d t) = gm_F s; omega)
  rw [if_neg c9] at h
  by_cases c10 : g 119 u.toNat = 10
  · rw [if_pos c10] at h
    injection h with h
    subst h
    exact Or.inl rfl
  rw [if_neg c10] at h
  obtain ⟨t, t1, t2⟩ := Option.map_eq_some_iff.mp h
  subst t2
  exact pm_lf_K t1
theorem pm_st_K {e : wk_E} (h : pm_st g E l e r s = some c) : gm_F c.2 = gm_F s ∨ (gm_F c.2 = gm_F s + 1 ∧ 1 ≤ pm_K E s) := by
  unfold pm_st at h
  by_cases c0 : e.1 = 0
  · rw [if_pos c0] at h
    have eo := pm_F_op (o := e.2.2) (s := s)
    have eK : pm_K E (gm_op e.2.2 s) = pm_K E s := by unfold pm_K; rw [eo]
    unfold pm_u at h
    by_cases w1 : g 122 e.2.1.toNat = 1
    · rw [if_pos w1] at h
      obtain ⟨t, t1, t2⟩ := Option.map_eq_some_iff.mp h
      subst t2
      have k1 := (gm_c_e t1).2.2.1
      have k2 := (gm_d_e (t := t)).2.1
      exact Or.inl (by show gm_F (gm_d t) = gm_F s; omega)
    rw [if_neg w1] at h
    by_cases w2 : g 122 e.2.1.toNat = 2
    · rw [if_pos w2] at h
      obtain ⟨t, t1, t2⟩ := Option.bind_eq_some_iff.mp h
      have k1 := (gm_c_e t1).2.2.1
      have k2 := (gm_d_e (t := t)).2.1
      have e3 : gm_F (gm_d t) = gm_F s := by omega
      by_cases ch : pm_h E e.2.1 (gm_op e.2.2 s) = true
      · rw [if_pos ch] at t2
        have := pm_sg_K t2
        have eK2 : pm_K E (gm_d t) = pm_K E s := by unfold pm_K; rw [e3]
        rw [eK2, e3] at this
        exact this
      · rw [if_neg ch] at t2
        injection t2 with t2
        subst t2
        exact Or.inl e3
    rw [if_neg w2] at h
    have := pm_sg_K h
    rw [eK, eo] at this
    exact this
  rw [if_neg c0] at h
  by_cases c1 : e.1 = 1
  · rw [if_pos c1] at h
    unfold pm_fo at h
    by_cases w1 : 1 < g 130 e.2.1.toNat
    · rw [if_pos w1] at h
      obtain ⟨n, -, h⟩ := Option.bind_eq_some_iff.mp h
      obtain ⟨t, t1, t2⟩ := Option.map_eq_some_iff.mp h
      subst t2
      have k1 := (gm_c_e t1).2.2.1
      have k2 := (gm_d_e (t := t)).2.1
      exact Or.inl (by show gm_F (gm_d t) = gm_F s; omega)
    · rw [if_neg w1] at h
      injection h with h
      subst h
      exact Or.inl rfl
  rw [if_neg c1] at h
  by_cases c5 : e.1 = 5
  · rw [if_pos c5] at h
    unfold pm_ag at h
    by_cases ch : pm_h E e.2.1 s = true
    · rw [if_pos ch] at h
      have := pm_sg_K h
      have eK : pm_K E (pm_inc e.2.2 s) = pm_K E s := by unfold pm_K; rw [pm_inc_e.1]
      rw [eK, pm_inc_e.1] at this
      exact this
    · rw [if_neg ch] at h
      injection h with h
      subst h
      exact Or.inl rfl
  rw [if_neg c5] at h
  by_cases c2 : e.1 = 2
  · rw [if_pos c2] at h
    injection h with h
    subst h
    exact Or.inl (gm_F_mk _ _ _ _ _)
  rw [if_neg c2] at h
  by_cases c3 : e.1 = 3
  · rw [if_pos c3] at h
    injection h with h
    subst h
    exact Or.inl pm_F_mid
  · rw [if_neg c3] at h
    injection h with h
    subst h
    exact Or.inl pm_F_tu
/-- a token without a kind stays the next one -/
theorem pm_to_bad {d : gm_C} : ∀ (n : Nat) (c : gm_C), pw_to (pm_st g E l) n c d → pm_K E c.2 < 1 → gm_F d.2 = gm_F c.2 := by
  intro n
  induction n with
  | zero => intro c h _; have h : c = d := h; rw [h]
  | succ n ih =>
    intro c h hk
    obtain ⟨e, r, c1, -, h2, h3⟩ := h
    have e1 : gm_F c1.2 = gm_F c.2 := by
      rcases pm_st_K h2 with x | ⟨x, y⟩
      · exact x
      · omega
    rw [ih c1 h3 (by unfold pm_K at hk ⊢; rw [e1]; exact hk), e1]
theorem pm_to_F {d : gm_C} : ∀ (n : Nat) (c : gm_C), pw_to (pm_st g E l) n c d → gm_F c.2 ≤ gm_F d.2 := by
  intro n
  induction n with
  | zero => intro c h; have h : c = d := h; rw [h]; exact Int.le_refl _
  | succ n ih =>
    intro c h
    obtain ⟨e, r, c1, -, h2, h3⟩ := h
    have := pm_st_F h2
    have := ih c1 h3
    omega
theorem pm_dr_e {p : Int → Bool} : ∀ (m : Nat) (a n z : Int), pm_dr g p m a n = some z → ∃ j : Nat, j < m ∧ z = n + j ∧ p (wk_alt g j a) = true := by
  intro m
  induction m with
  | zero => intro a n z h; cases h
  | succ m ih =>
    intro a n z h
    unfold pm_dr at h
    by_cases c : p a = true
    · rw [if_pos c] at h
      injection h with h
      exact ⟨0, by omega, by omega, c⟩
    · rw [if_neg c] at h
      obtain ⟨j, j1, j2, j3⟩ := ih _ _ _ h
      exact ⟨j + 1, by omega, by omega, j3⟩
end PM1
/-- what is known of the sets: pf starts of forms, pa of alternatives; two alternatives of one form have no director in common -/
def pm_Hs (g : wk_g) (Y : wk_Y) (E : pm_E) (pf pa : Int → Int → Bool) : Prop :=
  (∀ u k, 0 ≤ u → u < wk_u Y → E.2.2.1 u k = true → (g 119 u.toNat = 9 → pf (wk_rf g u) k = true) ∧ (g 119 u.toNat = 10 → pf (g 120 u.toNat) k = true) ∧ (g 119 u.toNat = 1 ∨ g 119 u.toNat = 2 ∨ g 119 u.toNat = 8 ∨ g 119 u.toNat = 9 ∨ g 119 u.toNat = 10)) ∧
  (∀ f k, 0 ≤ f → f < wk_f Y → pf f k = true → ∃ j : Nat, (j : Int) < g 130 f.toNat ∧ pa (wk_alt g j (g 129 f.toNat)) k = true) ∧
  (∀ f k (j : Nat), 0 ≤ f → f < wk_f Y → (j : Int) < g 130 f.toNat → pa (wk_alt g j (g 129 f.toNat)) k = true → E.2.2.2 f (wk_alt g j (g 129 f.toNat)) k = true ∧ ∃ w o, (0, w, o) ∈ wk_it g 61 (g 126 (wk_alt g j (g 129 f.toNat)).toNat) ∧ 0 ≤ w ∧ w < wk_u Y ∧ E.2.2.1 w k = true) ∧
  (∀ f k (i j : Nat), 0 ≤ f → f < wk_f Y → (i : Int) < g 130 f.toNat → (j : Int) < g 130 f.toNat → E.2.2.2 f (wk_alt g i (g 129 f.toNat)) k = true → E.2.2.2 f (wk_alt g j (g 129 f.toNat)) k = true → i = j)
section PM2
variable {g : wk_g} {Y : wk_Y} {E : pm_E} {pf pa : Int → Int → Bool}
/-- a form whose starts have the next token takes it; in runs of at most N turns -/
def pm_ef (g : wk_g) (Y : wk_Y) (E : pm_E) (pf : Int → Int → Bool) (N : Nat) : Prop := ∀ (n : Nat) (l f a : Int) (s s' : gm_S), n ≤ N → 0 ≤ f → f < wk_f Y → pf f (pm_K E s) = true → pw_to (pm_st g E l) n ([(1, f, a)], s) ([], s') → gm_F s < gm_F s'
theorem pm_K_of {s t : gm_S} (h : gm_F t = gm_F s) : pm_K E t = pm_K E s := by
  unfold pm_K
  rw [h]
theorem pm_h_of {u : Int} {s t : gm_S} (h : gm_F t = gm_F s) : pm_h E u t = pm_h E u s := by
  unfold pm_h
  rw [pm_K_of h]
theorem pm_eat_sg (hL : wk_L g Y) (hH : pm_Hs g Y E pf pa) {N : Nat} (hf : pm_ef g Y E pf N) {n : Nat} (hn : n ≤ N) {l u : Int} {s s' : gm_S} {c : gm_C} (u0 : 0 ≤ u) (u1 : u < wk_u Y) (hu : pm_h E u s = true) (h1 : pm_sg l g E u [] s = some c) (h2 : pw_to (pm_st g E l) n c ([], s')) : gm_F s < gm_F s' := by
  obtain ⟨a1, a2, a3⟩ := hH.1 u _ u0 u1 hu
  obtain ⟨-, -, -, k9, k10, -⟩ := hL.2.2.1 u u0 u1
  unfold pm_sg at h1
  by_cases c9 : g 119 u.toNat = 9
  · rw [if_pos c9] at h1
    obtain ⟨-, -, -, -, r1, r2, -⟩ := k9 c9
    unfold pm_en at h1
    by_cases cu : 12 ≤ l + wk_ul []
    · rw [if_pos cu] at h1
      cases h1
    · rw [if_neg cu] at h1
      obtain ⟨t, t1, t2⟩ := Option.map_eq_some_iff.mp h1
      subst t2
      have e1 := (gm_c_e t1).2.2.1
      have e2 := (gm_d_e (t := t)).2.1
      have e3 : gm_F (gm_d t) = gm_F s := by rw [e2, e1]
      obtain ⟨n1, s1, i1, i2, i3⟩ := pw_split0 pm_loc (A := [(1, wk_rf g u, 0)]) (q := [(2, 1, 0)]) h2
      have x := hf n1 _ _ _ _ _ (by omega) r1 r2 (by rw [pm_K_of e3]; exact a1 c9) i2
      have := pm_to_F _ _ i3
      dsimp only at this
      omega
  rw [if_neg c9] at h1
  by_cases c10 : g 119 u.toNat = 10
  · rw [if_pos c10] at h1
    injection h1 with h1
    subst h1
    obtain ⟨r1, r2, -⟩ := k10 c10
    exact hf n _ _ _ _ _ hn r1 r2 (a2 c10) h2
  rw [if_neg c10] at h1
  obtain ⟨t, t1, t2⟩ := Option.map_eq_some_iff.mp h1
  subst t2
  have := pm_to_F _ _ h2
  dsimp only at this
  rcases (pm_lf_e t1).2.2.2 with ⟨x, -⟩ | ⟨-, x⟩
  · omega
  · exfalso
    omega
theorem pm_eat_ag (hL : wk_L g Y) (hH : pm_Hs g Y E pf pa) {N : Nat} (hf : pm_ef g Y E pf N) {n : Nat} (hn : n ≤ N) {l u a : Int} {s s' : gm_S} (u0 : 0 ≤ u) (u1 : u < wk_u Y) (hu : pm_h E u s = true) (h2 : pw_to (pm_st g E l) n ([(5, u, a)], s) ([], s')) : gm_F s < gm_F s' := by
  cases n with
  | zero => exact (pw_0 h2).elim
  | succ n =>
    obtain ⟨c1, h3, h4⟩ := pw_cons h2
    rw [pm_st_5] at h3
    unfold pm_ag at h3
    rw [if_pos hu, show ((5, u, a) :: [] : List wk_E) = [] ++ [(5, u, a)] from rfl, pm_sg_loc] at h3
    obtain ⟨c0, k1, k2⟩ := Option.map_eq_some_iff.mp h3
    subst k2
    obtain ⟨n1, s1, i1, i2, i3⟩ := pw_split0 pm_loc (A := c0.1) (q := [(5, u, a)]) h4
    have ei := (pm_inc_e (s := s) (a := a)).1
    have x := pm_eat_sg hL hH hf (n := n1) (by omega) u0 u1 (by rw [pm_h_of ei]; exact hu) k1 i2
    have := pm_to_F _ _ i3
    dsimp only at this
    omega
theorem pm_eat_u (hL : wk_L g Y) (hH : pm_Hs g Y E pf pa) {N : Nat} (hf : pm_ef g Y E pf N) {n : Nat} (hn : n ≤ N) {l u o : Int} {s s' : gm_S} (u0 : 0 ≤ u) (u1 : u < wk_u Y) (hu : pm_h E u s = true) (h2 : pw_to (pm_st g E l) n ([(0, u, o)], s) ([], s')) : gm_F s < gm_F s' := by
  cases n with
  | zero => exact (pw_0 h2).elim
  | succ n =>
    obtain ⟨c1, h3, h4⟩ := pw_cons h2
    rw [pm_st_0] at h3
    have eo := pm_F_op (o := o) (s := s)
    have ho : pm_h E u (gm_op o s) = true := by rw [pm_h_of eo]; exact hu
    unfold pm_u at h3
    by_cases w1 : g 122 u.toNat = 1
    · rw [if_pos w1] at h3
      obtain ⟨t, t1, t2⟩ := Option.map_eq_some_iff.mp h3
      subst t2
      have e1 := (gm_c_e t1).2.2.1
      have e2 := (gm_d_e (t := t)).2.1
      obtain ⟨n1, s1, i1, i2, i3⟩ := pw_split0 pm_loc (A := [(5, u, gm_len (gm_op o s))]) (q := [(2, 0, 0)]) h4
      have x := pm_eat_ag hL hH hf (n := n1) (by omega) u0 u1 (by rw [pm_h_of (show gm_F (gm_d t) = gm_F s by omega)]; exact hu) i2
      have := pm_to_F _ _ i3
      dsimp only at this
      omega
    rw [if_neg w1] at h3
    by_cases w2 : g 122 u.toNat = 2
    · rw [if_pos w2] at h3
      obtain ⟨t, t1, t2⟩ := Option.bind_eq_some_iff.mp h3
      have e1 := (gm_c_e t1).2.2.1
      have e2 := (gm_d_e (t := t)).2.1
      rw [if_pos ho, show ((2, 0, 0) :: [] : List wk_E) = [] ++ [(2, 0, 0)] from rfl, pm_sg_loc] at t2
      obtain ⟨c0, k1, k2⟩ := Option.map_eq_some_iff.mp t2
      subst k2
      obtain ⟨n1, s1, i1, i2, i3⟩ := pw_split0 pm_loc (A := c0.1) (q := [(2, 0, 0)]) h4
      have x := pm_eat_sg hL hH hf (n := n1) (by omega) u0 u1 (by rw [pm_h_of (show gm_F (gm_d t) = gm_F s by omega)]; exact hu) k1 i2
      have := pm_to_F _ _ i3
      dsimp only at this
      omega
    rw [if_neg w2] at h3
    have := pm_eat_sg hL hH hf (n := n) (by omega) u0 u1 ho h3 h4
    omega
theorem pm_eat_it (hL : wk_L g Y) (hH : pm_Hs g Y E pf pa) {N : Nat} (hf : pm_ef g Y E pf N) {n : Nat} (hn : n ≤ N) {l w o k : Int} {s s' : gm_S} {A : List wk_E} (hw : (0, w, o) ∈ A) (w0 : 0 ≤ w) (w1 : w < wk_u Y) (hk : E.2.2.1 w (pm_K E s) = true) (h2 : pw_to (pm_st g E l) n (A, s) ([], s')) : gm_F s < gm_F s' := by
  obtain ⟨A1, A2, rfl⟩ := List.append_of_mem hw
  obtain ⟨n1, s1, i1, i2, i3⟩ := pw_split0 pm_loc (A := A1) (q := (0, w, o) :: A2) h2
  have x1 := pm_to_F _ _ i2
  obtain ⟨n2, s2, j1, j2, j3⟩ := pw_split0 pm_loc (A := [(0, w, o)]) (q := A2) i3
  have x2 := pm_to_F _ _ j2
  have x3 := pm_to_F _ _ j3
  dsimp only at x1 x2 x3
  by_cases c : gm_F s1 = gm_F s
  · have := pm_eat_u hL hH hf (n := n2) (by omega) w0 w1 (by rw [pm_h_of c]; exact hk) j2
    omega
  · omega
theorem pm_eat (hL : wk_L g Y) (hH : pm_Hs g Y E pf pa) : ∀ N : Nat, pm_ef g Y E pf N := by
  intro N
  induction N with
  | zero =>
    intro n l f a s s' hn f0 f1 hp h
    have : n = 0 := by omega
    subst this
    exact (pw_0 h).elim
  | succ N ih =>
    intro n l f a s s' hn f0 f1 hp h
    cases n with
    | zero => exact (pw_0 h).elim
    | succ n =>
      obtain ⟨c1, h3, h4⟩ := pw_cons h
      rw [pm_st_1] at h3
      obtain ⟨j, j1, j2⟩ := hH.2.1 f _ f0 f1 hp
      obtain ⟨j3, w, o, w1, w2, w3, w4⟩ := hH.2.2.1 f _ j f0 f1 j1 j2
      unfold pm_fo at h3
      by_cases c : 1 < g 130 f.toNat
      · rw [if_pos c] at h3
        obtain ⟨z, z1, h3⟩ := Option.bind_eq_some_iff.mp h3
        obtain ⟨t, t1, t2⟩ := Option.map_eq_some_iff.mp h3
        subst t2
        obtain ⟨i, i1, i2, i3⟩ := pm_dr_e _ _ _ _ z1
        have ei : i = j := hH.2.2.2 f _ i j f0 f1 (by omega) j1 i3 j3
        subst ei
        have ez : z.toNat = i := by omega
        rw [ez] at h4
        have e1 := (gm_c_e t1).2.2.1
        have e2 := (gm_d_e (t := t)).2.1
        obtain ⟨n1, s1, q1, q2, q3⟩ := pw_split0 pm_loc (q := [(2, 0, 0)]) h4
        have x := pm_eat_it hL hH ih (n := n1) (k := 0) (by omega) w1 w2 w3 (by rw [pm_K_of (show gm_F (gm_d t) = gm_F s by omega)]; exact w4) q2
        have := pm_to_F _ _ q3
        dsimp only at this
        omega
      · rw [if_neg c] at h3
        injection h3 with h3
        subst h3
        have ej : j = 0 := by omega
        subst ej
        rw [List.append_nil] at h4
        exact pm_eat_it hL hH ih (n := n) (k := 0) (by omega) w1 w2 w3 w4 h4
end PM2
/-! how many turns a walk that parses has (counted by halves): entries pay, or a node, or a token -/
def pm_e2 (Y : wk_Y) (e : wk_E) : Int := if e.1 = 0 then 5 * (wk_e Y e.2.1 - e.2.1) - 3 else if e.1 = 1 then 5 * (wk_x Y e.2.1 - wk_b Y e.2.1) - 5 else 2
def pm_pot (Y : wk_Y) : List wk_E → Int
  | [] => 0
  | e :: r => pm_e2 Y e + pm_pot Y r
def pm_k (Y : wk_Y) (e : wk_E) : Prop := (e.1 = 0 → 0 ≤ e.2.1 ∧ e.2.1 < wk_u Y ∧ wk_e Y e.2.1 - e.2.1 ≤ 60) ∧ (e.1 = 1 → 0 ≤ e.2.1 ∧ e.2.1 < wk_f Y ∧ wk_x Y e.2.1 - wk_b Y e.2.1 ≤ 61) ∧ e.1 ≠ 5
def pm_Kn (Y : wk_Y) : List wk_E → Prop
  | [] => True
  | e :: r => pm_k Y e ∧ pm_Kn Y r
/-- a form has a unit -/
def pm_x (Y : wk_Y) : Prop := ∀ f, 0 ≤ f → f < wk_f Y → wk_b Y f + 2 ≤ wk_x Y f
section PM3
variable {g : wk_g} {Y : wk_Y} {E : pm_E} {l : Int} {r : List wk_E} {s t : gm_S} {c : gm_C}
theorem pm_pot_a : ∀ (r q : List wk_E), pm_pot Y (r ++ q) = pm_pot Y r + pm_pot Y q := by
  intro r q
  induction r with
  | nil => show pm_pot Y q = 0 + _; omega
  | cons e r ih => show pm_e2 Y e + pm_pot Y (r ++ q) = pm_e2 Y e + pm_pot Y r + pm_pot Y q; omega
theorem pm_Kn_a : ∀ (r q : List wk_E), pm_Kn Y r → pm_Kn Y q → pm_Kn Y (r ++ q) := by
  intro r q
  induction r with
  | nil => intro _ h; exact h
  | cons e r ih => intro h1 h2; exact ⟨h1.1, ih h1.2 h2⟩
theorem pm_k_o {a b c : Int} (h0 : a ≠ 0) (h1 : a ≠ 1) (h5 : a ≠ 5) : pm_k Y (a, b, c) := ⟨fun e => absurd e h0, fun e => absurd e h1, h5⟩
theorem pm_k_0 {b c : Int} (h0 : 0 ≤ b) (h1 : b < wk_u Y) (h2 : wk_e Y b - b ≤ 60) : pm_k Y (0, b, c) := ⟨fun _ => ⟨h0, h1, h2⟩, fun e => absurd (show (0 : Int) = 1 from e) (by decide), show (0 : Int) ≠ 5 by decide⟩
theorem pm_k_1 {b c : Int} (h0 : 0 ≤ b) (h1 : b < wk_f Y) (h2 : wk_x Y b - wk_b Y b ≤ 61) : pm_k Y (1, b, c) := ⟨fun e => absurd (show (1 : Int) = 0 from e) (by decide), fun _ => ⟨h0, h1, h2⟩, show (1 : Int) ≠ 5 by decide⟩
theorem pm_e_o {a b c : Int} (h0 : a ≠ 0) (h1 : a ≠ 1) : pm_e2 Y (a, b, c) = 2 := by
  unfold pm_e2
  rw [if_neg h0, if_neg h1]
theorem pm_e_0 {b c : Int} : pm_e2 Y (0, b, c) = 5 * (wk_e Y b - b) - 3 := rfl
theorem pm_e_1 {b c : Int} : pm_e2 Y (1, b, c) = 5 * (wk_x Y b - wk_b Y b) - 5 := rfl
theorem pm_it (hL : wk_L g Y) {f : Int} (h61 : wk_x Y f - wk_b Y f ≤ 61) : ∀ (n : Nat) (u : Int), (u < 0 ∨ (u < wk_u Y ∧ wk_c Y u = f)) → pm_Kn Y (wk_it g n u) ∧ (u < 0 → pm_pot Y (wk_it g n u) = 0) ∧ (0 ≤ u → pm_pot Y (wk_it g n u) ≤ 5 * (wk_x Y f - u) - 2) := by
  intro n
  induction n with
  | zero =>
    intro u h
    refine ⟨trivial, fun _ => rfl, fun h0 => ?_⟩
    rcases h with h | ⟨h1, h2⟩
    · omega
    · have k := (hL.2.2.1 u h0 h1).1
      rw [h2] at k
      show (0 : Int) ≤ _
      omega
  | succ n ih =>
    intro u h
    unfold wk_it
    by_cases hu : u < 0
    · rw [if_pos hu]
      exact ⟨trivial, fun _ => rfl, fun h0 => by omega⟩
    · rw [if_neg hu]
      obtain ⟨h1, h2⟩ := h.resolve_left hu
      have hu : 0 ≤ u := by omega
      obtain ⟨⟨k1, k2, k3, k4, k5⟩, km, kn, -, -, -⟩ := hL.2.2.1 u hu h1
      rw [h2] at k2 k3 km kn
      have IH := ih (g 125 u.toNat) (by
        by_cases c : g 125 u.toNat < 0
        · exact Or.inl c
        · have := kn (by omega)
          exact Or.inr ⟨this.1, this.2.1⟩)
      obtain ⟨i1, i2, i3⟩ := IH
      by_cases cm : 0 ≤ g 124 u.toNat
      · rw [if_pos cm]
        obtain ⟨m1, m2, m3, m4⟩ := km cm
        obtain ⟨⟨l1, l2, l3, -⟩, -⟩ := hL.2.2.1 _ cm m1
        rw [m2] at l2 l3
        refine ⟨⟨pm_k_0 hu h1 (by omega), pm_k_o (by decide) (by decide) (by decide), pm_k_0 cm m1 (by omega), pm_k_o (by decide) (by decide) (by decide), i1⟩, fun q => by omega, fun _ => ?_⟩
        show pm_e2 Y (0, u, 1) + (pm_e2 Y (3, 0, 0) + (pm_e2 Y (0, g 124 u.toNat, 0) + (pm_e2 Y (4, 0, 0) + pm_pot Y (wk_it g n (g 125 u.toNat))))) ≤ _
        rw [pm_e_0, pm_e_0, pm_e_o (by decide) (by decide), pm_e_o (by decide) (by decide)]
        by_cases c : g 125 u.toNat < 0
        · have := i2 c
          omega
        · have := i3 (by omega)
          have := (kn (by omega)).2.2.2 cm
          omega
      · rw [if_neg cm]
        refine ⟨⟨pm_k_0 hu h1 (by omega), i1⟩, fun q => by omega, fun _ => ?_⟩
        show pm_e2 Y (0, u, 0) + pm_pot Y (wk_it g n (g 125 u.toNat)) ≤ _
        rw [pm_e_0]
        by_cases c : g 125 u.toNat < 0
        · have := i2 c
          omega
        · have := i3 (by omega)
          have := (kn (by omega)).2.2.1
          omega
/-- a part by itself -/
theorem pm_sg_pot (hL : wk_L g Y) {u : Int} (u0 : 0 ≤ u) (u1 : u < wk_u Y) (h60 : wk_e Y u - u ≤ 60) (h : pm_sg l g E u r s = some c) : ∃ A, c.1 = A ++ r ∧ pm_Kn Y A ∧ gm_len s ≤ gm_len c.2 ∧ (gm_F c.2 = gm_F s ∨ (gm_F c.2 = gm_F s + 1 ∧ A = [])) ∧ pm_pot Y A ≤ 5 * (wk_e Y u - u) - 5 + 302 * (gm_len c.2 - gm_len s) := by
  obtain ⟨⟨k1, -⟩, -, -, k9, k10, -⟩ := hL.2.2.1 u u0 u1
  unfold pm_sg at h
  by_cases c9 : g 119 u.toNat = 9
  · rw [if_pos c9] at h
    obtain ⟨-, -, -, -, r1, r2, r3⟩ := k9 c9
    unfold pm_en at h
    by_cases cu : 12 ≤ l + wk_ul r
    · rw [if_pos cu] at h
      cases h
    · rw [if_neg cu] at h
      obtain ⟨t, t1, t2⟩ := Option.map_eq_some_iff.mp h
      subst t2
      obtain ⟨-, a2, a3, -⟩ := gm_c_e t1
      obtain ⟨d1, d2, -⟩ := gm_d_e (t := t)
      refine ⟨[(1, wk_rf g u, 0), (2, 1, 0)], rfl, ⟨pm_k_1 r1 r2 r3, pm_k_o (by decide) (by decide) (by decide), trivial⟩, ?_, Or.inl ?_, ?_⟩
      · show gm_len s ≤ gm_len (gm_d t)
        omega
      · show gm_F (gm_d t) = gm_F s
        omega
      · show pm_e2 Y (1, wk_rf g u, 0) + (pm_e2 Y (2, 1, 0) + 0) ≤ _ + 302 * (gm_len (gm_d t) - gm_len s)
        rw [pm_e_1, pm_e_o (by decide) (by decide)]
        omega
  rw [if_neg c9] at h
  by_cases c10 : g 119 u.toNat = 10
  · rw [if_pos c10] at h
    injection h with h
    subst h
    obtain ⟨r1, r2, r3, -⟩ := k10 c10
    refine ⟨[(1, g 120 u.toNat, 0)], rfl, ⟨pm_k_1 r1 r2 (by omega), trivial⟩, Int.le_refl _, Or.inl rfl, ?_⟩
    show pm_e2 Y (1, g 120 u.toNat, 0) + 0 ≤ _ + 302 * (gm_len s - gm_len s)
    rw [pm_e_1]
    omega
  rw [if_neg c10] at h
  obtain ⟨t, t1, t2⟩ := Option.map_eq_some_iff.mp h
  subst t2
  obtain ⟨-, -, q3, q4⟩ := pm_lf_e t1
  refine ⟨[], rfl, trivial, q3, ?_, ?_⟩
  · show gm_F t = gm_F s ∨ _
    rcases q4 with ⟨q4, -⟩ | ⟨q4, -⟩
    · exact Or.inr ⟨q4, rfl⟩
    · rw [q4]
      exact Or.inl rfl
  · show (0 : Int) ≤ _ + 302 * (gm_len t - gm_len s)
    omega
theorem pm_op_len {o : Int} : gm_len (gm_op o s) = gm_len s := by
  unfold gm_len
  rw [(gm_op_T o s).2]
/-- a turn, of what is no many -/
theorem pm_st_pot (hL : wk_L g Y) (hx : pm_x Y) {e : wk_E} (hw : e.1 = 0 → g 122 e.2.1.toNat ≠ 1) (hK : pm_Kn Y (e :: r)) (h : pm_st g E l e r s = some c) : pm_Kn Y c.1 ∧ gm_len s ≤ gm_len c.2 ∧ gm_F s ≤ gm_F c.2 ∧ gm_F c.2 ≤ gm_F s + 1 ∧ pm_pot Y c.1 + 2 ≤ pm_pot Y (e :: r) + 302 * (gm_len c.2 - gm_len s) := by
  obtain ⟨a, b, z⟩ := e
  obtain ⟨⟨h0, h1, h5⟩, hr⟩ := hK
  dsimp only at h0 h1 h5 hw
  have hp : pm_pot Y ((a, b, z) :: r) = pm_e2 Y (a, b, z) + pm_pot Y r := rfl
  rw [hp]
  unfold pm_st at h
  dsimp only at h
  by_cases c0 : a = 0
  · subst c0
    obtain ⟨k1, k2, k60⟩ := h0 rfl
    rw [if_pos rfl] at h
    rw [pm_e_0]
    have T1 := pm_op_len (s := s) (o := z)
    have T2 := pm_F_op (s := s) (o := z)
    unfold pm_u at h
    rw [if_neg (hw rfl)] at h
    by_cases w2 : g 122 b.toNat = 2
    · rw [if_pos w2] at h
      obtain ⟨t, t1, t2⟩ := Option.bind_eq_some_iff.mp h
      obtain ⟨-, a2, a3, -⟩ := gm_c_e t1
      obtain ⟨d1, d2, -⟩ := gm_d_e (t := t)
      by_cases ch : pm_h E b (gm_op z s) = true
      · rw [if_pos ch] at t2
        obtain ⟨A, s1, s2, s3, s4, s5⟩ := pm_sg_pot hL k1 k2 k60 t2
        rw [s1, pm_pot_a]
        refine ⟨pm_Kn_a _ _ s2 ⟨pm_k_o (by decide) (by decide) (by decide), hr⟩, by omega, by omega, by omega, ?_⟩
        show pm_pot Y A + (pm_e2 Y (2, 0, 0) + pm_pot Y r) + 2 ≤ _
        rw [pm_e_o (by decide) (by decide)]
        omega
      · rw [if_neg ch] at t2
        injection t2 with t2
        subst t2
        have l1 := (hL.2.2.1 b k1 k2).1.1
        refine ⟨⟨pm_k_o (by decide) (by decide) (by decide), hr⟩, ?_, ?_, ?_, ?_⟩
        · show gm_len s ≤ gm_len (gm_d t)
          omega
        · show gm_F s ≤ gm_F (gm_d t)
          omega
        · show gm_F (gm_d t) ≤ gm_F s + 1
          omega
        · show pm_e2 Y (2, 0, 0) + pm_pot Y r + 2 ≤ _ + _ + 302 * (gm_len (gm_d t) - gm_len s)
          rw [pm_e_o (by decide) (by decide)]
          omega
    rw [if_neg w2] at h
    obtain ⟨A, s1, s2, s3, s4, s5⟩ := pm_sg_pot hL k1 k2 k60 h
    rw [s1, pm_pot_a]
    exact ⟨pm_Kn_a _ _ s2 hr, by omega, by omega, by omega, by omega⟩
  rw [if_neg c0] at h
  by_cases c1 : a = 1
  · subst c1
    obtain ⟨k1, k2, k61⟩ := h1 rfl
    rw [if_pos rfl] at h
    obtain ⟨-, -, f1, -, f3, f4⟩ := hL.2.2.2 b k1 k2
    have hxb := hx b k1 k2
    rw [pm_e_1]
    have it : ∀ j : Nat, (j : Int) < g 130 b.toNat → pm_Kn Y (wk_it g 61 (g 126 (wk_alt g j (g 129 b.toNat)).toNat)) ∧ pm_pot Y (wk_it g 61 (g 126 (wk_alt g j (g 129 b.toNat)).toNat)) ≤ 5 * (wk_x Y b - wk_b Y b) - 7 := by
      intro j hj
      obtain ⟨-, -, j3⟩ := f4 j hj
      obtain ⟨i1, i2, i3⟩ := pm_it hL k61 61 _ j3
      refine ⟨i1, ?_⟩
      rcases j3 with j3 | ⟨j3, j4⟩
      · have := i2 j3
        omega
      · by_cases c : g 126 (wk_alt g j (g 129 b.toNat)).toNat < 0
        · have := i2 c
          omega
        · have := i3 (by omega)
          have := (hL.2.2.1 _ (by omega) j3).1.2.2.1
          rw [j4] at this
          omega
    unfold pm_fo at h
    by_cases w1 : 1 < g 130 b.toNat
    · rw [if_pos w1] at h
      obtain ⟨n, n1, h⟩ := Option.bind_eq_some_iff.mp h
      obtain ⟨t, t1, t2⟩ := Option.map_eq_some_iff.mp h
      subst t2
      obtain ⟨-, a2, a3, -⟩ := gm_c_e t1
      obtain ⟨d1, d2, -⟩ := gm_d_e (t := t)
      obtain ⟨i, i1, i2, -⟩ := pm_dr_e _ _ _ _ n1
      have en : n.toNat = i := by omega
      rw [en]
      obtain ⟨x1, x2⟩ := it i (by omega)
      refine ⟨pm_Kn_a _ _ x1 ⟨pm_k_o (by decide) (by decide) (by decide), hr⟩, ?_, ?_, ?_, ?_⟩
      · show gm_len s ≤ gm_len (gm_d t)
        omega
      · show gm_F s ≤ gm_F (gm_d t)
        omega
      · show gm_F (gm_d t) ≤ gm_F s + 1
        omega
      · show pm_pot Y (_ ++ (2, 0, 0) :: r) + 2 ≤ _ + _ + 302 * (gm_len (gm_d t) - gm_len s)
        rw [pm_pot_a]
        show _ + (pm_e2 Y (2, 0, 0) + pm_pot Y r) + 2 ≤ _
        rw [pm_e_o (by decide) (by decide)]
        omega
    · rw [if_neg w1] at h
      injection h with h
      subst h
      obtain ⟨x1, x2⟩ := it 0 (by omega)
      refine ⟨pm_Kn_a _ _ x1 hr, Int.le_refl _, Int.le_refl _, by show gm_F s ≤ gm_F s + 1; omega, ?_⟩
      show pm_pot Y (_ ++ r) + 2 ≤ _ + _ + 302 * (gm_len s - gm_len s)
      rw [pm_pot_a]
      have x2 : pm_pot Y (wk_it g 61 (g 126 (g 129 b.toNat).toNat)) ≤ 5 * (wk_x Y b - wk_b Y b) - 7 := x2
      omega
  rw [if_neg c1, if_neg h5] at h
  rw [pm_e_o c0 c1]
  by_cases c2 : a = 2
  · rw [if_pos c2] at h
    injection h with h
    subst h
    refine ⟨hr, ?_, ?_, ?_, ?_⟩ <;> simp only [gm_len, gm_T_mk, gm_F_mk] <;> omega
  rw [if_neg c2] at h
  by_cases c3 : a = 3
  · rw [if_pos c3] at h
    injection h with h
    subst h
    have e1 : gm_len (gm_mid s) = gm_len s := by unfold gm_len gm_mid; rw [gm_T_mk]
    have e2 := pm_F_mid (s := s)
    refine ⟨hr, ?_, ?_, ?_, ?_⟩ <;> dsimp only <;> omega
  · rw [if_neg c3] at h
    injection h with h
    subst h
    have e1 := gm_tu_len s
    have e2 := pm_F_tu (s := s)
    refine ⟨hr, ?_, ?_, ?_, ?_⟩ <;> dsimp only <;> omega
end PM3
section PM4
variable {g : wk_g} {Y : wk_Y} {E : pm_E} {pf pa : Int → Int → Bool}
/-- a run of n turns from a stack without an AGAIN -/
def pm_b (g : wk_g) (Y : wk_Y) (E : pm_E) (n : Nat) : Prop := ∀ (l : Int) (A B : List wk_E) (s s' : gm_S), pm_Kn Y A → pw_to (pm_st g E l) n (A, s) (B, s') → 2 * (n : Int) + pm_pot Y B ≤ pm_pot Y A + 302 * (gm_len s' - gm_len s) + 298 * (gm_F s' - gm_F s) ∧ (B = [] → 1 ≤ gm_F s' - gm_F s → 2 * (n : Int) ≤ pm_pot Y A + 302 * (gm_len s' - gm_len s) + 298 * (gm_F s' - gm_F s - 1))
/-- .. from one with an AGAIN on the top -/
def pm_m (g : wk_g) (Y : wk_Y) (E : pm_E) (n : Nat) : Prop := ∀ (l u a : Int) (q B : List wk_E) (s s' : gm_S), 0 ≤ u → u < wk_u Y → wk_e Y u - u ≤ 60 → pm_Kn Y q → pw_to (pm_st g E l) n ((5, u, a) :: q, s) (B, s') → 2 * (n : Int) + pm_pot Y B ≤ 299 + pm_pot Y q + 302 * (gm_len s' - gm_len s) + 298 * (gm_F s' - gm_F s) ∧ (B = [] → 1 ≤ gm_F s' - gm_F s → 2 * (n : Int) ≤ 299 + pm_pot Y q + 302 * (gm_len s' - gm_len s) + 298 * (gm_F s' - gm_F s - 1)) ∧ (B = [] → gm_F s' = gm_F s → 2 * (n : Int) ≤ 2 + pm_pot Y q + 302 * (gm_len s' - gm_len s))
theorem pm_b_s (hL : wk_L g Y) (hx : pm_x Y) {n : Nat} (hb : pm_b g Y E n) (hm : pm_m g Y E n) : pm_b g Y E (n + 1) := by
  intro l A B s s' hK h
  cases A with
  | nil =>
    obtain ⟨h1, -⟩ := pw_end _ h
    omega
  | cons e r =>
    obtain ⟨c1, h3, h4⟩ := pw_cons h
    obtain ⟨A1, s1⟩ := c1
    have F0 := pm_to_F _ _ h4
    dsimp only at F0
    by_cases cw : e.1 = 0 ∧ g 122 e.2.1.toNat = 1
    · obtain ⟨a, b, z⟩ := e
      obtain ⟨cw, w1⟩ := cw
      dsimp only at cw w1
      subst cw
      obtain ⟨⟨h0, -, -⟩, hr⟩ := hK
      obtain ⟨k1, k2, k60⟩ := h0 rfl
      dsimp only at k1 k2 k60
      rw [pm_st_0] at h3
      unfold pm_u at h3
      rw [if_pos w1] at h3
      obtain ⟨t, t1, t2⟩ := Option.map_eq_some_iff.mp h3
      injection t2 with t2 t3
      subst t2
      subst t3
      obtain ⟨-, a2, a3, -⟩ := gm_c_e t1
      obtain ⟨d1, d2, -⟩ := gm_d_e (t := t)
      have T1 := pm_op_len (s := s) (o := z)
      have T2 := pm_F_op (s := s) (o := z)
      obtain ⟨m1, m2, -⟩ := hm _ _ _ _ _ _ _ k1 k2 k60 (show pm_Kn Y ((2, 0, 0) :: r) from ⟨pm_k_o (by decide) (by decide) (by decide), hr⟩) h4
      have p2 : pm_pot Y ((2, 0, 0) :: r) = 2 + pm_pot Y r := by
        show pm_e2 Y (2, 0, 0) + pm_pot Y r = _
        rw [pm_e_o (by decide) (by decide)]
      have p0 : pm_pot Y ((0, b, z) :: r) = 5 * (wk_e Y b - b) - 3 + pm_pot Y r := rfl
      have l1 := (hL.2.2.1 b k1 k2).1.1
      rw [p2] at m1 m2
      rw [p0]
      refine ⟨by omega, fun q1 q2 => ?_⟩
      have := m2 q1 (by omega)
      omega
    · obtain ⟨x1, x2, x3, x4, x5⟩ := pm_st_pot hL hx (fun q w => cw ⟨q, w⟩) hK h3
      dsimp only at x1 x2 x3 x4 x5
      obtain ⟨b1, b2⟩ := hb _ _ _ _ _ x1 h4
      refine ⟨by omega, fun q1 q2 => ?_⟩
      by_cases cf : 1 ≤ gm_F s' - gm_F s1
      · have := b2 q1 cf
        omega
      · rw [q1] at b1
        have : pm_pot Y [] = 0 := rfl
        omega
theorem pm_m_s (hL : wk_L g Y) (hH : pm_Hs g Y E pf pa) {n : Nat} (hb : ∀ m, m ≤ n → pm_b g Y E m) (hm : ∀ m, m ≤ n → pm_m g Y E m) : pm_m g Y E (n + 1) := by
  intro l u a q B s s' u0 u1 u60 hq h
  obtain ⟨c1, h3, h4⟩ := pw_cons h
  rw [pm_st_5] at h3
  unfold pm_ag at h3
  have e0 : pm_pot Y [] = 0 := rfl
  have l1 := (hL.2.2.1 u u0 u1).1.1
  by_cases ch : pm_h E u s = true
  · rw [if_pos ch] at h3
    have h3' := h3
    rw [show ((5, u, a) :: q : List wk_E) = [] ++ ((5, u, a) :: q) from rfl, pm_sg_loc] at h3'
    obtain ⟨c0, k1, k2⟩ := Option.map_eq_some_iff.mp h3'
    subst k2
    obtain ⟨A, s1, s2, s3, s4, s5⟩ := pm_sg_pot hL u0 u1 u60 k1
    rw [List.append_nil] at s1
    rw [pm_inc_len] at s3 s5
    rw [pm_inc_e.1] at s4
    obtain ⟨C, t⟩ := c0
    dsimp only at s1 s3 s4 s5 h4
    subst s1
    rcases pw_split pm_loc n (C, t) h4 with ⟨B0, t', i1, i2, i3⟩ | ⟨n1, t1, i1, i2, i3⟩
    · injection i1 with i4 i5
      subst i4
      subst i5
      have b1 := (hb n (Nat.le_refl _) _ _ _ _ _ s2 i3).1
      rw [pm_pot_a]
      have p5 : pm_pot Y ((5, u, a) :: q) = 2 + pm_pot Y q := by
        show pm_e2 Y (5, u, a) + pm_pot Y q = _
        rw [pm_e_o (by decide) (by decide)]
      rw [p5]
      refine ⟨by omega, fun q1 => absurd (List.append_eq_nil_iff.mp q1).1 i2, fun q1 => absurd (List.append_eq_nil_iff.mp q1).1 i2⟩
    · have F1 : gm_F s < gm_F t1 := by
        have x := pm_eat_sg hL hH (pm_eat hL hH n1) (Nat.le_refl _) u0 u1 (s := pm_inc a s) (by rw [pm_h_of pm_inc_e.1]; exact ch) k1 i2
        have x2 := (pm_inc_e (s := s) (a := a)).1
        omega
      have F2 := pm_to_F _ _ i3
      dsimp only at F2
      obtain ⟨b1, b2⟩ := hb n1 i1 _ _ _ _ _ s2 i2
      have b3 : 2 * (n1 : Int) ≤ pm_pot Y C + 302 * (gm_len t1 - gm_len t) + 298 * (gm_F t1 - gm_F s - 1) := by
        by_cases cf : 1 ≤ gm_F t1 - gm_F t
        · have := b2 rfl cf
          omega
        · rw [e0] at b1
          omega
      obtain ⟨m1, m2, m3⟩ := hm (n - n1) (by omega) _ _ _ _ _ _ _ u0 u1 u60 hq i3
      have en : ((n - n1 : Nat) : Int) = (n : Int) - n1 := by omega
      rw [en] at m1 m2 m3
      refine ⟨by omega, fun q1 q2 => ?_, fun q1 q2 => by omega⟩
      by_cases cf : 1 ≤ gm_F s' - gm_F t1
      · have := m2 q1 cf
        omega
      · have := m3 q1 (by omega)
        omega
  · rw [if_neg ch] at h3
    injection h3 with h3
    subst h3
    obtain ⟨b1, b2⟩ := hb n (Nat.le_refl _) _ _ _ _ _ hq h4
    refine ⟨by omega, fun q1 q2 => ?_, fun q1 q2 => ?_⟩
    · have := b2 q1 q2
      omega
    · rw [q1, e0] at b1
      omega
theorem pm_b_all (hL : wk_L g Y) (hx : pm_x Y) (hH : pm_Hs g Y E pf pa) : ∀ (N n : Nat), n ≤ N → pm_b g Y E n ∧ pm_m g Y E n := by
  intro N
  induction N with
  | zero =>
    intro n hn
    have : n = 0 := by omega
    subst this
    constructor
    · intro l A B s s' hK h
      have h : ((A, s) : gm_C) = (B, s') := h
      injection h with h1 h2
      subst h1
      subst h2
      exact ⟨by omega, fun _ _ => by omega⟩
    · intro l u a q B s s' u0 u1 u60 hq h
      have h : (((5, u, a) :: q, s) : gm_C) = (B, s') := h
      injection h with h1 h2
      subst h1
      subst h2
      have p5 : pm_pot Y ((5, u, a) :: q) = 2 + pm_pot Y q := by
        show pm_e2 Y (5, u, a) + pm_pot Y q = _
        rw [pm_e_o (by decide) (by decide)]
      rw [p5]
      exact ⟨by omega, fun q1 => absurd q1 (List.cons_ne_nil _ _), fun q1 => absurd q1 (List.cons_ne_nil _ _)⟩
  | succ N ih =>
    intro n hn
    by_cases c : n ≤ N
    · exact ih n c
    · have : n = N + 1 := by omega
      subst this
      exact ⟨pm_b_s hL hx (ih N (Nat.le_refl _)).1 (ih N (Nat.le_refl _)).2, pm_m_s hL hH (fun m h => (ih m h).1) (fun m h => (ih m h).2)⟩
/-- from the start: fewer than the turns that there are -/
theorem pm_turns (hL : wk_L g Y) (hx : pm_x Y) (hH : pm_Hs g Y E pf pa) {l f0 : Int} (hr : wk_Lrule Y f0) {n : Nat} {B : List wk_E} {s s' : gm_S} (hs : gm_len s = 1 ∧ gm_F s = 0) (h : pw_to (pm_st g E l) n ([(1, f0, 0), (2, 1, 0)], s) (B, s')) (hl : gm_len s' ≤ 100) (hF : gm_F s' ≤ 160) (hB : 0 ≤ pm_pot Y B) : n < 40000 := by
  obtain ⟨r1, r2, r3⟩ := hr
  have := ((pm_b_all hL hx hH n n (Nat.le_refl _)).1 l _ _ _ _ (show pm_Kn Y [(1, f0, 0), (2, 1, 0)] from ⟨pm_k_1 r1 r2 r3, pm_k_o (by decide) (by decide) (by decide), trivial⟩) h).1
  have p : pm_pot Y [(1, f0, 0), (2, 1, 0)] = 5 * (wk_x Y f0 - wk_b Y f0) - 5 + 2 := by
    show pm_e2 Y (1, f0, 0) + (pm_e2 Y (2, 1, 0) + 0) = _
    rw [pm_e_1, pm_e_o (by decide) (by decide)]
    omega
  omega
end PM4
