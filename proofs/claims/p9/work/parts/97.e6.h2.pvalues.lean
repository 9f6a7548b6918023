/-! what is parsed is a replay of what was made -/
def vl (T : List (Int × Int × Int)) (a : Int) : Int := ((T[a.toNat]?).map (fun x => x.2.1)).getD 0
def cv1 (V : Int → Int) (T : List (Int × Int × Int)) (e : wk_E) : wk_E := if e.1 = 5 then (5, e.2.1, V e.2.2 - vl T e.2.2) else e
def cv (V : Int → Int) (T : List (Int × Int × Int)) (B : List wk_E) : List wk_E := B.map (cv1 V T)
/-- the open ones stand in their order -/
def pm_lt : List wk_E → Prop
  | [] => True
  | e :: r => (e.1 = 5 → ∀ x ∈ r, x.1 = 5 → x.2.2 < e.2.2) ∧ pm_lt r
def pv_W (c : gm_C) : Prop := pm_I c ∧ (∀ e ∈ c.1, 0 ≤ e.1 ∧ e.1 ≤ 5) ∧ (∀ e ∈ c.1, e.1 = 5 → ∃ v d, (gm_T c.2)[e.2.2.toNat]? = some (5 + 10 * e.2.2, v, d)) ∧ pm_lt c.1 ∧ ∀ x ∈ gm_T c.2, 0 ≤ x.1 ∧ x.1 / 10 < gm_len c.2
/-- values so far: at most V's, and V's unless it is open -/
def okp (V : Int → Int) (B : List wk_E) (T : List (Int × Int × Int)) : Prop := ∀ x ∈ T, x.2.1 ≤ V (x.1 / 10) ∧ ((∀ z ∈ B, z.1 = 5 → z.2.2 ≠ x.1 / 10) → V (x.1 / 10) = x.2.1)
section VP0
variable {V : Int → Int} {T : List (Int × Int × Int)} {B r : List wk_E}
theorem cv_app {P : List wk_E} : cv V T (P ++ r) = cv V T P ++ cv V T r := List.map_append
theorem cv_n5 (h : ∀ z ∈ B, z.1 ≠ 5) : cv V T B = B := by
  induction B with
  | nil => rfl
  | cons e B ih =>
    show cv1 V T e :: cv V T B = e :: B
    rw [ih (fun z hz => h z (List.mem_cons_of_mem _ hz))]
    unfold cv1
    rw [if_neg (h e List.mem_cons_self)]
theorem cv_eq2 {T' : List (Int × Int × Int)} (h : ∀ z ∈ B, z.1 = 5 → vl T' z.2.2 = vl T z.2.2) : cv V T' B = cv V T B := by
  induction B with
  | nil => rfl
  | cons e B ih =>
    show cv1 V T' e :: cv V T' B = cv1 V T e :: cv V T B
    rw [ih (fun z hz => h z (List.mem_cons_of_mem _ hz))]
    unfold cv1
    by_cases c : e.1 = 5
    · rw [if_pos c, if_pos c, h e List.mem_cons_self c]
    · rw [if_neg c, if_neg c]
theorem cv_ul : wk_ul (cv V T B) = wk_ul B := by
  induction B with
  | nil => rfl
  | cons e B ih =>
    obtain ⟨a, b, c⟩ := e
    show wk_ul (cv1 V T (a, b, c) :: cv V T B) = wk_ul ((a, b, c) :: B)
    unfold cv1
    dsimp only
    by_cases h5 : a = 5
    · rw [if_pos h5, h5, wk_ul_c (show (5 : Int) ≠ 2 by decide), wk_ul_c (show (5 : Int) ≠ 2 by decide), ih]
    · rw [if_neg h5]
      by_cases h2 : a = 2
      · subst h2
        rw [wk_ul_o, wk_ul_o, ih]
      · rw [wk_ul_c h2, wk_ul_c h2, ih]
theorem vT_up {a : Nat} : ∀ (T : List (Int × Int × Int)) (a : Nat), vT V (pm_up a T) = vT V T := by
  intro T
  induction T with
  | nil => intro a; cases a <;> rfl
  | cons x T ih =>
    intro a
    cases a with
    | zero => rfl
    | succ a =>
      show (x.1, V (x.1 / 10), x.2.2) :: vT V (pm_up a T) = (x.1, V (x.1 / 10), x.2.2) :: vT V T
      rw [ih]
theorem pm_up_mem {x : Int × Int × Int} : ∀ (T : List (Int × Int × Int)) (a : Nat), x ∈ T → ∃ y ∈ pm_up a T, y.1 = x.1 ∧ x.2.1 ≤ y.2.1 := by
  intro T
  induction T with
  | nil => intro a h; cases h
  | cons z T ih =>
    intro a h
    cases a with
    | zero =>
      rcases List.mem_cons.mp h with rfl | h
      · exact ⟨_, List.mem_cons_self, rfl, by show x.2.1 ≤ x.2.1 + 1; omega⟩
      · exact ⟨x, List.mem_cons_of_mem _ h, rfl, Int.le_refl _⟩
    | succ a =>
      rcases List.mem_cons.mp h with rfl | h
      · exact ⟨_, List.mem_cons_self, rfl, Int.le_refl _⟩
      · obtain ⟨y, y1, y2⟩ := ih a h
        exact ⟨y, List.mem_cons_of_mem _ y1, y2⟩
theorem pm_up_mem2 {x : Int × Int × Int} : ∀ (T : List (Int × Int × Int)) (a : Nat), x ∈ T → (∀ z, T[a]? = some z → z.1 ≠ x.1) → x ∈ pm_up a T := by
  intro T
  induction T with
  | nil => intro a h; cases h
  | cons z T ih =>
    intro a h hz
    cases a with
    | zero =>
      rcases List.mem_cons.mp h with rfl | h
      · exact absurd rfl (hz x rfl)
      · exact List.mem_cons_of_mem _ h
    | succ a =>
      rcases List.mem_cons.mp h with rfl | h
      · exact List.mem_cons_self
      · exact List.mem_cons_of_mem _ (ih a h (fun w hw => hz w hw))
theorem pm_up_mem3 {x : Int × Int × Int} : ∀ (T : List (Int × Int × Int)) (a : Nat), x ∈ pm_up a T → ∃ y ∈ T, y.1 = x.1 := by
  intro T
  induction T with
  | nil => intro a h; cases a <;> cases h
  | cons z T ih =>
    intro a h
    cases a with
    | zero =>
      rcases List.mem_cons.mp h with rfl | h
      · exact ⟨z, List.mem_cons_self, rfl⟩
      · exact ⟨x, List.mem_cons_of_mem _ h, rfl⟩
    | succ a =>
      rcases List.mem_cons.mp h with rfl | h
      · exact ⟨x, List.mem_cons_self, rfl⟩
      · obtain ⟨y, y1, y2⟩ := ih a h
        exact ⟨y, List.mem_cons_of_mem _ y1, y2⟩
theorem pm_it_c {g : wk_g} : ∀ (n : Nat) (u : Int), ∀ x ∈ wk_it g n u, 0 ≤ x.1 ∧ x.1 ≤ 5 := by
  intro n
  induction n with
  | zero => intro u x hx; cases hx
  | succ n ih =>
    intro u x hx
    unfold wk_it at hx
    split at hx
    · cases hx
    · split at hx
      · simp only [List.mem_cons] at hx
        rcases hx with rfl | rfl | rfl | rfl | hx
        · exact ⟨show (0 : Int) ≤ 0 by decide, show (0 : Int) ≤ 5 by decide⟩
        · exact ⟨show (0 : Int) ≤ 3 by decide, show (3 : Int) ≤ 5 by decide⟩
        · exact ⟨show (0 : Int) ≤ 0 by decide, show (0 : Int) ≤ 5 by decide⟩
        · exact ⟨show (0 : Int) ≤ 4 by decide, show (4 : Int) ≤ 5 by decide⟩
        · exact ih _ x hx
      · simp only [List.mem_cons] at hx
        rcases hx with rfl | hx
        · exact ⟨show (0 : Int) ≤ 0 by decide, show (0 : Int) ≤ 5 by decide⟩
        · exact ih _ x hx
theorem pm_lt_app {P : List wk_E} (h : ∀ z ∈ P, z.1 ≠ 5) (hr : pm_lt r) : pm_lt (P ++ r) := by
  induction P with
  | nil => exact hr
  | cons e P ih => exact ⟨fun q => absurd q (h e List.mem_cons_self), ih (fun z hz => h z (List.mem_cons_of_mem _ hz))⟩
end VP0
section VP1
variable {V : Int → Int} {g : wk_g} {E : pm_E} {s s1 : gm_S} {r r1 : List wk_E}
theorem nP2 {a b c a' b' c' : Int} (h : a ≠ 5) (h' : a' ≠ 5) : ∀ z ∈ ([(a, b, c), (a', b', c')] : List wk_E), z.1 ≠ 5 := fun z hz => by
  rcases List.mem_cons.mp hz with rfl | hz
  · exact h
  · rw [List.mem_singleton.mp hz]
    exact h'
theorem nP1 {a b c : Int} (h : a ≠ 5) : ∀ z ∈ ([(a, b, c)] : List wk_E), z.1 ≠ 5 := fun z hz => by
  rw [List.mem_singleton.mp hz]
  exact h
/-- a node that comes, as what is appended -/
theorem pv_c {k v : Int} {t : gm_S} (hk : 0 ≤ k ∧ k < 10) (h : gm_c k v s = some t) : ∃ A, gm_T t = gm_T s ++ A ∧ (∀ x ∈ A, 0 ≤ x.1 ∧ x.1 / 10 = gm_len s ∧ x.2.1 = v) ∧ gm_len t = gm_len s + 1 ∧ ∃ d, A = [(k + 10 * gm_len s, v, d)] := by
  obtain ⟨-, -, t1, -, -⟩ := gm_c_t h
  refine ⟨_, t1, fun x hx => ?_, ?_, gm_D s, rfl⟩
  · rw [List.mem_singleton.mp hx]
    refine ⟨?_, ?_, rfl⟩
    · show 0 ≤ k + 10 * ((gm_T s).length : Int)
      omega
    · show (k + 10 * ((gm_T s).length : Int)) / 10 = ((gm_T s).length : Int)
      omega
  · have := (gm_c_len h).2
    unfold gm_len
    omega
theorem pv_sg {u : Int} (h : pm_sg 0 g E u r s = some (r1, s1)) : ∃ P A, r1 = P ++ r ∧ (∀ z ∈ P, z.1 ≠ 5 ∧ 0 ≤ z.1 ∧ z.1 ≤ 5) ∧ gm_T s1 = gm_T s ++ A ∧ (∀ x ∈ A, 0 ≤ x.1 ∧ x.1 / 10 = gm_len s ∧ gm_len s < gm_len s1) ∧ gm_len s ≤ gm_len s1 ∧ ((∀ x ∈ A, V (x.1 / 10) = x.2.1) → ∀ r', wk_ul r' = wk_ul r → dm_sg 0 g V u r' (vs V s) = some (P ++ r', vs V s1)) := by
  unfold pm_sg at h
  unfold dm_sg
  by_cases c9 : g 119 u.toNat = 9
  · rw [if_pos c9] at h
    unfold pm_en at h
    by_cases cu : 12 ≤ 0 + wk_ul r
    · rw [if_pos cu] at h
      cases h
    · rw [if_neg cu] at h
      obtain ⟨t, h1, h2⟩ := Option.map_eq_some_iff.mp h
      injection h2 with h3 h4
      subst h3
      subst h4
      obtain ⟨A, a1, a2, a3, -⟩ := pv_c (by decide) h1
      have el : gm_len (gm_d t) = gm_len t := gm_d_e.1
      refine ⟨[(1, _, 0), (2, 1, 0)], A, rfl, fun z hz => ?_, by rw [gm_d_T]; exact a1, fun x hx => ⟨(a2 x hx).1, (a2 x hx).2.1, by omega⟩, by omega, fun hA r' hr => ?_⟩
      · refine ⟨nP2 (by decide) (by decide) z hz, ?_⟩
        rcases List.mem_cons.mp hz with rfl | hz
        · exact ⟨show (0 : Int) ≤ 1 by decide, show (1 : Int) ≤ 5 by decide⟩
        · rw [List.mem_singleton.mp hz]
          exact ⟨show (0 : Int) ≤ 2 by decide, show (2 : Int) ≤ 5 by decide⟩
      · rw [if_pos c9]
        unfold pm_en
        rw [hr, if_neg cu]
        obtain ⟨-, -, t1, -, -⟩ := gm_c_t h1
        have eA : A = [(1 + 10 * ((gm_T s).length : Int), g 115 (g 120 u.toNat).toNat, gm_D s)] := List.append_cancel_left (a1.symm.trans t1)
        have hv := hA _ (by rw [eA]; exact List.mem_cons_self)
        dsimp only at hv
        rw [show (1 + 10 * ((gm_T s).length : Int)) / 10 = ((gm_T s).length : Int) by omega] at hv
        have hv : V (gm_len s) = g 115 (g 120 u.toNat).toNat := hv
        have := vs_c (V := V) (s := s) (by decide) h1 rfl rfl rfl
        rw [hv] at this
        rw [this, Option.map_some, vs_d]
        rfl
  · rw [if_neg c9] at h
    by_cases c10 : g 119 u.toNat = 10
    · rw [if_pos c10] at h
      injection h with h
      injection h with h1 h2
      subst h1
      subst h2
      refine ⟨[(1, g 120 u.toNat, 0)], [], rfl, fun z hz => ?_, (List.append_nil _).symm, fun x hx => (by cases hx), Int.le_refl _, fun _ r' _ => ?_⟩
      · rw [List.mem_singleton.mp hz]
        exact ⟨show (1 : Int) ≠ 5 by decide, show (0 : Int) ≤ 1 by decide, show (1 : Int) ≤ 5 by decide⟩
      · rw [if_neg c9, if_pos c10]
        rfl
    · rw [if_neg c10] at h
      obtain ⟨t, h1, h2⟩ := Option.map_eq_some_iff.mp h
      injection h2 with h3 h4
      subst h3
      subst h4
      unfold pm_lf at h1
      -- a node of kind k
      have node : ∀ k v t', (0 ≤ k ∧ k < 10) → (∀ w : gm_S, gm_c k (V (gm_len s)) (vs V s) = some w → dm_lf V (g 119 u.toNat) (vs V s) = some w) → (gm_c k v s).map pm_nx = some t' → ∃ P A, r = P ++ r ∧ (∀ z ∈ P, z.1 ≠ 5 ∧ 0 ≤ z.1 ∧ z.1 ≤ 5) ∧ gm_T t' = gm_T s ++ A ∧ (∀ x ∈ A, 0 ≤ x.1 ∧ x.1 / 10 = gm_len s ∧ gm_len s < gm_len t') ∧ gm_len s ≤ gm_len t' ∧ ((∀ x ∈ A, V (x.1 / 10) = x.2.1) → ∀ r', wk_ul r' = wk_ul r → (if g 119 u.toNat = 9 then pm_en 0 g (g 115 (g 120 u.toNat).toNat) r' (vs V s) else if g 119 u.toNat = 10 then some ((1, g 120 u.toNat, 0) :: r', vs V s) else (dm_lf V (g 119 u.toNat) (vs V s)).map (fun t => (r', t))) = some (P ++ r', vs V t')) := by
        intro k v t' hk hd h
        obtain ⟨t, h1, h2⟩ := Option.map_eq_some_iff.mp h
        subst h2
        obtain ⟨A, a1, a2, a3, -⟩ := pv_c hk h1
        obtain ⟨n1, n2, n3, n4⟩ := pm_nx_e (s := t)
        have el : gm_len (pm_nx t) = gm_len t := by unfold gm_len; rw [n2]
        refine ⟨[], A, rfl, fun z hz => (by cases hz), by rw [n2]; exact a1, fun x hx => ⟨(a2 x hx).1, (a2 x hx).2.1, by omega⟩, by omega, fun _ r' _ => ?_⟩
        rw [if_neg c9, if_neg c10, hd _ (vs_c (V := V) (s := s) hk h1 rfl rfl rfl), vs_e n2 n3 n4]
        rfl
      -- nothing comes
      have no : ∀ t', (gm_T t' = gm_T s ∧ gm_D t' = gm_D s ∧ gm_P t' = gm_P s) → g 119 u.toNat ≠ 1 → g 119 u.toNat ≠ 2 → ∃ P A, r = P ++ r ∧ (∀ z ∈ P, z.1 ≠ 5 ∧ 0 ≤ z.1 ∧ z.1 ≤ 5) ∧ gm_T t' = gm_T s ++ A ∧ (∀ x ∈ A, 0 ≤ x.1 ∧ x.1 / 10 = gm_len s ∧ gm_len s < gm_len t') ∧ gm_len s ≤ gm_len t' ∧ ((∀ x ∈ A, V (x.1 / 10) = x.2.1) → ∀ r', wk_ul r' = wk_ul r → (if g 119 u.toNat = 9 then pm_en 0 g (g 115 (g 120 u.toNat).toNat) r' (vs V s) else if g 119 u.toNat = 10 then some ((1, g 120 u.toNat, 0) :: r', vs V s) else (dm_lf V (g 119 u.toNat) (vs V s)).map (fun t => (r', t))) = some (P ++ r', vs V t')) := by
        intro t' ⟨e1, e2, e3⟩ n1 n2
        have el : gm_len t' = gm_len s := by unfold gm_len; rw [e1]
        refine ⟨[], [], rfl, fun z hz => (by cases hz), by rw [e1, List.append_nil], fun x hx => (by cases hx), by omega, fun _ r' _ => ?_⟩
        rw [if_neg c9, if_neg c10, vs_e e1 e2 e3]
        unfold dm_lf
        rw [if_neg n1, if_neg n2]
        rfl
      by_cases c1 : g 119 u.toNat = 1
      · rw [if_pos c1] at h1
        split at h1
        · exact node 2 _ _ (by decide) (fun w hw => by unfold dm_lf; rw [if_pos c1, vs_len]; exact hw) h1
        · cases h1
      · rw [if_neg c1] at h1
        by_cases c2 : g 119 u.toNat = 2
        · rw [if_pos c2] at h1
          split at h1
          · exact node 3 _ _ (by decide) (fun w hw => by unfold dm_lf; rw [if_neg c1, if_pos c2, vs_len]; exact hw) h1
          · cases h1
        · rw [if_neg c2] at h1
          split at h1
          · split at h1
            · injection h1 with h1
              subst h1
              exact no _ ⟨pm_nx_e.2.1, pm_nx_e.2.2.1, pm_nx_e.2.2.2⟩ c1 c2
            · cases h1
          · injection h1 with h1
            subst h1
            exact no _ ⟨rfl, rfl, rfl⟩ c1 c2
end VP1
