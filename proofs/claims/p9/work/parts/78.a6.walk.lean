/-! THE WALK, purely. Entries: what is to be done (0 unit, 1 form, 2 out, 3 middle, 4 turn, 5 again), with, also; g: what lies in the arrays -/
abbrev wk_E : Type := Int × Int × Int
abbrev wk_g : Type := Nat → Nat → Int
def wk_alt (g : wk_g) : Nat → Int → Int
  | 0, a => a
  | n + 1, a => wk_alt g n (g 128 a.toNat)
/-- the items from a unit on, as they are put on the stack -/
def wk_it (g : wk_g) : Nat → Int → List wk_E
  | 0, _ => []
  | n + 1, u => if u < 0 then [] else if 0 ≤ g 124 u.toNat then (0, u, 1) :: (3, 0, 0) :: (0, g 124 u.toNat, 0) :: (4, 0, 0) :: wk_it g n (g 125 u.toNat) else (0, u, 0) :: wk_it g n (g 125 u.toNat)
/-- what nobody writes down: of a unit its end and its form; of a form its begin, its end, its depth; how many units, how many forms -/
abbrev wk_Y : Type := (Int → Int) × (Int → Int) × (Int → Int) × (Int → Int) × (Int → Int) × Int × Int
def wk_e (Y : wk_Y) (u : Int) : Int := Y.1 u
def wk_c (Y : wk_Y) (u : Int) : Int := Y.2.1 u
def wk_b (Y : wk_Y) (f : Int) : Int := Y.2.2.1 f
def wk_x (Y : wk_Y) (f : Int) : Int := Y.2.2.2.1 f
def wk_d (Y : wk_Y) (f : Int) : Int := Y.2.2.2.2.1 f
def wk_u (Y : wk_Y) : Int := Y.2.2.2.2.2.1
def wk_f (Y : wk_Y) : Int := Y.2.2.2.2.2.2
/-- the rule's form that a use stands for -/
def wk_rf (g : wk_g) (u : Int) : Int := g 114 (g 115 (g 120 u.toNat).toNat).toNat
def wk_Lrule (Y : wk_Y) (f : Int) : Prop := 0 ≤ f ∧ f < wk_f Y ∧ wk_x Y f - wk_b Y f ≤ 61
def wk_Lunit (g : wk_g) (Y : wk_Y) (u : Int) : Prop :=
  (u < wk_e Y u ∧ wk_e Y u ≤ wk_x Y (wk_c Y u) ∧ wk_b Y (wk_c Y u) < u ∧ 0 ≤ wk_c Y u ∧ wk_c Y u < wk_f Y) ∧
  (0 ≤ g 124 u.toNat → g 124 u.toNat < wk_u Y ∧ wk_c Y (g 124 u.toNat) = wk_c Y u ∧ wk_e Y u ≤ g 124 u.toNat ∧ g 124 (g 124 u.toNat).toNat < 0) ∧
  (0 ≤ g 125 u.toNat → g 125 u.toNat < wk_u Y ∧ wk_c Y (g 125 u.toNat) = wk_c Y u ∧ wk_e Y u ≤ g 125 u.toNat ∧ (0 ≤ g 124 u.toNat → wk_e Y (g 124 u.toNat) ≤ g 125 u.toNat)) ∧
  (g 119 u.toNat = 9 → 0 ≤ g 120 u.toNat ∧ g 120 u.toNat < 26 ∧ 0 ≤ g 115 (g 120 u.toNat).toNat ∧ g 115 (g 120 u.toNat).toNat < 10 ∧ wk_Lrule Y (wk_rf g u)) ∧
  (g 119 u.toNat = 10 → 0 ≤ g 120 u.toNat ∧ g 120 u.toNat < wk_f Y ∧ wk_x Y (g 120 u.toNat) - wk_b Y (g 120 u.toNat) ≤ wk_e Y u - u ∧ wk_d Y (g 120 u.toNat) = wk_d Y (wk_c Y u) + 1) ∧
  (g 119 u.toNat = 8 → 0 ≤ g 120 u.toNat ∧ g 120 u.toNat < 20)
def wk_Lform (g : wk_g) (Y : wk_Y) (f : Int) : Prop :=
  0 ≤ wk_d Y f ∧ wk_d Y f ≤ 4 ∧ 1 ≤ g 130 f.toNat ∧ wk_alt g (g 130 f.toNat).toNat (g 129 f.toNat) < 0 ∧ wk_b Y f < wk_x Y f ∧
  ∀ j : Nat, (j : Int) < g 130 f.toNat → 0 ≤ wk_alt g j (g 129 f.toNat) ∧ wk_alt g j (g 129 f.toNat) < 80 ∧ (g 126 (wk_alt g j (g 129 f.toNat)).toNat < 0 ∨ (g 126 (wk_alt g j (g 129 f.toNat)).toNat < wk_u Y ∧ wk_c Y (g 126 (wk_alt g j (g 129 f.toNat)).toNat) = f))
def wk_L (g : wk_g) (Y : wk_Y) : Prop := wk_u Y ≤ 60 ∧ wk_f Y ≤ 80 ∧ (∀ u, 0 ≤ u → u < wk_u Y → wk_Lunit g Y u) ∧ ∀ f, 0 ≤ f → f < wk_f Y → wk_Lform g Y f
/-- pairs: where they begin, their middle, how many nodes there are -/
abbrev wk_P : Type := (Nat → Int) × (Nat → Int) × Int
def wk_PB (Z : wk_P) (p : Int) : Prop := 0 ≤ Z.1 (p - 1).toNat ∧ Z.1 (p - 1).toNat ≤ Z.2.2
def wk_PM (Z : wk_P) (p : Int) : Prop := 0 ≤ Z.1 (p - 1).toNat ∧ Z.1 (p - 1).toNat ≤ Z.2.1 (p - 1).toNat ∧ Z.2.1 (p - 1).toNat ≤ Z.2.2
def wk_U (Y : wk_Y) (w i p l e : Int) : Prop := 0 ≤ w ∧ w < wk_u Y ∧ i + 4 * (wk_e Y w - w) - 2 ≤ 242 * l ∧ 0 ≤ p ∧ p ≤ 5 * (l - 1) + wk_d Y (wk_c Y w) + e ∧ 1 ≤ l ∧ l ≤ 12
def wk_F (Y : wk_Y) (f i p l : Int) : Prop := 0 ≤ f ∧ f < wk_f Y ∧ i + 4 * (wk_x Y f - wk_b Y f) - 4 ≤ 242 * l ∧ 0 ≤ p ∧ p ≤ 5 * (l - 1) + wk_d Y f ∧ 1 ≤ l ∧ l ≤ 12
def wk_A (Y : wk_Y) (w i p l : Int) : Prop := 0 ≤ w ∧ w < wk_u Y ∧ i + 4 * (wk_e Y w - w) - 2 ≤ 242 * l + 1 ∧ 0 ≤ p ∧ p ≤ 5 * (l - 1) + wk_d Y (wk_c Y w) + 1 ∧ 1 ≤ l ∧ l ≤ 12
/-- what holds of the stack (the top first), of how many pairs are open and of how many uses; q: 1 to 3 below the first one of a pair that is not open yet -/
def wk_SI (Y : wk_Y) (Z : wk_P) : List wk_E → Nat → Int → Int → Prop
  | [], q, p, l => q = 0 ∧ p = 0 ∧ l = 0
  | e :: r, q, p, l =>
    (q = 0 ∧ e.1 = 0 ∧ e.2.2 = 0 ∧ wk_U Y e.2.1 (r.length : Int) p l 1 ∧ wk_SI Y Z r 0 p l) ∨
    (q = 0 ∧ e.1 = 0 ∧ e.2.2 = 1 ∧ wk_U Y e.2.1 (r.length : Int) p l 0 ∧ wk_SI Y Z r 1 (p + 1) l) ∨
    (q = 0 ∧ e.1 = 3 ∧ 1 ≤ p ∧ wk_PB Z p ∧ wk_SI Y Z r 2 p l) ∨
    (q = 1 ∧ e.1 = 3 ∧ 1 ≤ p ∧ wk_SI Y Z r 2 p l) ∨
    (q = 2 ∧ e.1 = 0 ∧ e.2.2 = 0 ∧ wk_U Y e.2.1 (r.length : Int) p l 1 ∧ wk_SI Y Z r 3 p l) ∨
    (q = 0 ∧ e.1 = 4 ∧ 1 ≤ p ∧ wk_PM Z p ∧ wk_SI Y Z r 0 (p - 1) l) ∨
    (q = 3 ∧ e.1 = 4 ∧ 1 ≤ p ∧ wk_SI Y Z r 0 (p - 1) l) ∨
    (q = 0 ∧ e.1 = 1 ∧ wk_F Y e.2.1 (r.length : Int) p l ∧ wk_SI Y Z r 0 p l) ∨
    (q = 0 ∧ e.1 = 5 ∧ wk_A Y e.2.1 (r.length : Int) p l ∧ wk_SI Y Z r 0 p l) ∨
    (q = 0 ∧ e.1 = 2 ∧ (e.2.1 = 0 ∨ e.2.1 = 1) ∧ 0 ≤ p ∧ 1 ≤ l ∧ l ≤ 12 ∧ wk_SI Y Z r 0 p (l - e.2.1))
section WK1
variable {g : wk_g} {Y : wk_Y} {Z Z' : wk_P} {r : List wk_E} {p l : Int}
theorem wk_unit0 {w : Int} (h : wk_SI Y Z ((0, w, 0) :: r) 0 p l) : wk_U Y w (r.length : Int) p l 1 ∧ wk_SI Y Z r 0 p l := by
  unfold wk_SI at h
  dsimp only at h
  rcases h with h | h | h | h | h | h | h | h | h | h
  · exact ⟨h.2.2.2.1, h.2.2.2.2⟩
  all_goals (exfalso; omega)
theorem wk_unit1 {w : Int} (h : wk_SI Y Z ((0, w, 1) :: r) 0 p l) : wk_U Y w (r.length : Int) p l 0 ∧ wk_SI Y Z r 1 (p + 1) l := by
  unfold wk_SI at h
  dsimp only at h
  rcases h with h | h | h | h | h | h | h | h | h | h
  · exfalso; omega
  · exact ⟨h.2.2.2.1, h.2.2.2.2⟩
  all_goals (exfalso; omega)
theorem wk_mid {w a : Int} (h : wk_SI Y Z ((3, w, a) :: r) 0 p l) : 1 ≤ p ∧ wk_PB Z p ∧ wk_SI Y Z r 2 p l := by
  unfold wk_SI at h
  dsimp only at h
  rcases h with h | h | h | h | h | h | h | h | h | h
  · exfalso; omega
  · exfalso; omega
  · exact h.2.2
  all_goals (exfalso; omega)
theorem wk_turn {w a : Int} (h : wk_SI Y Z ((4, w, a) :: r) 0 p l) : 1 ≤ p ∧ wk_PM Z p ∧ wk_SI Y Z r 0 (p - 1) l := by
  unfold wk_SI at h
  dsimp only at h
  rcases h with h | h | h | h | h | h | h | h | h | h
  · exfalso; omega
  · exfalso; omega
  · exfalso; omega
  · exfalso; omega
  · exfalso; omega
  · exact h.2.2
  all_goals (exfalso; omega)
theorem wk_form {w a : Int} (h : wk_SI Y Z ((1, w, a) :: r) 0 p l) : wk_F Y w (r.length : Int) p l ∧ wk_SI Y Z r 0 p l := by
  unfold wk_SI at h
  dsimp only at h
  rcases h with h | h | h | h | h | h | h | h | h | h
  · exfalso; omega
  · exfalso; omega
  · exfalso; omega
  · exfalso; omega
  · exfalso; omega
  · exfalso; omega
  · exfalso; omega
  · exact h.2.2
  all_goals (exfalso; omega)
theorem wk_again {w a : Int} (h : wk_SI Y Z ((5, w, a) :: r) 0 p l) : wk_A Y w (r.length : Int) p l ∧ wk_SI Y Z r 0 p l := by
  unfold wk_SI at h
  dsimp only at h
  rcases h with h | h | h | h | h | h | h | h | h | h
  · exfalso; omega
  · exfalso; omega
  · exfalso; omega
  · exfalso; omega
  · exfalso; omega
  · exfalso; omega
  · exfalso; omega
  · exfalso; omega
  · exact h.2.2
  · exfalso; omega
theorem wk_out {w a : Int} (h : wk_SI Y Z ((2, w, a) :: r) 0 p l) : (w = 0 ∨ w = 1) ∧ 0 ≤ p ∧ 1 ≤ l ∧ l ≤ 12 ∧ wk_SI Y Z r 0 p (l - w) := by
  unfold wk_SI at h
  dsimp only at h
  rcases h with h | h | h | h | h | h | h | h | h | h
  · exfalso; omega
  · exfalso; omega
  · exfalso; omega
  · exfalso; omega
  · exfalso; omega
  · exfalso; omega
  · exfalso; omega
  · exfalso; omega
  · exfalso; omega
  · exact h.2.2
/-- what stands on the top: one of the seven -/
theorem wk_cases {e : wk_E} (h : wk_SI Y Z (e :: r) 0 p l) : (e.1 = 0 ∧ (e.2.2 = 0 ∨ e.2.2 = 1)) ∨ e.1 = 1 ∨ e.1 = 2 ∨ e.1 = 3 ∨ e.1 = 4 ∨ e.1 = 5 := by
  unfold wk_SI at h
  rcases h with h | h | h | h | h | h | h | h | h | h <;> omega
/-- .. put there -/
theorem wk_pu0 {w : Int} (h1 : wk_U Y w (r.length : Int) p l 1) (h2 : wk_SI Y Z r 0 p l) : wk_SI Y Z ((0, w, 0) :: r) 0 p l := by
  unfold wk_SI
  exact Or.inl ⟨rfl, rfl, rfl, h1, h2⟩
theorem wk_pform {f a : Int} (h1 : wk_F Y f (r.length : Int) p l) (h2 : wk_SI Y Z r 0 p l) : wk_SI Y Z ((1, f, a) :: r) 0 p l := by
  unfold wk_SI
  exact Or.inr (Or.inr (Or.inr (Or.inr (Or.inr (Or.inr (Or.inr (Or.inl ⟨rfl, rfl, h1, h2⟩)))))))
theorem wk_pagain {w a : Int} (h1 : wk_A Y w (r.length : Int) p l) (h2 : wk_SI Y Z r 0 p l) : wk_SI Y Z ((5, w, a) :: r) 0 p l := by
  unfold wk_SI
  exact Or.inr (Or.inr (Or.inr (Or.inr (Or.inr (Or.inr (Or.inr (Or.inr (Or.inl ⟨rfl, rfl, h1, h2⟩))))))))
theorem wk_pout {w a : Int} (hw : w = 0 ∨ w = 1) (hp : 0 ≤ p) (h0 : 1 ≤ l) (h1 : l ≤ 12) (h2 : wk_SI Y Z r 0 p (l - w)) : wk_SI Y Z ((2, w, a) :: r) 0 p l := by
  unfold wk_SI
  exact Or.inr (Or.inr (Or.inr (Or.inr (Or.inr (Or.inr (Or.inr (Or.inr (Or.inr ⟨rfl, rfl, hw, hp, h0, h1, h2⟩))))))))
theorem wk_ppair {u v a b c d : Int} (h1 : wk_U Y u ((r.length : Int) + 3) p l 0) (h2 : wk_U Y v ((r.length : Int) + 1) (p + 1) l 1) (h3 : wk_SI Y Z r 0 p l) : wk_SI Y Z ((0, u, 1) :: (3, a, b) :: (0, v, 0) :: (4, c, d) :: r) 0 p l := by
  have hp : 0 ≤ p := h1.2.2.2.1
  have e1 : (((3, a, b) :: (0, v, 0) :: (4, c, d) :: r : List wk_E).length : Int) = (r.length : Int) + 3 := by simp only [List.length_cons]; omega
  have e2 : (((4, c, d) :: r : List wk_E).length : Int) = (r.length : Int) + 1 := by simp only [List.length_cons]; omega
  have s3 : wk_SI Y Z ((4, c, d) :: r) 3 (p + 1) l := by
    unfold wk_SI
    refine Or.inr (Or.inr (Or.inr (Or.inr (Or.inr (Or.inr (Or.inl ⟨rfl, rfl, by omega, ?_⟩))))))
    have : p + 1 - 1 = p := by omega
    rw [this]
    exact h3
  have s2 : wk_SI Y Z ((0, v, 0) :: (4, c, d) :: r) 2 (p + 1) l := by
    unfold wk_SI
    refine Or.inr (Or.inr (Or.inr (Or.inr (Or.inl ⟨rfl, rfl, rfl, ?_, s3⟩))))
    rw [e2]
    exact h2
  have s1 : wk_SI Y Z ((3, a, b) :: (0, v, 0) :: (4, c, d) :: r) 1 (p + 1) l := by
    unfold wk_SI
    exact Or.inr (Or.inr (Or.inr (Or.inl ⟨rfl, rfl, by omega, s2⟩)))
  unfold wk_SI
  refine Or.inr (Or.inl ⟨rfl, rfl, rfl, ?_, s1⟩)
  rw [e1]
  exact h1
/-- other pairs -/
theorem wk_SI_Z : ∀ (r : List wk_E) (q : Nat) (p l : Int), wk_SI Y Z r q p l → (∀ i : Nat, (i : Int) < (if q = 0 then p else p - 1) → Z'.1 i = Z.1 i ∧ Z'.2.1 i = Z.2.1 i) → Z.2.2 ≤ Z'.2.2 → wk_SI Y Z' r q p l := by
  intro r
  induction r with
  | nil => intro q p l h _ _; exact h
  | cons e r ih =>
    intro q p l h hz hm
    unfold wk_SI at h ⊢
    rcases h with h | h | h | h | h | h | h | h | h | h
    · obtain ⟨rfl, h1, h2, h3, h4⟩ := h
      exact Or.inl ⟨rfl, h1, h2, h3, ih _ _ _ h4 hz hm⟩
    · obtain ⟨rfl, h1, h2, h3, h4⟩ := h
      refine Or.inr (Or.inl ⟨rfl, h1, h2, h3, ih _ _ _ h4 (fun i hi => hz i ?_) hm⟩)
      rw [if_neg (by decide)] at hi
      rw [if_pos rfl]
      omega
    · obtain ⟨rfl, h1, h2, h3, h4⟩ := h
      refine Or.inr (Or.inr (Or.inl ⟨rfl, h1, h2, ?_, ih _ _ _ h4 (fun i hi => hz i ?_) hm⟩))
      · obtain ⟨z1, -⟩ := hz (p - 1).toNat (by rw [if_pos rfl]; omega)
        unfold wk_PB at h3 ⊢
        rw [z1]
        omega
      · rw [if_neg (by decide)] at hi
        rw [if_pos rfl]
        omega
    · obtain ⟨rfl, h1, h2, h4⟩ := h
      exact Or.inr (Or.inr (Or.inr (Or.inl ⟨rfl, h1, h2, ih _ _ _ h4 hz hm⟩)))
    · obtain ⟨rfl, h1, h2, h3, h4⟩ := h
      exact Or.inr (Or.inr (Or.inr (Or.inr (Or.inl ⟨rfl, h1, h2, h3, ih _ _ _ h4 hz hm⟩))))
    · obtain ⟨rfl, h1, h2, h3, h4⟩ := h
      refine Or.inr (Or.inr (Or.inr (Or.inr (Or.inr (Or.inl ⟨rfl, h1, h2, ?_, ih _ _ _ h4 (fun i hi => hz i ?_) hm⟩)))))
      · obtain ⟨z1, z2⟩ := hz (p - 1).toNat (by rw [if_pos rfl]; omega)
        unfold wk_PM at h3 ⊢
        rw [z1, z2]
        omega
      · rw [if_pos rfl] at hi ⊢
        omega
    · obtain ⟨rfl, h1, h2, h4⟩ := h
      refine Or.inr (Or.inr (Or.inr (Or.inr (Or.inr (Or.inr (Or.inl ⟨rfl, h1, h2, ih _ _ _ h4 (fun i hi => hz i ?_) hm⟩))))))
      rw [if_pos rfl] at hi
      rw [if_neg (by decide)]
      exact hi
    · obtain ⟨rfl, h1, h2, h4⟩ := h
      exact Or.inr (Or.inr (Or.inr (Or.inr (Or.inr (Or.inr (Or.inr (Or.inl ⟨rfl, h1, h2, ih _ _ _ h4 hz hm⟩)))))))
    · obtain ⟨rfl, h1, h2, h4⟩ := h
      exact Or.inr (Or.inr (Or.inr (Or.inr (Or.inr (Or.inr (Or.inr (Or.inr (Or.inl ⟨rfl, h1, h2, ih _ _ _ h4 hz hm⟩))))))))
    · obtain ⟨rfl, h1, h2, h3, h4, h5, h6⟩ := h
      exact Or.inr (Or.inr (Or.inr (Or.inr (Or.inr (Or.inr (Or.inr (Or.inr (Or.inr ⟨rfl, h1, h2, h3, h4, h5, ih _ _ _ h6 hz hm⟩))))))))
/-- a pair is opened; its middle comes -/
theorem wk_open (h : wk_SI Y Z r 1 p l) (hb : wk_PB Z p) : wk_SI Y Z r 0 p l := by
  cases r with
  | nil =>
    unfold wk_SI at h
    omega
  | cons e r =>
    unfold wk_SI at h ⊢
    rcases h with h | h | h | h | h | h | h | h | h | h
    · exfalso; omega
    · exfalso; omega
    · exfalso; omega
    · exact Or.inr (Or.inr (Or.inl ⟨rfl, h.2.1, h.2.2.1, hb, h.2.2.2⟩))
    all_goals (exfalso; omega)
theorem wk_middle (h : wk_SI Y Z r 2 p l) (hb : wk_PM Z p) : wk_SI Y Z r 0 p l := by
  cases r with
  | nil =>
    unfold wk_SI at h
    omega
  | cons e r =>
    unfold wk_SI at h ⊢
    rcases h with h | h | h | h | h | h | h | h | h | h
    · exfalso; omega
    · exfalso; omega
    · exfalso; omega
    · exfalso; omega
    · refine Or.inl ⟨rfl, h.2.1, h.2.2.1, h.2.2.2.1, ?_⟩
      have h3 := h.2.2.2.2
      cases r with
      | nil =>
        unfold wk_SI at h3
        omega
      | cons e2 r2 =>
        unfold wk_SI at h3 ⊢
        rcases h3 with k | k | k | k | k | k | k | k | k | k
        · exfalso; omega
        · exfalso; omega
        · exfalso; omega
        · exfalso; omega
        · exfalso; omega
        · exfalso; omega
        · exact Or.inr (Or.inr (Or.inr (Or.inr (Or.inr (Or.inl ⟨rfl, k.2.1, k.2.2.1, hb, k.2.2.2⟩)))))
        all_goals (exfalso; omega)
    all_goals (exfalso; omega)
/-- the items of an alternative -/
theorem wk_SI_it (hL : wk_L g Y) {f : Int} (hf0 : 0 ≤ f) (hf1 : f < wk_f Y) (hr : wk_SI Y Z r 0 p l) (hl0 : 1 ≤ l) (hl1 : l ≤ 12) (hp0 : 0 ≤ p) (hp1 : p ≤ 5 * (l - 1) + wk_d Y f) : ∀ (n : Nat) (u : Int), (u < 0 ∨ (u < wk_u Y ∧ wk_c Y u = f)) → (0 ≤ u → (r.length : Int) + 4 * (wk_x Y f - u) - 1 ≤ 242 * l) → wk_SI Y Z (wk_it g n u ++ r) 0 p l ∧ (0 ≤ u → ((wk_it g n u).length : Int) ≤ 2 * (wk_x Y f - u)) ∧ (u < 0 → (wk_it g n u).length = 0) := by
  intro n
  induction n with
  | zero =>
    intro u hu hb
    refine ⟨hr, fun h0 => ?_, fun _ => rfl⟩
    show (0 : Int) ≤ _
    have hu2 : u < wk_u Y ∧ wk_c Y u = f := by omega
    obtain ⟨⟨a1, a2, -⟩, -⟩ := hL.2.2.1 u h0 hu2.1
    rw [hu2.2] at a2
    omega
  | succ n ih =>
    intro u hu hb
    unfold wk_it
    by_cases hneg : u < 0
    · rw [if_pos hneg]
      exact ⟨hr, fun h0 => absurd hneg (by omega), fun _ => rfl⟩
    · rw [if_neg hneg]
      have h0 : 0 ≤ u := by omega
      have hu2 : u < wk_u Y ∧ wk_c Y u = f := by omega
      have hb := hb h0
      obtain ⟨⟨a1, a2, -⟩, a3, a4, -⟩ := hL.2.2.1 u h0 hu2.1
      rw [hu2.2] at a2 a3 a4
      generalize hv : g 125 u.toNat = v at a4
      have hih := ih v (by
        by_cases hv0 : 0 ≤ v
        · have := a4 hv0
          exact Or.inr ⟨this.1, this.2.1⟩
        · exact Or.inl (by omega)) (fun hv0 => by have := a4 hv0; omega)
      obtain ⟨i1, i2, i3⟩ := hih
      generalize hm : g 124 u.toNat = m at a3 a4
      by_cases hm0 : 0 ≤ m
      · rw [if_pos hm0]
        have a3 := a3 hm0
        obtain ⟨⟨b1, b2, -⟩, -⟩ := hL.2.2.1 m hm0 a3.1
        rw [a3.2.1] at b2
        have hk : (((wk_it g n v).length : Nat) : Int) ≤ 2 * (wk_x Y f - wk_e Y m) := by
          by_cases hv0 : 0 ≤ v
          · have := i2 hv0
            have := (a4 hv0).2.2.2 hm0
            omega
          · have := i3 (by omega)
            omega
        have hlen : ((wk_it g n v ++ r).length : Int) = ((wk_it g n v).length : Int) + (r.length : Int) := by rw [List.length_append]; omega
        refine ⟨?_, fun _ => ?_, fun z => absurd z hneg⟩
        · show wk_SI Y Z ((0, u, 1) :: (3, 0, 0) :: (0, m, 0) :: (4, 0, 0) :: (wk_it g n v ++ r)) 0 p l
          refine wk_ppair ?_ ?_ i1
          · rw [hlen]
            unfold wk_U
            rw [hu2.2]
            exact ⟨h0, hu2.1, by omega, hp0, by omega, hl0, hl1⟩
          · rw [hlen]
            unfold wk_U
            rw [a3.2.1]
            exact ⟨hm0, a3.1, by omega, by omega, by omega, hl0, hl1⟩
        · simp only [List.length_cons]
          omega
      · rw [if_neg hm0]
        have hk : (((wk_it g n v).length : Nat) : Int) ≤ 2 * (wk_x Y f - wk_e Y u) := by
          by_cases hv0 : 0 ≤ v
          · have := i2 hv0
            have := (a4 hv0).2.2.1
            omega
          · have := i3 (by omega)
            omega
        have hlen : ((wk_it g n v ++ r).length : Int) = ((wk_it g n v).length : Int) + (r.length : Int) := by rw [List.length_append]; omega
        refine ⟨?_, fun _ => ?_, fun z => absurd z hneg⟩
        · show wk_SI Y Z ((0, u, 0) :: (wk_it g n v ++ r)) 0 p l
          refine wk_pu0 ?_ i1
          rw [hlen]
          unfold wk_U
          rw [hu2.2]
          exact ⟨h0, hu2.1, by omega, hp0, by omega, hl0, hl1⟩
        · simp only [List.length_cons]
          omega
/-- what a unit by itself puts on the stack -/
def wk_sS (g : wk_g) (u : Int) (r : List wk_E) : List wk_E := if g 119 u.toNat = 9 then (1, wk_rf g u, 0) :: (2, 1, 0) :: r else if g 119 u.toNat = 10 then (1, g 120 u.toNat, 0) :: r else r
def wk_sl (g : wk_g) (u l : Int) : Int := if g 119 u.toNat = 9 then l + 1 else l
theorem wk_SI_s (hL : wk_L g Y) {u : Int} (hu0 : 0 ≤ u) (hu1 : u < wk_u Y) (hr : wk_SI Y Z r 0 p l) (hl0 : 1 ≤ l) (hl1 : wk_sl g u l ≤ 12) (hp0 : 0 ≤ p) (hp1 : p ≤ 5 * (l - 1) + wk_d Y (wk_c Y u) + 1) (hi : (r.length : Int) + 4 * (wk_e Y u - u) - 4 ≤ 242 * l) : wk_SI Y Z (wk_sS g u r) 0 p (wk_sl g u l) := by
  obtain ⟨⟨a1, a2, a3, a4, a5⟩, -, -, a6, a7, -⟩ := hL.2.2.1 u hu0 hu1
  have hd := hL.2.2.2 _ a4 a5
  unfold wk_sS wk_sl at *
  by_cases h9 : g 119 u.toNat = 9
  · rw [if_pos h9] at hl1 ⊢
    rw [if_pos h9]
    obtain ⟨-, -, -, -, b1, b2, b3⟩ := a6 h9
    have hd2 := hL.2.2.2 _ b1 b2
    refine wk_pform ⟨b1, b2, ?_, hp0, ?_, by omega, hl1⟩ (wk_pout (Or.inr rfl) hp0 (by omega) hl1 ?_)
    · simp only [List.length_cons]
      omega
    · have h1 := hd.2.1
      have h2 := hd2.1
      omega
    · have : l + 1 - 1 = l := by omega
      rw [this]
      exact hr
  · rw [if_neg h9] at hl1 ⊢
    rw [if_neg h9]
    by_cases h10 : g 119 u.toNat = 10
    · rw [if_pos h10]
      obtain ⟨b1, b2, b3, b4⟩ := a7 h10
      refine wk_pform ⟨b1, b2, by omega, hp0, by omega, hl0, hl1⟩ hr
    · rw [if_neg h10]
      exact hr
end WK1
