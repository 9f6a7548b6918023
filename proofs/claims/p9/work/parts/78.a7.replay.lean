/-! THE REPLAY: K, V the kinds and the values of the nodes in the order in which they were made -/
/-- uses on the stack -/
def wk_ul : List wk_E → Int
  | [] => 0
  | e :: r => (if e.1 = 2 then e.2.1 else 0) + wk_ul r
def wk_sg (g : wk_g) (K : Nat → Int) (u : Int) (r : List wk_E) (c : Nat) : Option (List wk_E × Nat) :=
  if g 119 u.toNat = 9 then (if K c = 1 ∧ wk_ul r < 12 then some (wk_sS g u r, c + 1) else none)
  else if g 119 u.toNat = 1 then (if K c = 2 then some (r, c + 1) else none)
  else if g 119 u.toNat = 2 then (if K c = 3 then some (r, c + 1) else none)
  else some (wk_sS g u r, c)
def wk_pf (g : wk_g) (K V : Nat → Int) (s : List wk_E × Nat) : Option (List wk_E × Nat) := match s.1 with
  | [] => none
  | e :: r =>
    if e.1 = 0 then
      (if g 122 e.2.1.toNat = 1 then (if K s.2 = 5 ∧ 0 ≤ V s.2 ∧ V s.2 ≤ 1000000 then some ((5, e.2.1, V s.2) :: (2, 0, 0) :: r, s.2 + 1) else none)
       else if g 122 e.2.1.toNat = 2 then (if K s.2 = 6 ∧ 0 ≤ V s.2 ∧ V s.2 ≤ 1000000 then (if 0 < V s.2 then wk_sg g K e.2.1 ((2, 0, 0) :: r) (s.2 + 1) else some ((2, 0, 0) :: r, s.2 + 1)) else none)
       else wk_sg g K e.2.1 r s.2)
    else if e.1 = 1 then
      (if 1 < g 130 e.2.1.toNat then (if K s.2 = 4 ∧ 0 ≤ V s.2 ∧ V s.2 < g 130 e.2.1.toNat then some (wk_it g 61 (g 126 (wk_alt g (V s.2).toNat (g 129 e.2.1.toNat)).toNat) ++ (2, 0, 0) :: r, s.2 + 1) else none)
       else some (wk_it g 61 (g 126 (g 129 e.2.1.toNat).toNat) ++ r, s.2))
    else if e.1 = 5 then (if 0 < e.2.2 then wk_sg g K e.2.1 ((5, e.2.1, e.2.2 - 1) :: r) s.2 else some (r, s.2))
    else some (r, s.2)
def wk_tr (g : wk_g) (K V : Nat → Int) : Nat → List wk_E × Nat → Option (List wk_E × Nat)
  | 0, s => some s
  | n + 1, s => (wk_tr g K V n s).bind (wk_pf g K V)
def wk_0 (g : wk_g) : List wk_E × Nat := ([(1, g 114 0, 0), (2, 1, 0)], 1)
section WK2
variable {g : wk_g} {Y : wk_Y} {Z : wk_P} {K V V' : Nat → Int}
theorem wk_SI_ul : ∀ (r : List wk_E) (q : Nat) (p l : Int), wk_SI Y Z r q p l → wk_ul r = l := by
  intro r
  induction r with
  | nil => intro q p l h; unfold wk_SI at h; unfold wk_ul; omega
  | cons e r ih =>
    intro q p l h
    unfold wk_SI at h
    unfold wk_ul
    rcases h with h | h | h | h | h | h | h | h | h | h
    · rw [if_neg (by omega), ih _ _ _ h.2.2.2.2]; omega
    · rw [if_neg (by omega), ih _ _ _ h.2.2.2.2]; omega
    · rw [if_neg (by omega), ih _ _ _ h.2.2.2.2]; omega
    · rw [if_neg (by omega), ih _ _ _ h.2.2.2]; omega
    · rw [if_neg (by omega), ih _ _ _ h.2.2.2.2]; omega
    · rw [if_neg (by omega), ih _ _ _ h.2.2.2.2]; omega
    · rw [if_neg (by omega), ih _ _ _ h.2.2.2]; omega
    · rw [if_neg (by omega), ih _ _ _ h.2.2.2]; omega
    · rw [if_neg (by omega), ih _ _ _ h.2.2.2]; omega
    · rw [if_pos h.2.1, ih _ _ _ h.2.2.2.2.2.2]; omega
theorem wk_sg_mono {u : Int} {r : List wk_E} {c : Nat} {s' : List wk_E × Nat} (h : wk_sg g K u r c = some s') : c ≤ s'.2 := by
  unfold wk_sg at h
  repeat' split at h
  all_goals first
    | (cases h; done)
    | (cases h; exact Nat.le_succ _)
    | (cases h; exact Nat.le_refl _)
theorem wk_pf_mono {s s' : List wk_E × Nat} (h : wk_pf g K V s = some s') : s.2 ≤ s'.2 := by
  unfold wk_pf at h
  split at h
  · cases h
  · split at h
    · split at h
      · split at h
        · cases h; exact Nat.le_succ _
        · cases h
      · split at h
        · split at h
          · split at h
            · exact Nat.le_trans (Nat.le_succ _) (wk_sg_mono h)
            · cases h; exact Nat.le_succ _
          · cases h
        · exact wk_sg_mono h
    · split at h
      · split at h
        · split at h
          · cases h; exact Nat.le_succ _
          · cases h
        · cases h; exact Nat.le_refl _
      · split at h
        · split at h
          · exact wk_sg_mono h
          · cases h; exact Nat.le_refl _
        · cases h; exact Nat.le_refl _
/-- what the replay does not look at may change -/
theorem wk_pf_V (hV : ∀ k, K k = 4 ∨ K k = 5 ∨ K k = 6 → V' k = V k) (s : List wk_E × Nat) : wk_pf g K V' s = wk_pf g K V s := by
  unfold wk_pf
  split
  · rfl
  · by_cases h4 : K s.2 = 4 ∨ K s.2 = 5 ∨ K s.2 = 6
    · rw [hV _ h4]
    · have n4 : ¬ K s.2 = 4 := fun h => h4 (Or.inl h)
      have n5 : ¬ K s.2 = 5 := fun h => h4 (Or.inr (Or.inl h))
      have n6 : ¬ K s.2 = 6 := fun h => h4 (Or.inr (Or.inr h))
      simp only [n4, n5, n6, false_and, if_false]
theorem wk_tr_V (hV : ∀ k, K k = 4 ∨ K k = 5 ∨ K k = 6 → V' k = V k) (s : List wk_E × Nat) : ∀ n, wk_tr g K V' n s = wk_tr g K V n s := by
  intro n
  induction n with
  | zero => rfl
  | succ n ih =>
    unfold wk_tr
    rw [ih]
    exact congrArg _ (funext fun x => wk_pf_V hV x)
/-- a trace, up to any time -/
theorem wk_tr_le {s x : List wk_E × Nat} : ∀ (n t : Nat), wk_tr g K V n s = some x → t ≤ n → ∃ y, wk_tr g K V t s = some y ∧ y.2 ≤ x.2 := by
  intro n
  induction n generalizing x with
  | zero =>
    intro t h ht
    have : t = 0 := by omega
    subst this
    exact ⟨x, h, Nat.le_refl _⟩
  | succ n ih =>
    intro t h ht
    by_cases he : t = n + 1
    · subst he
      exact ⟨x, h, Nat.le_refl _⟩
    · unfold wk_tr at h
      cases hn : wk_tr g K V n s with
      | none => rw [hn] at h; cases h
      | some y =>
        rw [hn] at h
        obtain ⟨z, z1, z2⟩ := ih t hn (by omega)
        exact ⟨z, z1, Nat.le_trans z2 (wk_pf_mono h)⟩
theorem wk_tr_next {s x y : List wk_E × Nat} {n t : Nat} (h : wk_tr g K V n s = some x) (ht : t < n) (hy : wk_tr g K V t s = some y) : ∃ y', wk_pf g K V y = some y' ∧ wk_tr g K V (t + 1) s = some y' ∧ y'.2 ≤ x.2 := by
  obtain ⟨y', h1, h2⟩ := wk_tr_le n (t + 1) h ht
  refine ⟨y', ?_, h1, h2⟩
  unfold wk_tr at h1
  rw [hy] at h1
  exact h1
end WK2
