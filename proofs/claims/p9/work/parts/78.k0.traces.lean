/-! traces -/
section TRC
variable {g : wk_g} {K V K' V' : Nat → Int}
def wk_n5 (P : List wk_E) : Prop := ∀ e, e ∈ P → e.1 ≠ 5
theorem wk_n5_it : ∀ (N : Nat) (u : Int), wk_n5 (wk_it g N u) := by
  intro N
  induction N with
  | zero => intro u e he; cases he
  | succ N ih =>
    intro u e he
    unfold wk_it at he
    split at he
    · cases he
    · split at he
      · simp only [List.mem_cons] at he
        rcases he with rfl | rfl | rfl | rfl | he
        · exact show (0 : Int) ≠ 5 from by decide
        · exact show (3 : Int) ≠ 5 from by decide
        · exact show (0 : Int) ≠ 5 from by decide
        · exact show (4 : Int) ≠ 5 from by decide
        · exact ih _ e he
      · simp only [List.mem_cons] at he
        rcases he with rfl | he
        · exact show (0 : Int) ≠ 5 from by decide
        · exact ih _ e he
theorem wk_n5_a {P Q : List wk_E} (h1 : wk_n5 P) (h2 : wk_n5 Q) : wk_n5 (P ++ Q) := fun e he => (List.mem_append.mp he).elim (h1 e) (h2 e)
theorem wk_n5_0 : wk_n5 [] := fun e he => by cases he
theorem wk_n5_c {e : wk_E} {P : List wk_E} (h1 : e.1 ≠ 5) (h2 : wk_n5 P) : wk_n5 (e :: P) := fun x hx => by
  rcases List.mem_cons.mp hx with rfl | hx
  · exact h1
  · exact h2 x hx
/-- what a unit by itself does, over any stack -/
theorem wk_sg_P {u : Int} {r s' : List wk_E} {c c' : Nat} (h : wk_sg g K u r c = some (s', c')) : ∃ P, wk_n5 P ∧ s' = P ++ r ∧ ∀ r', wk_ul r' = wk_ul r → wk_sg g K u r' c = some (P ++ r', c') := by
  unfold wk_sg at h
  by_cases h9 : g 119 u.toNat = 9
  · rw [if_pos h9] at h
    by_cases hc : K c = 1 ∧ wk_ul r < 12
    · rw [if_pos hc] at h
      cases h
      refine ⟨[(1, wk_rf g u, 0), (2, 1, 0)], wk_n5_c (show (1 : Int) ≠ 5 from by decide) (wk_n5_c (show (2 : Int) ≠ 5 from by decide) wk_n5_0), by unfold wk_sS; rw [if_pos h9]; rfl, fun r' hr => ?_⟩
      unfold wk_sg
      rw [if_pos h9, hr, if_pos hc]
      unfold wk_sS
      rw [if_pos h9]
      rfl
    · rw [if_neg hc] at h
      cases h
  · rw [if_neg h9] at h
    by_cases h1 : g 119 u.toNat = 1
    · rw [if_pos h1] at h
      by_cases hc : K c = 2
      · rw [if_pos hc] at h
        cases h
        refine ⟨[], wk_n5_0, rfl, fun r' hr => ?_⟩
        unfold wk_sg
        rw [if_neg h9, if_pos h1, if_pos hc]
        rfl
      · rw [if_neg hc] at h
        cases h
    · rw [if_neg h1] at h
      by_cases h2 : g 119 u.toNat = 2
      · rw [if_pos h2] at h
        by_cases hc : K c = 3
        · rw [if_pos hc] at h
          cases h
          refine ⟨[], wk_n5_0, rfl, fun r' hr => ?_⟩
          unfold wk_sg
          rw [if_neg h9, if_neg h1, if_pos h2, if_pos hc]
          rfl
        · rw [if_neg hc] at h
          cases h
      · rw [if_neg h2] at h
        cases h
        by_cases h10 : g 119 u.toNat = 10
        · refine ⟨[(1, g 120 u.toNat, 0)], wk_n5_c (show (1 : Int) ≠ 5 from by decide) wk_n5_0, by unfold wk_sS; rw [if_neg h9, if_pos h10]; rfl, fun r' hr => ?_⟩
          unfold wk_sg
          rw [if_neg h9, if_neg h1, if_neg h2]
          unfold wk_sS
          rw [if_neg h9, if_pos h10]
          rfl
        · refine ⟨[], wk_n5_0, by unfold wk_sS; rw [if_neg h9, if_neg h10]; rfl, fun r' hr => ?_⟩
          unfold wk_sg
          rw [if_neg h9, if_neg h1, if_neg h2]
          unfold wk_sS
          rw [if_neg h9, if_neg h10]
          rfl
theorem wk_pf_P {e : wk_E} {r s' : List wk_E} {c c' : Nat} (h5 : e.1 ≠ 5) (hw : e.1 = 0 → g 122 e.2.1.toNat ≠ 1) (h : wk_pf g K V (e :: r, c) = some (s', c')) : ∃ P, wk_n5 P ∧ s' = P ++ r ∧ ∀ r', wk_ul r' = wk_ul r → wk_pf g K V (e :: r', c) = some (P ++ r', c') := by
  have n2 : ((2 : Int), (0 : Int), (0 : Int)).1 ≠ 5 := show (2 : Int) ≠ 5 from by decide
  unfold wk_pf at h
  dsimp only at h
  by_cases h0 : e.1 = 0
  · rw [if_pos h0, if_neg (hw h0)] at h
    by_cases h2 : g 122 e.2.1.toNat = 2
    · rw [if_pos h2] at h
      by_cases hk : K c = 6 ∧ 0 ≤ V c ∧ V c ≤ 1000000
      · rw [if_pos hk] at h
        by_cases hv : 0 < V c
        · rw [if_pos hv] at h
          obtain ⟨P, p1, p2, p3⟩ := wk_sg_P h
          refine ⟨P ++ [(2, 0, 0)], wk_n5_a p1 (wk_n5_c n2 wk_n5_0), by rw [p2, List.append_assoc]; rfl, fun r' hr => ?_⟩
          unfold wk_pf
          dsimp only
          rw [if_pos h0, if_neg (hw h0), if_pos h2, if_pos hk, if_pos hv, p3 ((2, 0, 0) :: r') (by rw [wk_ul_o, wk_ul_o, hr]), List.append_assoc]
          rfl
        · rw [if_neg hv] at h
          cases h
          refine ⟨[(2, 0, 0)], wk_n5_c n2 wk_n5_0, rfl, fun r' hr => ?_⟩
          unfold wk_pf
          dsimp only
          rw [if_pos h0, if_neg (hw h0), if_pos h2, if_pos hk, if_neg hv]
          rfl
      · rw [if_neg hk] at h
        cases h
    · rw [if_neg h2] at h
      obtain ⟨P, p1, p2, p3⟩ := wk_sg_P h
      refine ⟨P, p1, p2, fun r' hr => ?_⟩
      unfold wk_pf
      dsimp only
      rw [if_pos h0, if_neg (hw h0), if_neg h2]
      exact p3 r' hr
  · rw [if_neg h0] at h
    by_cases h1 : e.1 = 1
    · rw [if_pos h1] at h
      by_cases hc : 1 < g 130 e.2.1.toNat
      · rw [if_pos hc] at h
        by_cases hk : K c = 4 ∧ 0 ≤ V c ∧ V c < g 130 e.2.1.toNat
        · rw [if_pos hk] at h
          cases h
          refine ⟨wk_it g 61 (g 126 (wk_alt g (V c).toNat (g 129 e.2.1.toNat)).toNat) ++ [(2, 0, 0)], wk_n5_a (wk_n5_it _ _) (wk_n5_c n2 wk_n5_0), by rw [List.append_assoc]; rfl, fun r' hr => ?_⟩
          unfold wk_pf
          dsimp only
          rw [if_neg h0, if_pos h1, if_pos hc, if_pos hk, List.append_assoc]
          rfl
        · rw [if_neg hk] at h
          cases h
      · rw [if_neg hc] at h
        cases h
        refine ⟨wk_it g 61 (g 126 (g 129 e.2.1.toNat).toNat), wk_n5_it _ _, rfl, fun r' hr => ?_⟩
        unfold wk_pf
        dsimp only
        rw [if_neg h0, if_pos h1, if_neg hc]
    · rw [if_neg h1, if_neg h5] at h
      cases h
      refine ⟨[], wk_n5_0, rfl, fun r' hr => ?_⟩
      unfold wk_pf
      dsimp only
      rw [if_neg h0, if_neg h1, if_neg h5]
      rfl
/-- only what is consumed is looked at -/
theorem wk_sg_R {u : Int} {r s' : List wk_E} {c c' : Nat} (h : wk_sg g K u r c = some (s', c')) (hk : ∀ i, c ≤ i → i < c' → K' i = K i) : wk_sg g K' u r c = some (s', c') := by
  unfold wk_sg at h ⊢
  by_cases h9 : g 119 u.toNat = 9
  · rw [if_pos h9] at h ⊢
    by_cases hc : K c = 1 ∧ wk_ul r < 12
    · rw [if_pos hc] at h
      cases h
      rw [hk c (Nat.le_refl _) (Nat.lt_succ_self _), if_pos hc]
    · rw [if_neg hc] at h
      cases h
  · rw [if_neg h9] at h ⊢
    by_cases h1 : g 119 u.toNat = 1
    · rw [if_pos h1] at h ⊢
      by_cases hc : K c = 2
      · rw [if_pos hc] at h
        cases h
        rw [hk c (Nat.le_refl _) (Nat.lt_succ_self _), if_pos hc]
      · rw [if_neg hc] at h
        cases h
    · rw [if_neg h1] at h ⊢
      by_cases h2 : g 119 u.toNat = 2
      · rw [if_pos h2] at h ⊢
        by_cases hc : K c = 3
        · rw [if_pos hc] at h
          cases h
          rw [hk c (Nat.le_refl _) (Nat.lt_succ_self _), if_pos hc]
        · rw [if_neg hc] at h
          cases h
      · rw [if_neg h2] at h ⊢
        exact h
theorem wk_pf_R {s s' : List wk_E × Nat} (h : wk_pf g K V s = some s') (hk : ∀ i, s.2 ≤ i → i < s'.2 → K' i = K i ∧ V' i = V i) : wk_pf g K' V' s = some s' := by
  obtain ⟨l, c⟩ := s
  obtain ⟨l', c'⟩ := s'
  have hk : ∀ i, c ≤ i → i < c' → K' i = K i ∧ V' i = V i := hk
  cases l with
  | nil => unfold wk_pf at h; cases h
  | cons e r =>
    unfold wk_pf at h ⊢
    dsimp only at h ⊢
    have kc : c < c' → K' c = K c ∧ V' c = V c := fun z => hk c (Nat.le_refl _) z
    by_cases h0 : e.1 = 0
    · rw [if_pos h0] at h ⊢
      by_cases h1 : g 122 e.2.1.toNat = 1
      · rw [if_pos h1] at h ⊢
        split at h
        · rename_i hc
          cases h
          obtain ⟨a, b⟩ := kc (Nat.lt_succ_self _)
          rw [a, b, if_pos hc]
        · cases h
      · rw [if_neg h1] at h ⊢
        by_cases h2 : g 122 e.2.1.toNat = 2
        · rw [if_pos h2] at h ⊢
          split at h
          · rename_i hc
            split at h
            · rename_i hv
              have hm := wk_sg_mono h
              obtain ⟨a, b⟩ := kc hm
              rw [a, b, if_pos hc, if_pos hv]
              exact wk_sg_R h (fun i i1 i2 => (hk i (by omega) i2).1)
            · rename_i hv
              cases h
              obtain ⟨a, b⟩ := kc (Nat.lt_succ_self _)
              rw [a, b, if_pos hc, if_neg hv]
          · cases h
        · rw [if_neg h2] at h ⊢
          exact wk_sg_R h (fun i i1 i2 => (hk i i1 i2).1)
    · rw [if_neg h0] at h ⊢
      by_cases h1 : e.1 = 1
      · rw [if_pos h1] at h ⊢
        by_cases hcc : 1 < g 130 e.2.1.toNat
        · rw [if_pos hcc] at h ⊢
          split at h
          · rename_i hc
            cases h
            obtain ⟨a, b⟩ := kc (Nat.lt_succ_self _)
            rw [a, b, if_pos hc]
          · cases h
        · rw [if_neg hcc] at h ⊢
          exact h
      · rw [if_neg h1] at h ⊢
        by_cases h5 : e.1 = 5
        · rw [if_pos h5] at h ⊢
          split at h
          · rename_i hv
            rw [if_pos hv]
            exact wk_sg_R h (fun i i1 i2 => (hk i i1 i2).1)
          · rename_i hv
            rw [if_neg hv]
            exact h
        · rw [if_neg h5] at h ⊢
          exact h
/-- fives on the stack: which nodes; how they are seen from the end -/
def wk_ix : List wk_E → Int → Prop
  | [], _ => True
  | e :: r, n => if e.1 = 5 then 0 ≤ e.2.2 ∧ e.2.2 < n ∧ wk_ix r e.2.2 else wk_ix r n
def wk_on (i : Nat) (r : List wk_E) : Prop := ∃ e, e ∈ r ∧ e.1 = 5 ∧ e.2.2.toNat = i
def wk_cv (D : Nat → Int) (r : List wk_E) : List wk_E := r.map (fun e => if e.1 = 5 then (5, e.2.1, D e.2.2.toNat) else e)
theorem wk_ix_mono : ∀ (r : List wk_E) (n n' : Int), wk_ix r n → n ≤ n' → wk_ix r n' := by
  intro r
  induction r with
  | nil => intro n n' _ _; trivial
  | cons e r ih =>
    intro n n' h hn
    unfold wk_ix at h ⊢
    by_cases h5 : e.1 = 5
    · rw [if_pos h5] at h ⊢
      exact ⟨h.1, by omega, h.2.2⟩
    · rw [if_neg h5] at h ⊢
      exact ih n n' h hn
theorem wk_ix_on : ∀ (r : List wk_E) (n : Int), wk_ix r n → ∀ i, wk_on i r → (i : Int) < n := by
  intro r
  induction r with
  | nil => intro n _ i hi; obtain ⟨e, he, -⟩ := hi; cases he
  | cons e r ih =>
    intro n h i hi
    unfold wk_ix at h
    obtain ⟨x, hx, x5, xi⟩ := hi
    rcases List.mem_cons.mp hx with rfl | hx
    · rw [if_pos x5] at h
      omega
    · by_cases h5 : e.1 = 5
      · rw [if_pos h5] at h
        have := ih _ h.2.2 i ⟨x, hx, x5, xi⟩
        omega
      · rw [if_neg h5] at h
        exact ih _ h i ⟨x, hx, x5, xi⟩
theorem wk_ix_P {P r : List wk_E} {n : Int} (hP : wk_n5 P) (h : wk_ix r n) : wk_ix (P ++ r) n := by
  induction P with
  | nil => exact h
  | cons e P ih =>
    show wk_ix (e :: (P ++ r)) n
    unfold wk_ix
    rw [if_neg (hP e (List.mem_cons_self ..))]
    exact ih (fun x hx => hP x (List.mem_cons_of_mem _ hx))
theorem wk_on_P {P r : List wk_E} {i : Nat} (hP : wk_n5 P) : wk_on i (P ++ r) ↔ wk_on i r := by
  constructor
  · intro ⟨e, he, e5, ei⟩
    rcases List.mem_append.mp he with he | he
    · exact absurd e5 (hP e he)
    · exact ⟨e, he, e5, ei⟩
  · intro ⟨e, he, e5, ei⟩
    exact ⟨e, List.mem_append.mpr (Or.inr he), e5, ei⟩
theorem wk_cv_P {D : Nat → Int} {P r : List wk_E} (hP : wk_n5 P) : wk_cv D (P ++ r) = P ++ wk_cv D r := by
  induction P with
  | nil => rfl
  | cons e P ih =>
    show (if e.1 = 5 then (5, e.2.1, D e.2.2.toNat) else e) :: wk_cv D (P ++ r) = e :: (P ++ wk_cv D r)
    rw [if_neg (hP e (List.mem_cons_self ..)), ih (fun x hx => hP x (List.mem_cons_of_mem _ hx))]
theorem wk_cv_c {D : Nat → Int} {e : wk_E} {r : List wk_E} (h5 : e.1 ≠ 5) : wk_cv D (e :: r) = e :: wk_cv D r := by
  show (if e.1 = 5 then (5, e.2.1, D e.2.2.toNat) else e) :: wk_cv D r = _
  rw [if_neg h5]
theorem wk_cv_5 {D : Nat → Int} {w a : Int} {r : List wk_E} : wk_cv D ((5, w, a) :: r) = (5, w, D a.toNat) :: wk_cv D r := rfl
theorem wk_cv_eq {D D' : Nat → Int} : ∀ (r : List wk_E), (∀ i, wk_on i r → D i = D' i) → wk_cv D r = wk_cv D' r := by
  intro r
  induction r with
  | nil => intro _; rfl
  | cons e r ih =>
    intro h
    have h1 := ih (fun i hi => h i (by obtain ⟨x, hx, y⟩ := hi; exact ⟨x, List.mem_cons_of_mem _ hx, y⟩))
    show (if e.1 = 5 then (5, e.2.1, D e.2.2.toNat) else e) :: wk_cv D r = (if e.1 = 5 then (5, e.2.1, D' e.2.2.toNat) else e) :: wk_cv D' r
    rw [h1]
    by_cases h5 : e.1 = 5
    · rw [if_pos h5, if_pos h5, h _ ⟨e, List.mem_cons_self .., h5, rfl⟩]
    · rw [if_neg h5, if_neg h5]
theorem wk_cv_ul {D : Nat → Int} : ∀ (r : List wk_E), wk_ul (wk_cv D r) = wk_ul r := by
  intro r
  induction r with
  | nil => rfl
  | cons e r ih =>
    have e1 : wk_ul (e :: r) = (if e.1 = 2 then e.2.1 else 0) + wk_ul r := rfl
    by_cases h5 : e.1 = 5
    · obtain ⟨x, w, a⟩ := e
      have h5 : x = 5 := h5
      subst h5
      rw [wk_cv_5, wk_ul_c (by decide), ih, wk_ul_c (by decide)]
    · rw [wk_cv_c h5]
      have e2 : wk_ul (e :: wk_cv D r) = (if e.1 = 2 then e.2.1 else 0) + wk_ul (wk_cv D r) := rfl
      rw [e1, e2, ih]
end TRC
