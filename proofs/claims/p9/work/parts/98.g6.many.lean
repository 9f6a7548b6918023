/-! what parse puts into nodes: no many more often than there are tokens; numbers, names -/
def nv_ok (x : Int × Int × Int) : Prop := (x.1 % 10 = 2 → 0 ≤ x.2.1 ∧ x.2.1 ≤ 9999) ∧ (x.1 % 10 = 3 → 0 < x.2.1 ∧ lgd 6 x.2.1)
def mv_Q (X : Int → Prop) (s : gm_S) : Prop := ∀ x ∈ gm_T s, nv_ok x ∧ (x.1 % 10 = 5 → ¬ X (x.1 / 10) → x.2.1 ≤ gm_F s)
/-- what is new -/
def mv_N (s t : gm_S) : Prop := gm_len s ≤ gm_len t ∧ ∀ x ∈ gm_T t, x ∈ gm_T s ∨ (gm_len s ≤ x.1 / 10 ∧ nv_ok x ∧ (x.1 % 10 = 5 → x.2.1 = 0))
def mv_g (Y : wk_Y) (B : List wk_E) : Prop := ∀ e ∈ B, ((e.1 = 0 ∨ e.1 = 5) → 0 ≤ e.2.1 ∧ e.2.1 < wk_u Y) ∧ (e.1 = 1 → 0 ≤ e.2.1 ∧ e.2.1 < wk_f Y)
section MVS
variable {g : wk_g} {E : pm_E} {Y : wk_Y} {N l : Int} {s t : gm_S} {r : List wk_E} {c : gm_C}
theorem mv_N_refl (h : gm_T t = gm_T s) : mv_N s t := ⟨by unfold gm_len; rw [h]; exact Int.le_refl _, fun x hx => Or.inl (by rw [← h]; exact hx)⟩
theorem mv_c {k v : Int} (hk : 0 ≤ k ∧ k < 10) (h : gm_c k v s = some t) (hv : (k = 2 → 0 ≤ v ∧ v ≤ 9999) ∧ (k = 3 → 0 < v ∧ lgd 6 v) ∧ (k = 5 → v = 0)) : mv_N s t := by
  obtain ⟨-, -, t3, -, -⟩ := gm_c_t h
  refine ⟨by unfold gm_len; rw [(gm_c_len h).2]; omega, fun x hx => ?_⟩
  rw [t3] at hx
  rcases List.mem_append.mp hx with hx | hx
  · exact Or.inl hx
  · have e := List.mem_singleton.mp hx
    have m : (k + 10 * ((gm_T s).length : Int)) % 10 = k := by omega
    refine Or.inr ?_
    rw [e]
    refine ⟨by show ((gm_T s).length : Int) ≤ (k + 10 * ((gm_T s).length : Int)) / 10; omega, ⟨fun q => hv.1 (by dsimp only at q; omega), fun q => hv.2.1 (by dsimp only at q; omega)⟩, fun q => hv.2.2 (by dsimp only at q; omega)⟩
theorem mv_N_T {t' : gm_S} (h : mv_N s t) (e : gm_T t' = gm_T t) : mv_N s t' := ⟨by have := h.1; unfold gm_len at this ⊢; rw [e]; exact this, fun x hx => h.2 x (by rw [← e]; exact hx)⟩
/-- a name's token -/
def mv_E (E : pm_E) (N : Int) : Prop := E.1 N = 0 ∧ ∀ j, 0 ≤ j → j ≤ N → E.1 j = 2 → 0 < E.2.1 j ∧ lgd 6 (E.2.1 j)
theorem mv_lf {o w : Int} (hE : mv_E E N) (f0 : 0 ≤ gm_F s) (f1 : gm_F s ≤ N) (h : pm_lf E o w s = some t) : mv_N s t := by
  unfold pm_lf at h
  by_cases c1 : o = 1
  · rw [if_pos c1] at h
    split at h
    · obtain ⟨t', k1, k2⟩ := Option.map_eq_some_iff.mp h
      subst k2
      exact mv_N_T (mv_c (by decide) k1 ⟨fun _ => by omega, fun q => absurd q (by decide), fun q => absurd q (by decide)⟩) pm_nx_e.2.1
    · cases h
  · rw [if_neg c1] at h
    by_cases c2 : o = 2
    · rw [if_pos c2] at h
      split at h
      · next q =>
        obtain ⟨t', k1, k2⟩ := Option.map_eq_some_iff.mp h
        subst k2
        exact mv_N_T (mv_c (by decide) k1 ⟨fun q => absurd q (by decide), fun _ => hE.2 _ f0 f1 q, fun q => absurd q (by decide)⟩) pm_nx_e.2.1
      · cases h
    · rw [if_neg c2] at h
      split at h
      · split at h
        · injection h with h
          subst h
          exact mv_N_refl pm_nx_e.2.1
        · cases h
      · injection h with h
        subst h
        exact mv_N_refl rfl
theorem mv_sg (hL : wk_L g Y) {u : Int} (hE : mv_E E N) (f0 : 0 ≤ gm_F s) (f1 : gm_F s ≤ N) (u0 : 0 ≤ u) (u1 : u < wk_u Y) (h : pm_sg l g E u r s = some c) : mv_N s c.2 ∧ ∃ A, c.1 = A ++ r ∧ mv_g Y A ∧ ∀ z ∈ A, z.1 ≠ 5 := by
  obtain ⟨-, -, -, l9, l10, -⟩ := hL.2.2.1 u u0 u1
  unfold pm_sg at h
  by_cases c9 : g 119 u.toNat = 9
  · rw [if_pos c9] at h
    unfold pm_en at h
    split at h
    · cases h
    · obtain ⟨t', k1, k2⟩ := Option.map_eq_some_iff.mp h
      subst k2
      obtain ⟨-, -, -, -, r1, r2, -⟩ := l9 c9
      refine ⟨mv_N_T (mv_c (by decide) k1 ⟨fun q => absurd q (by decide), fun q => absurd q (by decide), fun q => absurd q (by decide)⟩) gm_d_T, [(1, g 114 (g 115 (g 120 u.toNat).toNat).toNat, 0), (2, 1, 0)], rfl, fun e he => ?_, nP2 (by decide) (by decide)⟩
      rcases List.mem_cons.mp he with e1 | he
      · rw [e1]
        exact ⟨fun q => by rcases q with q | q <;> exact absurd q (by dsimp only; decide), fun _ => ⟨r1, r2⟩⟩
      · rw [List.mem_singleton.mp he]
        exact ⟨fun q => by rcases q with q | q <;> exact absurd q (by dsimp only; decide), fun q => absurd q (by dsimp only; decide)⟩
  · rw [if_neg c9] at h
    by_cases c10 : g 119 u.toNat = 10
    · rw [if_pos c10] at h
      injection h with h
      subst h
      obtain ⟨x1, x2, -⟩ := l10 c10
      refine ⟨mv_N_refl rfl, [(1, g 120 u.toNat, 0)], rfl, fun e he => ?_, nP1 (by decide)⟩
      rw [List.mem_singleton.mp he]
      exact ⟨fun q => by rcases q with q | q <;> exact absurd q (by dsimp only; decide), fun _ => ⟨x1, x2⟩⟩
    · rw [if_neg c10] at h
      obtain ⟨t', k1, k2⟩ := Option.map_eq_some_iff.mp h
      subst k2
      exact ⟨mv_lf hE f0 f1 k1, [], rfl, fun e he => absurd he List.not_mem_nil, fun z hz => absurd hz List.not_mem_nil⟩
theorem mv_it (hL : wk_L g Y) : ∀ (n : Nat) (u : Int), (u < 0 ∨ u < wk_u Y) → mv_g Y (wk_it g n u) ∧ ∀ z ∈ wk_it g n u, z.1 ≠ 5 := by
  intro n
  induction n with
  | zero => intro u _; exact ⟨fun e he => absurd he List.not_mem_nil, fun e he => absurd he List.not_mem_nil⟩
  | succ n ih =>
    intro u hu
    rw [wk_it]
    by_cases c : u < 0
    · rw [if_pos c]
      exact ⟨fun e he => absurd he List.not_mem_nil, fun e he => absurd he List.not_mem_nil⟩
    · rw [if_neg c]
      have u1 : u < wk_u Y := by omega
      obtain ⟨-, lm, ln, -⟩ := hL.2.2.1 u (by omega) u1
      obtain ⟨i1, i2⟩ := ih (g 125 u.toNat) (by
        by_cases q : 0 ≤ g 125 u.toNat
        · exact Or.inr (ln q).1
        · exact Or.inl (by omega))
      have un : ∀ (w o : Int), 0 ≤ w → w < wk_u Y → (((0, w, o) : wk_E).1 = 0 ∨ ((0, w, o) : wk_E).1 = 5 → 0 ≤ ((0, w, o) : wk_E).2.1 ∧ ((0, w, o) : wk_E).2.1 < wk_u Y) ∧ (((0, w, o) : wk_E).1 = 1 → 0 ≤ ((0, w, o) : wk_E).2.1 ∧ ((0, w, o) : wk_E).2.1 < wk_f Y) := fun w o w0 w1 => ⟨fun _ => ⟨w0, w1⟩, fun q => absurd q (by dsimp only; decide)⟩
      have ot : ∀ (k : Int), k = 3 ∨ k = 4 → (((k, 0, 0) : wk_E).1 = 0 ∨ ((k, 0, 0) : wk_E).1 = 5 → 0 ≤ ((k, 0, 0) : wk_E).2.1 ∧ ((k, 0, 0) : wk_E).2.1 < wk_u Y) ∧ (((k, 0, 0) : wk_E).1 = 1 → 0 ≤ ((k, 0, 0) : wk_E).2.1 ∧ ((k, 0, 0) : wk_E).2.1 < wk_f Y) := fun k hk => ⟨fun q => by dsimp only at q; omega, fun q => by dsimp only at q; omega⟩
      by_cases cm : 0 ≤ g 124 u.toNat
      · rw [if_pos cm]
        refine ⟨fun e he => ?_, fun z hz => ?_⟩
        · simp only [List.mem_cons] at he
          rcases he with rfl | rfl | rfl | rfl | he
          · exact un _ _ (by omega) u1
          · exact ot 3 (Or.inl rfl)
          · exact un _ _ cm (lm cm).1
          · exact ot 4 (Or.inr rfl)
          · exact i1 e he
        · simp only [List.mem_cons] at hz
          rcases hz with rfl | rfl | rfl | rfl | hz
          · exact show (0 : Int) ≠ 5 by decide
          · exact show (3 : Int) ≠ 5 by decide
          · exact show (0 : Int) ≠ 5 by decide
          · exact show (4 : Int) ≠ 5 by decide
          · exact i2 z hz
      · rw [if_neg cm]
        refine ⟨fun e he => ?_, fun z hz => ?_⟩
        · rcases List.mem_cons.mp he with rfl | he
          · exact un _ _ (by omega) u1
          · exact i1 e he
        · rcases List.mem_cons.mp hz with rfl | hz
          · exact show (0 : Int) ≠ 5 by decide
          · exact i2 z hz
theorem mv_g_app {A B : List wk_E} (h1 : mv_g Y A) (h2 : mv_g Y B) : mv_g Y (A ++ B) := fun e he => by
  rcases List.mem_append.mp he with he | he
  · exact h1 e he
  · exact h2 e he
theorem mv_g_2 {a b : Int} : mv_g Y [(2, a, b)] := fun e he => by
  rw [List.mem_singleton.mp he]
  exact ⟨fun q => by rcases q with q | q <;> exact absurd q (by dsimp only; decide), fun q => absurd q (by dsimp only; decide)⟩
/-- a turn that is not once more -/
theorem mv_st (hL : wk_L g Y) {e : wk_E} (hE : mv_E E N) (f0 : 0 ≤ gm_F s) (f1 : gm_F s ≤ N) (h5 : e.1 ≠ 5) (hg : mv_g Y (e :: r)) (h : pm_st g E l e r s = some c) : mv_N s c.2 ∧ mv_g Y c.1 ∧ ∀ z ∈ c.1, z.1 = 5 → z ∈ r ∨ z.2.2 = gm_len s := by
  have hr : mv_g Y r := fun z hz => hg z (List.mem_cons_of_mem _ hz)
  have he := hg e List.mem_cons_self
  unfold pm_st at h
  by_cases c0 : e.1 = 0
  · rw [if_pos c0] at h
    obtain ⟨u0, u1⟩ := he.1 (Or.inl c0)
    have oT : gm_T (gm_op e.2.2 s) = gm_T s := gm_op_t
    have oL : gm_len (gm_op e.2.2 s) = gm_len s := gm_op_e.2
    have oF : gm_F (gm_op e.2.2 s) = gm_F s := pm_F_op
    have lift : ∀ {t : gm_S}, mv_N (gm_op e.2.2 s) t → mv_N s t := fun {t} k => by
      unfold mv_N at k ⊢
      rw [oT, oL] at k
      exact k
    unfold pm_u at h
    by_cases c1 : g 122 e.2.1.toNat = 1
    · rw [if_pos c1] at h
      obtain ⟨t', k1, k2⟩ := Option.map_eq_some_iff.mp h
      subst k2
      refine ⟨lift (mv_N_T (mv_c (by decide) k1 ⟨fun q => absurd q (by decide), fun q => absurd q (by decide), fun _ => rfl⟩) gm_d_T), fun z hz => ?_, fun z hz z5 => ?_⟩
      · simp only [List.mem_cons] at hz
        rcases hz with rfl | rfl | hz
        · exact ⟨fun _ => ⟨u0, u1⟩, fun q => absurd q (by dsimp only; decide)⟩
        · exact mv_g_2 _ List.mem_cons_self
        · exact hr z hz
      · simp only [List.mem_cons] at hz
        rcases hz with rfl | rfl | hz
        · exact Or.inr oL
        · exact absurd z5 (by dsimp only; decide)
        · exact Or.inl hz
    · rw [if_neg c1] at h
      by_cases c2 : g 122 e.2.1.toNat = 2
      · rw [if_pos c2] at h
        obtain ⟨t', k1, k2⟩ := Option.bind_eq_some_iff.mp h
        have hN1 : mv_N s (gm_d t') := lift (mv_N_T (mv_c (by decide) k1 ⟨fun q => absurd q (by decide), fun q => absurd q (by decide), fun q => absurd q (by decide)⟩) gm_d_T)
        have l1 := (gm_c_len k1).2
        have lt : gm_len (gm_d t') = gm_len s + 1 := by
          unfold gm_len
          rw [gm_d_T, l1, oT]
          omega
        have eF : gm_F (gm_d t') = gm_F s := by
          rw [(gm_d_e (t := t')).2.1, (gm_c_t k1).2.1, oF]
        split at k2
        · obtain ⟨a1, A, a2, a3, a4⟩ := mv_sg hL hE (by omega) (by omega) u0 u1 k2
          refine ⟨⟨by have := a1.1; omega, fun x hx => ?_⟩, ?_, fun z hz z5 => ?_⟩
          · rcases a1.2 x hx with q | ⟨q1, q2, q3⟩
            · exact hN1.2 x q
            · exact Or.inr ⟨by omega, q2, q3⟩
          · rw [a2]
            exact mv_g_app a3 (fun z hz => by
              rcases List.mem_cons.mp hz with rfl | hz
              · exact mv_g_2 _ List.mem_cons_self
              · exact hr z hz)
          · rw [a2] at hz
            rcases List.mem_append.mp hz with hz | hz
            · exact absurd z5 (a4 z hz)
            · rcases List.mem_cons.mp hz with rfl | hz
              · exact absurd z5 (by dsimp only; decide)
              · exact Or.inl hz
        · injection k2 with k2
          subst k2
          refine ⟨hN1, fun z hz => ?_, fun z hz z5 => ?_⟩
          · rcases List.mem_cons.mp hz with rfl | hz
            · exact mv_g_2 _ List.mem_cons_self
            · exact hr z hz
          · rcases List.mem_cons.mp hz with rfl | hz
            · exact absurd z5 (by dsimp only; decide)
            · exact Or.inl hz
      · rw [if_neg c2] at h
        obtain ⟨a1, A, a2, a3, a4⟩ := mv_sg hL hE (by rw [oF]; exact f0) (by rw [oF]; exact f1) u0 u1 h
        refine ⟨lift a1, by rw [a2]; exact mv_g_app a3 hr, fun z hz z5 => ?_⟩
        rw [a2] at hz
        rcases List.mem_append.mp hz with hz | hz
        · exact absurd z5 (a4 z hz)
        · exact Or.inl hz
  · rw [if_neg c0] at h
    by_cases c1 : e.1 = 1
    · rw [if_pos c1] at h
      obtain ⟨F0, F1⟩ := he.2 c1
      obtain ⟨-, -, d3, -, -, d5⟩ := hL.2.2.2 _ F0 F1
      unfold pm_fo at h
      split at h
      · obtain ⟨n, n1, n2⟩ := Option.bind_eq_some_iff.mp h
        obtain ⟨t', k1, k2⟩ := Option.map_eq_some_iff.mp n2
        subst k2
        obtain ⟨j, j1, j2, -⟩ := pm_dr_e _ _ _ _ n1
        have jn : n.toNat = j := by omega
        obtain ⟨-, -, p8⟩ := d5 n.toNat (by omega)
        obtain ⟨i1, i2⟩ := mv_it hL 61 (g 126 (wk_alt g n.toNat (g 129 e.2.1.toNat)).toNat) (by omega)
        refine ⟨mv_N_T (mv_c (by decide) k1 ⟨fun q => absurd q (by decide), fun q => absurd q (by decide), fun q => absurd q (by decide)⟩) gm_d_T, mv_g_app i1 (fun z hz => ?_), fun z hz z5 => ?_⟩
        · rcases List.mem_cons.mp hz with rfl | hz
          · exact mv_g_2 _ List.mem_cons_self
          · exact hr z hz
        · rcases List.mem_append.mp hz with hz | hz
          · exact absurd z5 (i2 z hz)
          · rcases List.mem_cons.mp hz with rfl | hz
            · exact absurd z5 (by dsimp only; decide)
            · exact Or.inl hz
      · injection h with h
        subst h
        obtain ⟨-, -, p8⟩ := d5 0 (by omega)
        have p8 : g 126 (g 129 e.2.1.toNat).toNat < 0 ∨ (g 126 (g 129 e.2.1.toNat).toNat < wk_u Y ∧ wk_c Y (g 126 (g 129 e.2.1.toNat).toNat) = e.2.1) := p8
        obtain ⟨i1, i2⟩ := mv_it hL 61 (g 126 (g 129 e.2.1.toNat).toNat) (by omega)
        refine ⟨mv_N_refl rfl, mv_g_app i1 hr, fun z hz z5 => ?_⟩
        rcases List.mem_append.mp hz with hz | hz
        · exact absurd z5 (i2 z hz)
        · exact Or.inl hz
    · rw [if_neg c1, if_neg h5] at h
      by_cases c2 : e.1 = 2
      · rw [if_pos c2] at h
        injection h with h
        subst h
        exact ⟨mv_N_refl (gm_T_mk _ _ _ _ _), hr, fun z hz _ => Or.inl hz⟩
      · rw [if_neg c2] at h
        by_cases c3 : e.1 = 3
        · rw [if_pos c3] at h
          injection h with h
          subst h
          exact ⟨mv_N_refl gm_mid_T, hr, fun z hz _ => Or.inl hz⟩
        · rw [if_neg c3] at h
          injection h with h
          subst h
          refine ⟨?_, hr, fun z hz _ => Or.inl hz⟩
          show mv_N s (gm_tu s)
          unfold gm_tu
          cases hP : gm_P s with
          | nil => exact mv_N_refl rfl
          | cons p q =>
            dsimp only
            refine ⟨?_, fun x hx => Or.inl ?_⟩
            · show ((gm_T s).length : Int) ≤ ((gm_rot p.1 p.2 (gm_T s)).length : Int)
              rw [gm_rot_len]
              exact Int.le_refl _
            · have hx : x ∈ gm_rot p.1 p.2 (gm_T s) := hx
              exact mem_rot' hx
/-- one more: the others stay as they are -/
theorem mv_up {x : Int × Int × Int} : ∀ (T : List (Int × Int × Int)) (a : Nat), x ∈ pm_up a T → x ∈ T ∨ ∃ z, T[a]? = some z ∧ z ∈ T ∧ x = (z.1, z.2.1 + 1, z.2.2) := by
  intro T
  induction T with
  | nil => intro a h; cases a <;> cases h
  | cons y q ih =>
    intro a h
    cases a with
    | zero =>
      have h : x ∈ (y.1, y.2.1 + 1, y.2.2) :: q := h
      rcases List.mem_cons.mp h with h | h
      · exact Or.inr ⟨y, rfl, List.mem_cons_self, h⟩
      · exact Or.inl (List.mem_cons_of_mem _ h)
    | succ a =>
      have h : x ∈ y :: pm_up a q := h
      rcases List.mem_cons.mp h with h | h
      · rw [h]
        exact Or.inl List.mem_cons_self
      · rcases ih a h with k | ⟨z, z1, z2, z3⟩
        · exact Or.inl (List.mem_cons_of_mem _ k)
        · exact Or.inr ⟨z, z1, List.mem_cons_of_mem _ z2, z3⟩
theorem mv_F (hN : E.1 N = 0) {l : Int} {e : wk_E} (f1 : gm_F s ≤ N) (h : pm_st g E l e r s = some c) : gm_F s ≤ gm_F c.2 ∧ gm_F c.2 ≤ N := by
  have k := pm_st_F h
  refine ⟨k, ?_⟩
  rcases pm_st_K h with q | ⟨q1, q2⟩
  · omega
  · have : gm_F s ≠ N := fun z => by
      unfold pm_K at q2
      rw [z, hN] at q2
      omega
    omega
theorem mv_run {pf pa : Int → Int → Bool} (hL : wk_L g Y) (hH : pm_Hs g Y E pf pa) (hE : mv_E E N) : ∀ (M n : Nat) (B q : List wk_E) (s s' : gm_S) (X : Int → Prop), n ≤ M → pm_I (B ++ q, s) → pv_w (B ++ q, s) → mv_g Y B → (∀ e ∈ B, e.1 = 5 → ¬ X e.2.2) → (∀ i, X i → i < gm_len s) → 0 ≤ gm_F s → gm_F s ≤ N → pw_to (pm_st g E (wk_ul q)) n (B, s) ([], s') → mv_Q X s → (mv_Q X s' ∧ (∀ x ∈ gm_T s', X (x.1 / 10) → x ∈ gm_T s)) ∧ pm_I (q, s') ∧ pv_w (q, s') ∧ gm_F s ≤ gm_F s' ∧ gm_F s' ≤ N ∧ gm_len s ≤ gm_len s' := by
  intro M
  induction M with
  | zero =>
    intro n B q s s' X hn hI hw hg h5 hX f0 f1 h hQ
    have e0 : n = 0 := by omega
    subst e0
    have h : (B, s) = ([], s') := h
    injection h with h1 h2
    subst h1
    subst h2
    exact ⟨⟨hQ, fun x hx _ => hx⟩, hI, hw, Int.le_refl _, f1, Int.le_refl _⟩
  | succ M ih =>
    intro n B q s s' X hn hI hw hg h5 hX f0 f1 h hQ
    cases n with
    | zero =>
      have h : (B, s) = ([], s') := h
      injection h with h1 h2
      subst h1
      subst h2
      exact ⟨⟨hQ, fun x hx _ => hx⟩, hI, hw, Int.le_refl _, f1, Int.le_refl _⟩
    | succ n =>
      obtain ⟨e, r, c1, a1, a2, a3⟩ := h
      have a1 : B = e :: r := a1
      subst a1
      have a2 : pm_st g E (wk_ul q) e r s = some c1 := a2
      -- the turn, with all that is behind
      have full : pm_st g E 0 e (r ++ q) s = some (c1.1 ++ q, c1.2) := by
        rw [pm_loc, Int.zero_add, a2]
        rfl
      have hc := hw.1 e List.mem_cons_self
      have hI1 : pm_I (c1.1 ++ q, c1.2) := pm_st_I (by omega) hI full
      obtain ⟨hw1, -⟩ := pv_st (V := fun _ => 0) hI hw full
      obtain ⟨F1, F2⟩ := mv_F hE.1 f1 a2
      by_cases ce : e.1 = 5
      · -- once more
        have hst := a2
        unfold pm_st at hst
        rw [if_neg (by omega), if_neg (by omega), if_pos ce] at hst
        unfold pm_ag at hst
        obtain ⟨u0, u1⟩ := (hg e List.mem_cons_self).1 (Or.inr ce)
        have nX := h5 e List.mem_cons_self ce
        by_cases cb : pm_h E e.2.1 s = true
        · rw [if_pos cb] at hst
          have hl := pm_sg_loc (l := wk_ul q) (g := g) (E := E) (u := e.2.1) (r := []) (q := (5, e.2.1, e.2.2) :: r) (s := pm_inc e.2.2 s)
          rw [List.nil_append] at hl
          rw [hl] at hst
          obtain ⟨c0, k1, k2⟩ := Option.map_eq_some_iff.mp hst
          subst k2
          have eul : wk_ul q + wk_ul ((5, e.2.1, e.2.2) :: r) = wk_ul (((5, e.2.1, e.2.2) :: r) ++ q) := by rw [wk_ul_a]; omega
          obtain ⟨n1, s3, i1, i2, i3⟩ := pw_split0 pm_loc (A := c0.1) (q := (5, e.2.1, e.2.2) :: r) a3
          rw [eul] at i2 k1
          have eF : gm_F (pm_inc e.2.2 s) = gm_F s := pm_inc_e.1
          have eT : gm_T (pm_inc e.2.2 s) = pm_up e.2.2.toNat (gm_T s) := pm_inc_e.2.1
          have eL : gm_len (pm_inc e.2.2 s) = gm_len s := pm_inc_len
          have eat : gm_F s < gm_F s3 := by
            have := pm_eat_sg hL hH (pm_eat hL hH n1) (Nat.le_refl _) u0 u1 (by rw [pm_h_of eF]; exact cb) k1 i2
            omega
          obtain ⟨m1, A, m2, m3, m4⟩ := mv_sg hL hE (by omega) (by omega) u0 u1 k1
          rw [List.append_nil] at m2
          subst m2
          obtain ⟨p0, p1, -, v, dd, pg, -⟩ := pv_a hw List.mem_cons_self ce
          have tag : ∀ x, x ∈ gm_T (pm_inc e.2.2 s) → x ∈ gm_T s ∨ (x.1 = 5 + 10 * e.2.2 ∧ ∃ z ∈ gm_T s, z.1 = x.1 ∧ x.2.1 = z.2.1 + 1) := by
            intro x hx
            rw [eT] at hx
            rcases mv_up _ _ hx with k | ⟨z, z1, z2, z3⟩
            · exact Or.inl k
            · have pg : (gm_T s)[e.2.2.toNat]? = some (5 + 10 * e.2.2, v, dd) := pg
              rw [pg] at z1
              injection z1 with z1
              refine Or.inr ⟨by rw [z3, ← z1], z, z2, by rw [z3], by rw [z3]⟩
          have gl2 : gm_len s ≤ gm_len c0.2 := by
            have := m1.1
            omega
          -- the part itself
          have hQ2 : mv_Q (fun i => X i ∨ i = e.2.2) c0.2 := by
            intro x hx
            rcases m1.2 x hx with k | ⟨k1', k2', k3'⟩
            · rcases tag x k with j | ⟨j1, z, z1, z2, z3⟩
              · obtain ⟨j1, j2⟩ := hQ x j
                have fm : gm_F s ≤ gm_F c0.2 := by have := pm_sg_F k1; omega
                exact ⟨j1, fun q5 nq => by have := j2 q5 (fun z => nq (Or.inl z)); omega⟩
              · refine ⟨⟨fun q => by omega, fun q => by omega⟩, fun _ nq => absurd (Or.inr (by omega)) nq⟩
            · exact ⟨k2', fun q5 _ => by have := pm_sg_F k1; rw [k3' q5]; omega⟩
          have fm : gm_F s ≤ gm_F c0.2 := by have := pm_sg_F k1; omega
          obtain ⟨⟨r1, r2⟩, r3, r4, r5, r6, r7⟩ := ih n1 c0.1 (((5, e.2.1, e.2.2) :: r) ++ q) c0.2 s3 (fun i => X i ∨ i = e.2.2) (by omega) (by rw [← List.append_assoc]; exact hI1) (by rw [← List.append_assoc]; exact hw1) m3 (fun z hz z5 => absurd z5 (m4 z hz)) (fun i hi => by
            rcases hi with hi | hi
            · have := hX i hi
              omega
            · omega) (by omega) F2 i2 hQ2
          have ee : e = (5, e.2.1, e.2.2) := by
            obtain ⟨e1, e2, e3⟩ := e
            have ce : e1 = 5 := ce
            rw [ce]
          have hQ3 : mv_Q X s3 := by
            intro x hx
            obtain ⟨j1, j2⟩ := r1 x hx
            refine ⟨j1, fun q5 nx => ?_⟩
            by_cases ci : x.1 / 10 = e.2.2
            · rcases m1.2 x (r2 x hx (Or.inr ci)) with k | ⟨k1', k2', k3'⟩
              · rcases tag x k with j | ⟨y1, z, z1, z2, z3⟩
                · have := (hQ x j).2 q5 nx
                  omega
                · have := (hQ z z1).2 (by rw [z2]; exact q5) (by rw [z2]; exact nx)
                  omega
              · rw [k3' q5]
                omega
            · exact j2 q5 (fun z => by
                rcases z with z | z
                · exact nx z
                · exact ci z)
          obtain ⟨⟨t1, t2⟩, t3, t4, t5, t6, t7⟩ := ih (n - n1) ((5, e.2.1, e.2.2) :: r) q s3 s' X (by omega) r3 r4 (by rw [← ee]; exact hg) (by rw [← ee]; exact h5) (fun i hi => by have := hX i hi; omega) (by omega) r6 i3 hQ3
          refine ⟨⟨t1, fun x hx hx' => ?_⟩, t3, t4, by omega, t6, by omega⟩
          rcases m1.2 x (r2 x (t2 x hx hx') (Or.inl hx')) with k | ⟨k1', -⟩
          · rcases tag x k with j | ⟨y1, -⟩
            · exact j
            · exfalso
              have ei : x.1 / 10 = e.2.2 := by omega
              rw [ei] at hx'
              exact nX hx'
          · have := hX _ hx'
            omega
        · rw [if_neg cb] at hst
          injection hst with hst
          subst hst
          exact ih n r q s s' X (by omega) hI1 hw1 (fun z hz => hg z (List.mem_cons_of_mem _ hz)) (fun z hz => h5 z (List.mem_cons_of_mem _ hz)) hX f0 f1 a3 hQ
      · obtain ⟨m1, m2, m3⟩ := mv_st hL hE f0 f1 ce hg a2
        have gl : gm_len s ≤ gm_len c1.2 := m1.1
        obtain ⟨⟨r1, r2⟩, r3, r4, r5, r6, r7⟩ := ih n c1.1 q c1.2 s' X (by omega) hI1 hw1 m2 (fun z hz z5 => by
          rcases m3 z hz z5 with k | k
          · exact h5 z (List.mem_cons_of_mem _ k) z5
          · intro hx
            have := hX _ hx
            omega) (fun i hi => by have := hX i hi; omega) (by omega) F2 a3 (fun x hx => by
          rcases m1.2 x hx with k | ⟨k1, k2, k3⟩
          · exact ⟨(hQ x k).1, fun q5 nx => by have := (hQ x k).2 q5 nx; omega⟩
          · exact ⟨k2, fun q5 _ => by rw [k3 q5]; omega⟩)
        refine ⟨⟨r1, fun x hx hX' => ?_⟩, r3, r4, by omega, r6, by omega⟩
        rcases m1.2 x (r2 x hx hX') with k | ⟨k1, -⟩
        · exact k
        · have := hX _ hX'
          omega
/-- a parsed tree: its values -/
theorem mv_parse {pf pa : Int → Int → Bool} (hL : wk_L g Y) (hH : pm_Hs g Y E pf pa) (hE : mv_E E N) (N0 : 0 ≤ N) (hr : wk_Lrule Y (g 114 0)) {s' : gm_S} (h : pm_RO g E (pc_0 g 0) ([], s')) : gm_F s' ≤ N ∧ ∀ x ∈ gm_T s', nv_ok x ∧ (x.1 % 10 = 5 → x.2.1 ≤ gm_F s') := by
  obtain ⟨c1, n, h1, h2⟩ := h
  rw [pc_0_e] at h1
  injection h1 with h1
  subst h1
  have e0 : gm_len ((0, 0, [(1, 0, 0)], 1, []) : gm_S) = 1 := by unfold gm_len; rw [gm_T_mk]; rfl
  have n5 : ∀ z ∈ ([(1, g 114 0, 0), (2, 1, 0)] : List wk_E), z.1 ≠ 5 := nP2 (by decide) (by decide)
  have hI : pm_I (([(1, g 114 0, 0), (2, 1, 0)], (0, 0, [(1, 0, 0)], 1, [])) : gm_C) := by
    unfold pm_I
    dsimp only
    rw [e0]
    simp only [gm_D_mk, gm_P_mk]
    refine ⟨rfl, by decide, by decide, ?_, ?_, fun x hx x5 => absurd x5 (n5 x hx)⟩
    · rw [gm_fl_o (by omega) (by decide) (by decide), gm_fl_o (by omega) (by decide) (by decide)]
      trivial
    · rw [pm_al_o (by omega) (by decide), pm_al_o (by omega) (by decide)]
      trivial
  have hw : pv_w (([(1, g 114 0, 0), (2, 1, 0)], (0, 0, [(1, 0, 0)], 1, [])) : gm_C) := by
    refine ⟨fun e he => ?_, fun e he e5 => absurd e5 (n5 e he), pm_lt_app (r := []) n5 trivial, fun x hx => ?_⟩
    · rcases List.mem_cons.mp he with rfl | he
      · exact ⟨show (0 : Int) ≤ 1 by decide, show (1 : Int) ≤ 5 by decide⟩
      · rw [List.mem_singleton.mp he]
        exact ⟨show (0 : Int) ≤ 2 by decide, show (2 : Int) ≤ 5 by decide⟩
    · dsimp only at hx ⊢
      rw [gm_T_mk] at hx
      rw [e0, List.mem_singleton.mp hx]
      exact ⟨show (0 : Int) ≤ 1 by decide, show (1 : Int) / 10 < 1 by decide⟩
  have hg : mv_g Y [(1, g 114 0, 0), (2, 1, 0)] := fun e he => by
    rcases List.mem_cons.mp he with rfl | he
    · exact ⟨fun q => by rcases q with q | q <;> exact absurd q (by dsimp only; decide), fun _ => ⟨hr.1, hr.2.1⟩⟩
    · exact mv_g_2 e he
  have hF0 : gm_F ((0, 0, [(1, 0, 0)], 1, []) : gm_S) = 0 := gm_F_mk _ _ _ _ _
  have hQ : mv_Q (fun _ => False) ((0, 0, [(1, 0, 0)], 1, []) : gm_S) := fun x hx => by
    rw [gm_T_mk] at hx
    rw [List.mem_singleton.mp hx]
    exact ⟨⟨fun q => absurd q (by dsimp only; decide), fun q => absurd q (by dsimp only; decide)⟩, fun q => absurd q (by dsimp only; decide)⟩
  obtain ⟨⟨r1, -⟩, -, -, -, r6, -⟩ := mv_run hL hH hE n n [(1, g 114 0, 0), (2, 1, 0)] [] (0, 0, [(1, 0, 0)], 1, []) s' (fun _ => False) (Nat.le_refl _) (by rw [List.append_nil]; exact hI) (by rw [List.append_nil]; exact hw) hg (fun e he e5 => absurd e5 (n5 e he)) (fun i hi => hi.elim) (by rw [hF0]; exact Int.le_refl _) (by rw [hF0]; exact N0) h2 hQ
  exact ⟨r6, fun x hx => ⟨(r1 x hx).1, fun q5 => (r1 x hx).2 q5 (fun z => z)⟩⟩
end MVS
