/-! after both have compiled: tops, codes, sets, as the walks want them -/
def lsi (t : Nat → Int) : List Int → Int
  | [] => 0
  | u :: r => t u.toNat + lsi t r
theorem lsi_nn {t : Nat → Int} : ∀ l : List Int, (∀ y ∈ l, 0 ≤ t y.toNat) → 0 ≤ lsi t l := by
  intro l
  induction l with
  | nil => intro _; exact Int.le_refl _
  | cons u r ih =>
    intro h
    have h1 := h u List.mem_cons_self
    have h2 := ih (fun y hy => h y (List.mem_cons_of_mem _ hy))
    show 0 ≤ t u.toNat + lsi t r
    omega
theorem lsw_lsi {t : Nat → Int} : ∀ (l : List Int) (z : Int), (∀ y ∈ l, 0 ≤ t y.toNat) → 0 ≤ z → z + lsi t l ≤ 1000000 → lsw t z l = z + lsi t l := by
  intro l
  induction l with
  | nil => intro z _ _ _; exact (Int.add_zero z).symm
  | cons u r ih =>
    intro z h z0 z1
    have h1 := h u List.mem_cons_self
    have h2 := lsi_nn r (fun y hy => h y (List.mem_cons_of_mem _ hy))
    have z1 : z + (t u.toNat + lsi t r) ≤ 1000000 := z1
    show lsw t ((Int32.ofInt z + Int32.ofInt (t u.toNat)).toInt) r = z + (t u.toNat + lsi t r)
    rw [i32_add ⟨by omega, by omega⟩ ⟨by omega, by omega⟩, ih (z + t u.toNat) (fun y hy => h y (List.mem_cons_of_mem _ hy)) (by omega) (by omega)]
    omega
section TTO
variable {f : Int → Int} {it : Int → Prop} {g : wk_g} {Y : wk_Y} {kw : Int → Bool} {h : sm_H}
/-- a line of parts: what both sides sum up -/
theorem tt_line {t : Nat → Int} (hG : cg_G f it g Y kw h) {u0 F : Int} (hP : ∀ v, u0 < v → v < wk_u Y → 0 ≤ v → 0 ≤ t v.toNat ∧ t v.toNat ≤ min (wk_e Y v) (wk_u Y) - v) (hu : -1 ≤ u0) : ∀ (k : Nat) (p : Int) (n m : Nat), (p = -1 ∨ (u0 < p ∧ p < wk_u Y ∧ it p ∧ wk_c Y p = F ∧ wk_u Y - p ≤ k ∧ wk_u Y - p ≤ n ∧ wk_u Y - p ≤ m)) → lsi t (cv_row h n p) = itt (fun p => t p.toNat) (wk_it g m p) ∧ (∀ y ∈ cv_row h n p, 0 ≤ t y.toNat) ∧ 0 ≤ lsi t (cv_row h n p) ∧ (p ≠ -1 → lsi t (cv_row h n p) ≤ min (wk_x Y F) (wk_u Y) - p) := by
  have nil : ∀ n m : Nat, lsi t (cv_row h n (-1)) = itt (fun p => t p.toNat) (wk_it g m (-1)) ∧ (∀ y ∈ cv_row h n (-1), 0 ≤ t y.toNat) ∧ 0 ≤ lsi t (cv_row h n (-1)) := by
    intro n m
    have e1 : cv_row h n (-1) = [] := by
      cases n with
      | zero => rfl
      | succ n => rw [cv_row_c, if_pos rfl]
    have e2 : wk_it g m (-1) = [] := by
      cases m with
      | zero => rfl
      | succ m => rw [wk_it, if_pos (by decide)]
    rw [e1, e2]
    exact ⟨rfl, fun y hy => absurd hy List.not_mem_nil, Int.le_refl _⟩
  intro k
  induction k with
  | zero =>
    intro p n m hp
    rcases hp with e | ⟨p1, p2, -, -, p5, -⟩
    · subst e
      obtain ⟨a, b, c⟩ := nil n m
      exact ⟨a, b, c, fun q => absurd rfl q⟩
    · omega
  | succ k ih =>
    intro p n m hp
    rcases hp with e | ⟨p1, p2, pit, pc, p5, p6, p7⟩
    · subst e
      obtain ⟨a, b, c⟩ := nil n m
      exact ⟨a, b, c, fun q => absurd rfl q⟩
    have p0 : 0 ≤ p := by omega
    obtain ⟨n, rfl⟩ : ∃ i, n = i + 1 := ⟨n - 1, by omega⟩
    obtain ⟨m, rfl⟩ : ∃ i, m = i + 1 := ⟨m - 1, by omega⟩
    obtain ⟨-, -, -, -, -, hU⟩ := hG.2.2.1 p p0 p2
    obtain ⟨-, x125, it125, pairs, plain⟩ := hU pit
    obtain ⟨⟨l1, l2, -⟩, lm, ln, -⟩ := hG.1.2.2.1 p p0 p2
    obtain ⟨t0, t1⟩ := hP p p1 p2 p0
    rw [pc] at l2
    have nx : ∀ (n' m' : Nat), (0 ≤ g 125 p.toNat → wk_u Y - g 125 p.toNat ≤ n' ∧ wk_u Y - g 125 p.toNat ≤ m') → lsi t (cv_row h n' (g 125 p.toNat)) = itt (fun p => t p.toNat) (wk_it g m' (g 125 p.toNat)) ∧ (∀ y ∈ cv_row h n' (g 125 p.toNat), 0 ≤ t y.toNat) ∧ 0 ≤ lsi t (cv_row h n' (g 125 p.toNat)) ∧ (g 125 p.toNat ≠ -1 → lsi t (cv_row h n' (g 125 p.toNat)) ≤ min (wk_x Y F) (wk_u Y) - g 125 p.toNat) ∧ (g 125 p.toNat = -1 → lsi t (cv_row h n' (g 125 p.toNat)) = 0) := by
      intro n' m' hn
      have z : g 125 p.toNat = -1 → lsi t (cv_row h n' (g 125 p.toNat)) = 0 := fun q => by
        rw [q]
        cases n' with
        | zero => rfl
        | succ n' => rw [cv_row_c, if_pos rfl]; rfl
      by_cases c : 0 ≤ g 125 p.toNat
      · obtain ⟨a1, a2, a3, -⟩ := ln c
        obtain ⟨i1, i2, i3, i4⟩ := ih (g 125 p.toNat) n' m' (Or.inr ⟨by omega, a1, it125 c, a2.trans pc, by omega, (hn c).1, (hn c).2⟩)
        exact ⟨i1, i2, i3, i4, z⟩
      · obtain ⟨i1, i2, i3, i4⟩ := ih (g 125 p.toNat) n' m' (Or.inl (by omega))
        exact ⟨i1, i2, i3, i4, z⟩
    by_cases cm : 0 ≤ g 124 p.toNat
    · obtain ⟨a71, b71⟩ := pairs cm
      obtain ⟨m1, m2, m3, m4⟩ := lm cm
      obtain ⟨⟨w1, w2, -⟩, -⟩ := hG.1.2.2.1 (g 124 p.toNat) cm m1
      rw [m2, pc] at w2
      obtain ⟨q0, q1⟩ := hP (g 124 p.toNat) (by omega) m1 cm
      obtain ⟨n, rfl⟩ : ∃ i, n = i + 1 := ⟨n - 1, by omega⟩
      obtain ⟨i1, i2, i3, i4, i5⟩ := nx n m (fun c => by
        have := (ln c).2.2.2 cm
        omega)
      have e1 : cv_row h (n + 1 + 1) p = p :: g 124 p.toNat :: cv_row h n (g 125 p.toNat) := by
        rw [cv_row_c, if_neg (by omega), a71, cv_row_c, if_neg (by omega), b71]
      have e2 : wk_it g (m + 1) p = (0, p, 1) :: (3, 0, 0) :: (0, g 124 p.toNat, 0) :: (4, 0, 0) :: wk_it g m (g 125 p.toNat) := by rw [wk_it, if_neg (by omega), if_pos cm]
      rw [e1, e2]
      have s1 : lsi t (p :: g 124 p.toNat :: cv_row h n (g 125 p.toNat)) = t p.toNat + (t (g 124 p.toNat).toNat + lsi t (cv_row h n (g 125 p.toNat))) := rfl
      have s2 : itt (fun p => t p.toNat) ((0, p, 1) :: (3, 0, 0) :: (0, g 124 p.toNat, 0) :: (4, 0, 0) :: wk_it g m (g 125 p.toNat)) = t p.toNat + (t (g 124 p.toNat).toNat + itt (fun p => t p.toNat) (wk_it g m (g 125 p.toNat))) := by
        show (if (0 : Int) = 0 then t p.toNat else 0) + ((if (3 : Int) = 0 then t (0 : Int).toNat else 0) + ((if (0 : Int) = 0 then t (g 124 p.toNat).toNat else 0) + ((if (4 : Int) = 0 then t (0 : Int).toNat else 0) + itt (fun p => t p.toNat) (wk_it g m (g 125 p.toNat))))) = _
        rw [if_pos rfl, if_pos rfl, if_neg (by decide), if_neg (by decide)]
        omega
      rw [s1, s2, ← i1]
      refine ⟨rfl, fun y hy => ?_, by omega, fun _ => ?_⟩
      · rcases List.mem_cons.mp hy with e | hy
        · rw [e]; exact t0
        · rcases List.mem_cons.mp hy with e | hy
          · rw [e]; exact q0
          · exact i2 y hy
      · by_cases c : g 125 p.toNat = -1
        · rw [i5 c]
          omega
        · have := i4 c
          have := (ln (by omega)).2.2.2 cm
          omega
    · have a71 := plain cm
      obtain ⟨i1, i2, i3, i4, i5⟩ := nx n m (fun c => by
        have := (ln c).2.2.1
        omega)
      have e1 : cv_row h (n + 1) p = p :: cv_row h n (g 125 p.toNat) := by rw [cv_row_c, if_neg (by omega), a71]
      have e2 : wk_it g (m + 1) p = (0, p, 0) :: wk_it g m (g 125 p.toNat) := by rw [wk_it, if_neg (by omega), if_neg cm]
      rw [e1, e2]
      have s1 : lsi t (p :: cv_row h n (g 125 p.toNat)) = t p.toNat + lsi t (cv_row h n (g 125 p.toNat)) := rfl
      have s2 : itt (fun p => t p.toNat) ((0, p, 0) :: wk_it g m (g 125 p.toNat)) = t p.toNat + itt (fun p => t p.toNat) (wk_it g m (g 125 p.toNat)) := by
        show (if (0 : Int) = 0 then t p.toNat else 0) + itt (fun p => t p.toNat) (wk_it g m (g 125 p.toNat)) = _
        rw [if_pos rfl]
      rw [s1, s2, ← i1]
      refine ⟨rfl, fun y hy => ?_, by omega, fun _ => ?_⟩
      · rcases List.mem_cons.mp hy with e | hy
        · rw [e]; exact t0
        · exact i2 y hy
      · by_cases c : g 125 p.toNat = -1
        · rw [i5 c]
          omega
        · have := i4 c
          have := (ln (by omega)).2.2.1
          omega
theorem tt_of (hG : cg_G f it g Y kw h) (hO : ∀ p, 0 ≤ p → p < wk_u Y → g 119 p.toNat = 10 → 0 ≤ g 126 (g 129 (g 120 p.toNat).toNat).toNat → p < g 126 (g 129 (g 120 p.toNat).toNat).toNat) (hQ : tc_Q h h (wk_u Y)) : tt_G (fun p => mi_a h 92 p.toNat) g Y := by
  have u60 := hG.1.1
  have key : ∀ (k : Nat) (p : Int), wk_u Y - p ≤ k → 0 ≤ p → p < wk_u Y → (0 ≤ mi_a h 92 p.toNat ∧ mi_a h 92 p.toNat ≤ min (wk_e Y p) (wk_u Y) - p) ∧ ((g 122 p.toNat ≠ 0 → mi_a h 92 p.toNat = 1) ∧ (g 122 p.toNat = 0 → ((g 119 p.toNat = 1 ∨ g 119 p.toNat = 2 ∨ g 119 p.toNat = 9) → mi_a h 92 p.toNat = 1) ∧ (g 119 p.toNat = 10 → mi_a h 92 p.toNat = if 1 < g 130 (g 120 p.toNat).toNat then 1 else itt (fun p => mi_a h 92 p.toNat) (wk_it g 61 (g 126 (g 129 (g 120 p.toNat).toNat).toNat))) ∧ (g 119 p.toNat ≠ 1 → g 119 p.toNat ≠ 2 → g 119 p.toNat ≠ 9 → g 119 p.toNat ≠ 10 → mi_a h 92 p.toNat = 0))) := by
    intro k
    induction k with
    | zero => intro p hk p0 p1; omega
    | succ k ih =>
      intro p hk p0 p1
      obtain ⟨e68, -, e10, e72, e122, -⟩ := hG.2.2.1 p p0 p1
      obtain ⟨⟨l1, -⟩, -, -, -, l10, -⟩ := hG.1.2.2.1 p p0 p1
      have hp := hQ p p0 p1
      unfold tvc at hp
      by_cases c0 : g 122 p.toNat = 0
      · rw [if_pos c0] at e72
        rw [if_neg (show ¬ mi_a h 72 p.toNat ≠ 0 from fun z => z e72), e68] at hp
        by_cases c1 : g 119 p.toNat = 1 ∨ g 119 p.toNat = 2 ∨ g 119 p.toNat = 9
        · rw [if_pos c1] at hp
          exact ⟨by omega, fun q => absurd c0 q, fun _ => ⟨fun _ => hp, fun q => by omega, fun q1 q2 q3 => by omega⟩⟩
        · rw [if_neg c1] at hp
          by_cases c10 : g 119 p.toNat = 10
          · rw [if_pos c10, e10 c10] at hp
            obtain ⟨x1, x2, x3, x4⟩ := l10 c10
            obtain ⟨-, y2, y3, -, y5⟩ := hG.2.1 (g 120 p.toNat) x1 x2
            obtain ⟨-, -, d3, -, -, d5⟩ := hG.1.2.2.2 (g 120 p.toNat) x1 x2
            rw [y3] at hp
            by_cases cf : 1 < g 130 (g 120 p.toNat).toNat
            · rw [if_pos cf] at hp
              exact ⟨by omega, fun q => absurd c0 q, fun _ => ⟨fun q => absurd q c1, fun _ => by rw [if_pos cf]; exact hp, fun _ _ _ q => absurd c10 q⟩⟩
            · rw [if_neg cf, y2] at hp
              have y5 := y5 0 (by omega)
              have d5 := d5 0 (by omega)
              have ez : wk_alt g 0 (g 129 (g 120 p.toNat).toNat) = g 129 (g 120 p.toNat).toNat := rfl
              rw [ez] at y5 d5
              obtain ⟨-, z2, -, -, -, z6, z7⟩ := y5
              rw [z2] at hp
              have d6 := d5.2.2
              -- all that stands in it is behind it
              have hO' := hO p p0 p1 c10
              generalize g 126 (g 129 (g 120 p.toNat).toNat).toNat = fi at hp d6 z6 z7 hO' ⊢
              have hin : fi = -1 ∨ (p < fi ∧ fi < wk_u Y ∧ it fi ∧ wk_c Y fi = g 120 p.toNat ∧ wk_u Y - fi ≤ ((wk_u Y).toNat : Nat) ∧ wk_u Y - fi ≤ ((60 : Nat) : Int) ∧ wk_u Y - fi ≤ ((61 : Nat) : Int)) := by
                by_cases c : 0 ≤ fi
                · have := d6.resolve_left (by omega)
                  have := hO' c
                  exact Or.inr ⟨by omega, by omega, z7 c, by omega, by omega, by omega, by omega⟩
                · exact Or.inl (by omega)
              obtain ⟨i1, i2, i3, i4⟩ := tt_line (t := mi_a h 92) hG (u0 := p) (F := g 120 p.toNat) (fun v v0 v1 v2 => (ih v (by omega) v2 v1).1) (by omega) (wk_u Y).toNat fi 60 61 hin
              have hz : fi = -1 → lsi (mi_a h 92) (cv_row h 60 fi) = 0 := fun q => by
                rw [q]
                rfl
              have hb : lsi (mi_a h 92) (cv_row h 60 fi) ≤ min (wk_e Y p) (wk_u Y) - p := by
                rcases hin with q | q
                · rw [hz q]
                  omega
                · have := i4 (by omega)
                  obtain ⟨⟨-, -, b3, -⟩, -⟩ := hG.1.2.2.1 fi (by omega) q.2.1
                  rw [q.2.2.2.1] at b3
                  omega
              rw [lsw_lsi _ 0 i2 (by decide) (by omega), Int.zero_add] at hp
              exact ⟨by omega, fun q => absurd c0 q, fun _ => ⟨fun q => absurd q c1, fun _ => by rw [if_neg cf, ← i1]; exact hp, fun _ _ _ q => absurd c10 q⟩⟩
          · rw [if_neg c10] at hp
            exact ⟨by omega, fun q => absurd c0 q, fun _ => ⟨fun q => absurd q c1, fun q => absurd q c10, fun _ _ _ _ => hp⟩⟩
      · rw [if_neg c0] at e72
        rw [if_pos (show mi_a h 72 p.toNat ≠ 0 by omega)] at hp
        exact ⟨by omega, fun _ => hp, fun q => absurd q c0⟩
  intro p p0 p1
  exact (key (wk_u Y - p).toNat p (by omega) p0 p1).2
end TTO
/-! the sets, as the class's parsing walk wants them -/
set_option maxRecDepth 4000 in
theorem shn_k : ∀ n : Fin 64, shn (n.val : Int) = n.val := by decide
set_option maxRecDepth 4000 in
theorem tb_2 : ∀ n : Fin 64, tb (Int64.ofNat 2) n.val = decide ((n.val : Int) = 1) := by decide
set_option maxRecDepth 4000 in
theorem tb_4 : ∀ n : Fin 64, tb (Int64.ofNat 4) n.val = decide ((n.val : Int) = 2) := by decide
set_option maxRecDepth 20000 in
theorem tb_s : ∀ v : Fin 20, ∀ n : Fin 64, tb (shl1 (3 + (v.val : Int))) n.val = decide ((n.val : Int) = 3 + (v.val : Int)) := by decide +kernel
theorem bit_k {x : Int64} {j : Int} (j0 : 0 ≤ j) (hx : ∀ n : Fin 64, tb x n.val = decide ((n.val : Int) = j)) {k : Int} (k1 : k < 64) : px_bit x k = true ↔ k = j := by
  rw [px_bit_t]
  constructor
  · rintro ⟨k0, hk⟩
    have e := shn_k ⟨k.toNat, by omega⟩
    dsimp only at e
    rw [Int.toNat_of_nonneg k0] at e
    rw [e] at hk
    have := hx ⟨k.toNat, by omega⟩
    dsimp only at this
    rw [this, decide_eq_true_eq] at hk
    omega
  · intro e1
    subst e1
    refine ⟨j0, ?_⟩
    have e := shn_k ⟨k.toNat, by omega⟩
    dsimp only at e
    rw [Int.toNat_of_nonneg j0] at e
    rw [e]
    have := hx ⟨k.toNat, by omega⟩
    dsimp only at this
    rw [this, decide_eq_true_eq]
    omega
def cs_N (E : pm_E) (g : wk_g) (Y : wk_Y) (h : sm_H) : Prop := (∀ u, 0 ≤ u → u < wk_u Y → ∀ k, pq_bit (mx_b h 90 u.toNat) k = E.2.2.1 u k) ∧ (∀ F, 0 ≤ F → F < wk_f Y → ∀ j : Nat, (j : Int) < g 130 F.toNat → ∀ k, pq_bit (mx_b h 88 (wk_alt g j (g 129 F.toNat)).toNat) k = E.2.2.2 F (wk_alt g j (g 129 F.toNat)) k) ∧ ∀ u, 0 ≤ u → u < wk_u Y → (g 119 u.toNat = 1 → (∀ k, k < 64 → (E.2.2.1 u k = true ↔ k = 1)) ∧ mi_a h 69 u.toNat = g 120 u.toNat ∧ 0 ≤ g 120 u.toNat ∧ g 120 u.toNat ≤ 9) ∧ (g 119 u.toNat = 2 → ∀ k, k < 64 → (E.2.2.1 u k = true ↔ k = 2)) ∧ (g 119 u.toNat = 8 → 0 ≤ g 120 u.toNat ∧ ∀ k, k < 64 → (E.2.2.1 u k = true ↔ k = 3 + g 120 u.toNat)) ∧ (g 119 u.toNat ≠ 1 → g 119 u.toNat ≠ 2 → g 119 u.toNat ≠ 8 → g 119 u.toNat ≠ 9 → g 119 u.toNat ≠ 10 → mx_b h 90 u.toNat = Int64.ofNat 0)
section CSO
variable {f : Int → Int} {ow : Nat → Nat} {g : wk_g} {Y : wk_Y} {h : sm_H} {E : pm_E} {b : Nat → Int}
theorem cs_of (hT : TW f ow g Y h) (hs : ss_R g h) (hN : PN g) (hE : E.2.2 = (px_E h).2.2) : cs_N E (mi_a h) Y h := by
  obtain ⟨hS, hq, hC, hP, hI, hV, hW, hZ, hL, hA⟩ := id hT
  obtain ⟨s1, s2, X, Z, s3, s4, s5, s6⟩ := hs
  have eu : wk_u Y = g 0 0 := hL.2.1.trans hq.1.1.symm
  have ef : wk_f Y = g 0 2 := hL.2.2.1.trans hq.1.2.2.1.symm
  have e119 : mi_a h 119 = g 119 := rk_g2 hq (by decide)
  have e120 : mi_a h 120 = g 120 := rk_g2 hq (by decide)
  have hE1 : ∀ u k, E.2.2.1 u k = px_bit (mx_b h 134 u.toNat) k := fun u k => by rw [hE]; rfl
  have hE2 : ∀ F a k, E.2.2.2 F a k = px_bit (px_dir (mi_a h 132 a.toNat) (mx_b h 135 a.toNat) (mx_b h 138 F.toNat)) k := fun F a k => by rw [hE]; rfl
  have lf : ∀ u, 0 ≤ u → u < wk_u Y → mi_a h 119 u.toNat ≠ 9 → mi_a h 119 u.toNat ≠ 10 → mx_b h 134 u.toNat = pb_s (mi_a h 119 u.toNat) (mi_a h 120 u.toNat) := fun u u0 u1 n9 n10 => by
    rw [(s4 u u0 (by omega)).2]
    have e1 : (rv_p (mi_a h) u).1 = rv_t (mi_a h) u := rfl
    have e5 : (rv_p (mi_a h) u).2.2.2.2 = pb_s (mi_a h 119 u.toNat) (mi_a h 120 u.toNat) := rfl
    have et : rv_t (mi_a h) u = -1 := by
      unfold rv_t
      rw [if_neg n10, if_neg n9]
    unfold sp_s
    rw [e1, e5, et, if_neg (show ¬ (0 : Int) ≤ -1 by decide)]
  refine ⟨fun u u0 u1 k => ?_, fun F F0 F1 j hj k => ?_, fun u u0 u1 => ?_⟩
  · rw [pq_px, s1 u.toNat (by omega), hE1]
  · rw [pq_px, hE2, pxd_jd]
    refine congrArg (fun x => px_bit x k) (s2 F.toNat (by omega) _ ?_)
    unfold ra_L
    exact (ra_mem _ _).mpr ⟨j, by omega, rfl⟩
  · have hun : ((u.toNat : Nat) : Int) < g 0 0 := by omega
    obtain ⟨t1, t2, t3, t4⟩ := hC.2.2.2.1 u.toNat hun
    obtain ⟨n1, n8⟩ := hN.2.2.1 u.toNat hun
    have v8 := (hV.2.2 u.toNat hun).2.2.2
    refine ⟨fun c1 => ⟨fun k k1 => ?_, ?_, ?_⟩, fun c2 k k1 => ?_, fun c8 => ⟨?_, fun k k1 => ?_⟩, fun c1 c2 c8 c9 c10 => ?_⟩
    · rw [hE1, lf u u0 u1 (by omega) (by omega)]
      unfold pb_s
      rw [if_pos c1]
      exact bit_k (by decide) tb_2 k1
    · rw [t2, e120, if_neg (by rw [← e119]; omega), if_neg (by rw [← e119]; omega)]
    · rw [e120]
      exact n1 (by rw [← e119]; exact c1)
    · rw [hE1, lf u u0 u1 (by omega) (by omega)]
      unfold pb_s
      rw [if_neg (by omega), if_pos c2]
      exact bit_k (by decide) tb_4 k1
    · rw [e120]
      exact (v8 (by rw [← e119]; exact c8)).1
    · obtain ⟨v0, v1⟩ := v8 (by rw [← e119]; exact c8)
      rw [← e120] at v0 v1
      rw [hE1, lf u u0 u1 (by omega) (by omega)]
      unfold pb_s
      rw [if_neg (by omega), if_neg (by omega), if_pos c8]
      refine bit_k (by omega) (fun n => ?_) k1
      have := tb_s ⟨(mi_a h 120 u.toNat).toNat, by omega⟩ n
      dsimp only at this
      rw [Int.toNat_of_nonneg v0] at this
      exact this
    · rw [s1 u.toNat hun, lf u u0 u1 c9 c10]
      unfold pb_s
      rw [if_neg c1, if_neg c2, if_neg c8]
/-- numbers, literals, tops, as the class's printing walk wants them -/
theorem vpp_of {it : Int → Prop} {kw : Int → Bool} (hT : TW f ow g Y h) (hl : TLW g h) (hN : PN g) (hG : cg_G f it (mi_a h) Y kw h) (hb : bt_g b g) (hQ : tc_Q h h (g 0 0)) : vpp_G (tq_L h) (mi_a h) Y h := by
  obtain ⟨hS, hq, hC, hP, hI, hV, hW, hZ, hL, hA⟩ := id hT
  have eu : wk_u Y = g 0 0 := hL.2.1.trans hq.1.1.symm
  have e119 : mi_a h 119 = g 119 := rk_g2 hq (by decide)
  have e120 : mi_a h 120 = g 120 := rk_g2 hq (by decide)
  have e126 : mi_a h 126 = g 126 := rk_g2 hq (by decide)
  have e129 : mi_a h 129 = g 129 := rk_g2 hq (by decide)
  refine ⟨fun u u0 u1 => ?_, tt_of hG (fun p p0 p1 c10 c0 => ?_) (by rw [eu]; exact hQ)⟩
  · have hun : ((u.toNat : Nat) : Int) < g 0 0 := by omega
    obtain ⟨t1, t2, t3, t4⟩ := hC.2.2.2.1 u.toNat hun
    obtain ⟨n1, n8⟩ := hN.2.2.1 u.toNat hun
    have v8 := (hV.2.2 u.toNat hun).2.2.2
    refine ⟨fun c1 => ⟨?_, ?_⟩, fun c8 => ?_⟩
    · rw [t2, e120, if_neg (by rw [← e119]; omega), if_neg (by rw [← e119]; omega)]
    · rw [e120]
      exact n1 (by rw [← e119]; exact c1)
    · have c8' : g 119 u.toNat = 8 := by rw [← e119]; exact c8
      obtain ⟨q0, q1⟩ := n8 c8'
      have eL : tq_L h (g 120 u.toNat).toNat = g 117 (g 120 u.toNat).toNat := (hq.2.2 _).symm
      rw [e120, eL]
      refine ⟨?_, v8 c8', hl.2.2 _ (by omega), hN.2.2.2 _ (by omega)⟩
      rw [t2, if_neg (by omega), if_neg (by omega)]
  · rw [e119] at c10
    rw [e120, e126, e129] at c0 ⊢
    have hun : ((p.toNat : Nat) : Int) < g 0 0 := by omega
    have hb1 := (hb.1 p.toNat hun c10).1
    obtain ⟨-, -, d3, -, -, d5⟩ := hL.1.2.2.2 (g 120 p.toNat) hb1.1 (by rw [hL.2.2.1, ← hq.1.2.2.1]; exact hb1.2)
    have a0 := (d5 0 (by omega)).1
    have a0 : 0 ≤ mi_a h 129 (g 120 p.toNat).toNat := a0
    rw [e129] at a0
    have := bt_first hb hun c10 a0 c0
    omega
end CSO
