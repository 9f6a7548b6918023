/-! what is read: numbers' digits, literals' codes; every alternative has an item -/
theorem lgd_up : ∀ (n m : Nat) (v : Int), n ≤ m → lgd n v → lgd m v := by
  intro n
  induction n with
  | zero =>
    intro m v _ h
    have h : v = 0 := h
    subst h
    exact lgd_0 m
  | succ n ih =>
    intro m v hm h
    obtain ⟨m, rfl⟩ : ∃ k, m = k + 1 := ⟨m - 1, by omega⟩
    rcases h with h | ⟨h1, h2, h3⟩
    · exact Or.inl h
    · exact Or.inr ⟨h1, h2, ih m _ (by omega) h3⟩
theorem tx_code_l {c : Nat → Int} : ∀ (m : Nat) (k : Int), (∀ j, k ≤ j → j < k + m → tx_low (c j.toNat)) → lgd m (tx_code c k m) := by
  intro m
  induction m with
  | zero => intro k _; rfl
  | succ m ih =>
    intro k h
    have hk := h k (Int.le_refl _) (by omega)
    unfold tx_low at hk
    have hr := ih (k + 1) (fun j j1 j2 => h j (by omega) (by omega))
    show lgd (m + 1) ((c k.toNat - 96) + 32 * tx_code c (k + 1) m)
    refine Or.inr ⟨by omega, by omega, ?_⟩
    rw [show ((c k.toNat - 96) + 32 * tx_code c (k + 1) m) / 32 = tx_code c (k + 1) m by omega]
    exact hr
theorem tx_code_p {c : Nat → Int} {m : Nat} {k : Int} (hm : 0 < m) (h : ∀ j, k ≤ j → j < k + m → tx_low (c j.toNat)) : 0 < tx_code c k m := by
  obtain ⟨m, rfl⟩ : ∃ i, m = i + 1 := ⟨m - 1, by omega⟩
  have hk := h k (Int.le_refl _) (by omega)
  unfold tx_low at hk
  have hb := (tx_code_b (c := c) m (k + 1) (fun j j1 j2 => h j (by omega) (by omega))).1
  show 0 < (c k.toNat - 96) + 32 * tx_code c (k + 1) m
  omega
def PN (g : wk_g) : Prop := 0 ≤ g 0 0 ∧ 0 ≤ g 0 4 ∧ (∀ u : Nat, (u : Int) < g 0 0 → (g 119 u = 1 → 0 ≤ g 120 u ∧ g 120 u ≤ 9) ∧ (g 119 u = 8 → 0 ≤ g 120 u ∧ g 120 u < g 0 4)) ∧ ∀ l : Nat, (l : Int) < g 0 4 → lit_ok (g 117 l)
section PNN
variable {n : Int} {c : Nat → Int} {g g' : wk_g}
theorem tk_lit {a t v p e : Int} (h : tk_T n c a t v p e) : ((t = 3 ∨ t = 4) → lit_ok (lc_t t v)) ∧ (t = 5 → 0 ≤ v ∧ v ≤ 9) := by
  obtain ⟨-, h⟩ := h
  rcases h with ⟨-, h⟩ | ⟨-, h⟩
  · exact ⟨fun e => by omega, fun e => by omega⟩
  rcases h with h | h | h | h | h | h | h
  · exact ⟨fun e => by have := h.2.1; omega, fun e => by have := h.2.1; omega⟩
  · exact ⟨fun e => by have := h.2.1; omega, fun e => by have := h.2.1; omega⟩
  · obtain ⟨h1, h2, h3, -⟩ := h
    unfold tx_dig at h1
    exact ⟨fun e => by omega, fun _ => by omega⟩
  · obtain ⟨-, q, hq, h⟩ := h
    rcases h with ⟨h1, h2, h3, h4, h5, h6, h7⟩ | ⟨-, h⟩
    · refine ⟨fun _ => ?_, fun e => by omega⟩
      have hlow : ∀ j, p + 1 ≤ j → j < p + 1 + ((q - (p + 1)).toNat : Nat) → tx_low (c j.toNat) := fun j j1 j2 => (hq.2.1 j j1 (by omega)).2
      unfold lc_t
      rw [if_pos h5, h6]
      exact Or.inl ⟨tx_code_p (by omega) hlow, lgd_up _ 6 _ (by omega) (tx_code_l _ _ hlow)⟩
    · exact ⟨fun e => by omega, fun e => by omega⟩
  · obtain ⟨-, h⟩ := h
    rcases h with ⟨h1, h2, h3, h4, h5⟩ | ⟨-, h⟩
    · refine ⟨fun _ => ?_, fun e => by omega⟩
      unfold lc_t
      rw [if_neg (by omega), h4]
      unfold tx_sg tx_low tx_dig tx_cap at h2
      refine Or.inr ⟨by omega, Or.inr ⟨by omega, by omega⟩, ?_⟩
      unfold wy
      rw [decide_eq_false_iff_not]
      omega
    · exact ⟨fun e => by omega, fun e => by omega⟩
  · obtain ⟨h1, h2, -⟩ := h
    unfold tx_own at h1
    exact ⟨fun e => by omega, fun e => by omega⟩
  · have := h.2.2.2.2.2.2
    exact ⟨fun e => by omega, fun e => by omega⟩
theorem PN_cg (h : PN g) (e0 : g' 0 0 = g 0 0) (e4 : g' 0 4 = g 0 4) (a : g' 119 = g 119) (b : g' 120 = g 120) (d : g' 117 = g 117) : PN g' := by
  unfold PN at h ⊢
  rw [e0, e4, a, b, d]
  exact h
theorem PN_unit {s w p : Int} (h : PN g) (hw : (s = 1 → 0 ≤ w ∧ w ≤ 9) ∧ (s = 8 → 0 ≤ w ∧ w < g 0 4)) : PN (rf_unit g s w p) := by
  obtain ⟨h0, h4, h, hl⟩ := h
  refine ⟨by show 0 ≤ g 0 0 + 1; omega, h4, fun u hu => ?_, hl⟩
  have hu : (u : Int) < g 0 0 + 1 := hu
  show ((if u = (g 0 0).toNat then s else g 119 u) = 1 → 0 ≤ (if u = (g 0 0).toNat then w else g 120 u) ∧ (if u = (g 0 0).toNat then w else g 120 u) ≤ 9) ∧ ((if u = (g 0 0).toNat then s else g 119 u) = 8 → 0 ≤ (if u = (g 0 0).toNat then w else g 120 u) ∧ (if u = (g 0 0).toNat then w else g 120 u) < g 0 4)
  by_cases cu : u = (g 0 0).toNat
  · simp only [if_pos cu]
    exact hw
  · simp only [if_neg cu]
    exact h u (by omega)
theorem PN_word {u w : Int} (h : PN g) (hw : g 119 u.toNat = 1 → 0 ≤ w ∧ w ≤ 9) (h8 : g 119 u.toNat ≠ 8) : PN (rf_word g u w) := by
  obtain ⟨h0, h4, h, hl⟩ := h
  refine ⟨h0, h4, fun i hi => ?_, hl⟩
  show (g 119 i = 1 → 0 ≤ (if i = u.toNat then w else g 120 i) ∧ (if i = u.toNat then w else g 120 i) ≤ 9) ∧ (g 119 i = 8 → 0 ≤ (if i = u.toNat then w else g 120 i) ∧ (if i = u.toNat then w else g 120 i) < g 0 4)
  by_cases cu : i = u.toNat
  · simp only [if_pos cu]
    rw [cu]
    exact ⟨hw, fun q => absurd q h8⟩
  · simp only [if_neg cu]
    exact h i hi
theorem PN_lit {x : Int} (h : PN g) (hx : lit_ok x) : PN (rf_lit g x) := by
  obtain ⟨h0, h4, h, hl⟩ := h
  refine ⟨h0, by show 0 ≤ g 0 4 + 1; omega, fun u hu => ⟨(h u hu).1, fun q => ?_⟩, fun l hl' => ?_⟩
  · have := (h u hu).2 q
    show 0 ≤ g 120 u ∧ g 120 u < g 0 4 + 1
    omega
  · have hl' : (l : Int) < g 0 4 + 1 := hl'
    show lit_ok (if l = (g 0 4).toNat then x else g 117 l)
    split
    · exact hx
    · exact hl l (by omega)
theorem PN_rp {t v p : Int} (h : PN g) (h3 : (t = 3 ∨ t = 4) → lit_ok (lc_t t v)) (hip : ip_t t v) (hr : rp_R g t v p g') : PN g' ∧ ((t = 1 ∧ so_r v = 1) → g' 119 (g' 0 0 - 1).toNat = 1) := by
  rcases hr with ⟨e1, e2⟩ | ⟨e1, z, gl, e2, e3⟩ | ⟨e1, e2⟩
  · refine ⟨?_, fun q => by omega⟩
    rw [e2]
    have n10 : (rf_unit g 10 0 p) 119 (g 0 0).toNat = 10 := by
      show (if (g 0 0).toNat = (g 0 0).toNat then (10 : Int) else g 119 (g 0 0).toNat) = 10
      rw [if_pos rfl]
    exact PN_cg (g := rf_word (rf_unit g 10 0 p) (g 0 0) (g 0 2)) (PN_word (PN_unit h ⟨fun q => absurd q (by decide), fun q => absurd q (by decide)⟩) (fun q => by rw [n10] at q; exact absurd q (by decide)) (by rw [n10]; decide)) rfl rfl rfl rfl rfl
  · refine ⟨?_, fun q => by omega⟩
    rw [e3]
    have h4 := h.2.1
    rcases e2 with ⟨x1, x2, x3, x4, x5⟩ | ⟨x1, x2, x3, x4⟩
    · rw [x5]
      exact PN_cg (PN_unit (s := 8) (w := z) (p := p) h ⟨fun q => absurd q (by decide), fun _ => ⟨x1, x2⟩⟩) rfl rfl rfl rfl rfl
    · rw [x4]
      exact PN_cg (PN_unit (s := 8) (w := z) (p := p) (PN_lit h (h3 e1)) ⟨fun q => absurd q (by decide), fun _ => ⟨by omega, by show z < g 0 4 + 1; omega⟩⟩) rfl rfl rfl rfl rfl
  · have sv := so_r_v v
    have sp : pu_s t v ≠ 8 := by
      unfold ip_t at hip
      unfold pu_s
      by_cases c1 : t = 1
      · rw [if_pos c1]
        omega
      · rw [if_neg c1, if_pos (by omega)]
        decide
    refine ⟨?_, fun q => ?_⟩
    · rw [e2]
      refine PN_cg (PN_unit (s := pu_s t v) (w := pu_w t v) (p := p) h ⟨fun q => ?_, fun q => absurd q sp⟩) rfl rfl rfl rfl rfl
      unfold pu_s at q
      unfold pu_w
      by_cases c2 : t = 2
      · rw [if_neg (by omega), if_pos c2] at q
        exact absurd q (by decide)
      · rw [if_neg c2]
        exact ⟨by decide, by decide⟩
    · rw [e2]
      show (if (g 0 0 + 1 - 1).toNat = (g 0 0).toNat then pu_s t v else g 119 (g 0 0 + 1 - 1).toNat) = 1
      rw [show g 0 0 + 1 - 1 = g 0 0 by omega, if_pos rfl]
      unfold pu_s
      rw [if_pos q.1]
      exact q.2
theorem PN_T {x y : ft_X} (h : PN x.1) (ht : ft_T n c x y) : PN y.1 := by
  obtain ⟨t, v, p, e, k1, k2⟩ := ht
  obtain ⟨v3, -⟩ := tk_lit k1
  rcases k2 with ⟨hip, -, g1, r1, r2⟩ | ⟨nip, -, m⟩
  · obtain ⟨q1, q19⟩ := PN_rp h v3 hip r1
    rcases r2 with ⟨-, r3⟩ | ⟨-, g2, a2, r3, r4, r5⟩
    · rw [r3]
      exact q1
    · rw [r5]
      by_cases cn : t = 1 ∧ so_r v = 1
      · obtain ⟨t2, v2, p2, e2, l1, l2⟩ := r3 cn
        rcases l2 with ⟨-, l3, l4⟩ | ⟨l3, v3, p3, l4, l5⟩
        · rw [l3]
          exact q1
        · rw [l5]
          exact PN_word q1 (fun _ => (tk_lit l4).2 rfl) (by rw [q19 cn]; decide)
      · obtain ⟨l1, l2⟩ := r4 cn
        rw [l1]
        exact q1
  · rcases m with ⟨m1, -, m3⟩ | ⟨m1, -, m3⟩ | ⟨m1, -, m3⟩ | ⟨m1, -, m3⟩
    all_goals
      rw [m3]
      exact PN_cg h rfl rfl rfl rfl rfl
theorem PN_Tr {y : ft_X} : ∀ (k : Nat) (x : ft_X), PN x.1 → ft_Tr n c k x y → PN y.1 := by
  intro k
  induction k with
  | zero => intro x h e; have e : x = y := e; rw [← e]; exact h
  | succ k ih => intro x h e; obtain ⟨z, e1, e2⟩ := e; exact ih z (PN_T h e1) e2
theorem PN_ruTr {s' : wk_g × Int} : ∀ (k : Nat) (s : wk_g × Int), PN s.1 → ru_Tr n c k s s' → PN s'.1 := by
  intro k
  induction k with
  | zero => intro s h e; have e : s = s' := e; rw [← e]; exact h
  | succ k ih =>
    intro s h e
    obtain ⟨z, ⟨v, p, e', v2, p2, e2', y, k1, -, -, k4, ⟨k', k5, -⟩, k7⟩, e2⟩ := e
    refine ih z ?_ e2
    rw [k7]
    exact PN_Tr k' _ (show PN (ru_x s.1 v p e2').1 from PN_cg h rfl rfl rfl rfl rfl) k5
theorem PN_D {g0 : wk_g} (h0 : rz_0 g0) (h : rz_D n c g0 g) : PN g := by
  obtain ⟨k, a, hk, -⟩ := h
  have z0 : g0 0 0 = 0 := h0.1.1
  have z4 : g0 0 4 = 0 := h0.1.2.2.2.2
  exact PN_ruTr k (g0, 0) ⟨by show 0 ≤ g0 0 0; omega, by show 0 ≤ g0 0 4; omega, fun u hu => by have hu : (u : Int) < g0 0 0 := hu; omega, fun l hl => by have hl : (l : Int) < g0 0 4 := hl; omega⟩ hk
end PNN
/-! every alternative has an item -/
def NE (x : ft_X) : Prop := (0 ≤ x.1 0 0 ∧ 0 ≤ x.1 0 1 ∧ 0 ≤ x.1 0 5) ∧ (∀ a : Nat, (a : Int) < x.1 0 1 → 0 ≤ x.1 126 a ∨ ∃ k : Nat, (k : Int) ≤ x.1 0 5 ∧ x.1 147 k = a ∧ x.1 149 k < 0) ∧ (x.2.2.1 = 0 → 0 ≤ x.1 149 (x.1 0 5).toNat) ∧ (∀ k : Nat, (k : Int) ≤ x.1 0 5 → x.1 151 k ≠ 0 → 0 ≤ x.1 149 k) ∧ ∀ k : Nat, (k : Int) ≤ x.1 0 5 → 0 < k → 0 ≤ x.1 148 k
def NE0 (g : wk_g) : Prop := (0 ≤ g 0 0 ∧ 0 ≤ g 0 1) ∧ ∀ a : Nat, (a : Int) < g 0 1 → 0 ≤ g 126 a
section NEE
variable {n : Int} {c : Nat → Int} {g g' : wk_g}
def ne_g (g : wk_g) : Prop := (0 ≤ g 0 0 ∧ 0 ≤ g 0 1 ∧ 0 ≤ g 0 5) ∧ (∀ a : Nat, (a : Int) < g 0 1 → 0 ≤ g 126 a ∨ ∃ k : Nat, (k : Int) ≤ g 0 5 ∧ g 147 k = a ∧ g 149 k < 0) ∧ (∀ k : Nat, (k : Int) ≤ g 0 5 → g 151 k ≠ 0 → 0 ≤ g 149 k) ∧ ∀ k : Nat, (k : Int) ≤ g 0 5 → 0 < k → 0 ≤ g 148 k
theorem ne_cg (h : ne_g g) (e : 0 ≤ g' 0 0) (e1 : g' 0 1 = g 0 1) (e5 : g' 0 5 = g 0 5) (a : g' 126 = g 126) (b : g' 147 = g 147) (d : g' 149 = g 149) (f : g' 151 = g 151) (j : g' 148 = g 148) : ne_g g' := by
  unfold ne_g at h ⊢
  rw [e1, e5, a, b, d, f, j]
  exact ⟨⟨e, h.1.2⟩, h.2⟩
/-- a unit is put -/
theorem ne_put {u : Int} (h : ne_g g) (hu : 0 ≤ u) : ne_g (rf_put g u) ∧ 0 ≤ (rf_put g u) 149 (g 0 5).toNat := by
  obtain ⟨⟨n0, n1, n5⟩, h1, h2, h3⟩ := h
  have k5 : (((g 0 5).toNat : Nat) : Int) = g 0 5 := by omega
  have e149 : ∀ k : Nat, (rf_put g u) 149 k = if g 151 (g 0 5).toNat = 0 ∧ k = (g 0 5).toNat then u else g 149 k := fun k => rfl
  have e126 : ∀ k : Nat, (rf_put g u) 126 k = if g 151 (g 0 5).toNat = 0 ∧ g 149 (g 0 5).toNat < 0 ∧ k = (g 147 (g 0 5).toNat).toNat then u else g 126 k := fun k => rfl
  have e151 : ∀ k : Nat, (rf_put g u) 151 k = if k = (g 0 5).toNat then 0 else g 151 k := fun k => rfl
  have last : 0 ≤ (rf_put g u) 149 (g 0 5).toNat := by
    rw [e149]
    by_cases c : g 151 (g 0 5).toNat = 0
    · rw [if_pos ⟨c, rfl⟩]
      exact hu
    · rw [if_neg (fun q => c q.1)]
      exact h2 _ (by omega) c
  refine ⟨⟨⟨n0, n1, n5⟩, fun a ha => ?_, fun k hk q => ?_, h3⟩, last⟩
  · have ha : (a : Int) < g 0 1 := ha
    rw [e126]
    by_cases c : g 151 (g 0 5).toNat = 0 ∧ g 149 (g 0 5).toNat < 0 ∧ a = (g 147 (g 0 5).toNat).toNat
    · rw [if_pos c]
      exact Or.inl hu
    · rw [if_neg c]
      rcases h1 a ha with q | ⟨k, k1, k2, k3⟩
      · exact Or.inl q
      · by_cases ck : k = (g 0 5).toNat
        · exfalso
          subst ck
          by_cases c0 : g 151 (g 0 5).toNat = 0
          · exact c ⟨c0, k3, by omega⟩
          · have := h2 _ (by omega) c0
            omega
        · refine Or.inr ⟨k, k1, k2, ?_⟩
          rw [e149, if_neg (fun q => ck q.2)]
          exact k3
  · rw [e151] at q
    by_cases ck : k = (g 0 5).toNat
    · rw [if_pos ck] at q
      exact absurd rfl q
    · rw [if_neg ck] at q
      rw [e149, if_neg (fun z => ck z.2)]
      exact h2 k hk q
/-- an alternative begins -/
theorem ne_beg {p : Int} (n0 : 0 ≤ g 0 0 ∧ 0 ≤ g 0 1 ∧ 0 ≤ g 0 5) (h1 : ∀ a : Nat, (a : Int) < g 0 1 → 0 ≤ g 126 a ∨ ∃ k : Nat, (k : Int) < g 0 5 ∧ g 147 k = a ∧ g 149 k < 0) (h2 : ∀ k : Nat, (k : Int) < g 0 5 → g 151 k ≠ 0 → 0 ≤ g 149 k) (h3 : ∀ k : Nat, (k : Int) ≤ g 0 5 → 0 < k → 0 ≤ g 148 k) : ne_g (rf_beg g p) := by
  obtain ⟨n0, n1, n5⟩ := n0
  refine ⟨⟨n0, by show 0 ≤ g 0 1 + 1; omega, n5⟩, fun a ha => ?_, fun k hk q => ?_, h3⟩
  · have ha : (a : Int) < g 0 1 + 1 := ha
    by_cases c : a = (g 0 1).toNat
    · refine Or.inr ⟨(g 0 5).toNat, by show (((g 0 5).toNat : Nat) : Int) ≤ g 0 5; omega, ?_, ?_⟩
      · show (if (g 0 5).toNat = (g 0 5).toNat then g 0 1 else g 147 (g 0 5).toNat) = a
        rw [if_pos rfl]
        omega
      · show (if (g 0 5).toNat = (g 0 5).toNat then (-1 : Int) else g 149 (g 0 5).toNat) < 0
        rw [if_pos rfl]
        decide
    · rcases h1 a (by omega) with q | ⟨k, k1, k2, k3⟩
      · refine Or.inl ?_
        show 0 ≤ if a = (g 0 1).toNat then (-1 : Int) else g 126 a
        rw [if_neg c]
        exact q
      · refine Or.inr ⟨k, by show (k : Int) ≤ g 0 5; omega, ?_, ?_⟩
        · show (if k = (g 0 5).toNat then g 0 1 else g 147 k) = a
          rw [if_neg (by omega)]
          exact k2
        · show (if k = (g 0 5).toNat then (-1 : Int) else g 149 k) < 0
          rw [if_neg (by omega)]
          exact k3
  · have hk : (k : Int) ≤ g 0 5 := hk
    have q : (if k = (g 0 5).toNat then (0 : Int) else g 151 k) ≠ 0 := q
    by_cases c : k = (g 0 5).toNat
    · rw [if_pos c] at q
      exact absurd rfl q
    · rw [if_neg c] at q
      show 0 ≤ if k = (g 0 5).toNat then (-1 : Int) else g 149 k
      rw [if_neg c]
      exact h2 k (by omega) q
theorem NE_T {x y : ft_X} (h : NE x) (ht : ft_T n c x y) : NE y := by
  have h0 : ne_g x.1 := ⟨h.1, h.2.1, h.2.2.2⟩
  obtain ⟨⟨n0, n1, n5⟩, h1, hd, h2, h3⟩ := h
  have k5 : (((x.1 0 5).toNat : Nat) : Int) = x.1 0 5 := by omega
  -- what the others do
  have mk : ∀ (g2 : wk_g) (a r s : Int), ne_g g2 → 0 ≤ g2 149 (g2 0 5).toNat → NE (g2, a, 0, r, s) := fun g2 a r s q1 q2 => ⟨q1.1, q1.2.1, fun _ => q2, q1.2.2⟩
  have mk1 : ∀ (g2 : wk_g) (a r s : Int), ne_g g2 → NE (g2, a, 1, r, s) := fun g2 a r s q1 => ⟨q1.1, q1.2.1, fun q => absurd q (show (1 : Int) ≠ 0 by decide), q1.2.2⟩
  obtain ⟨t, v, p, e, k1, k2⟩ := ht
  rcases k2 with ⟨hip, -, g1, r1, r2⟩ | ⟨nip, due, m⟩
  · have put : ∀ (gl : wk_g) (s w : Int), ne_g gl → gl 0 0 = x.1 0 0 → g1 = rf_put (rf_unit gl s w p) (x.1 0 0) → ne_g g1 ∧ 0 ≤ g1 149 (g1 0 5).toNat := by
      intro gl s w q0 q1 q2
      have u0 : ne_g (rf_unit gl s w p) := ne_cg q0 (by show 0 ≤ gl 0 0 + 1; omega) rfl rfl rfl rfl rfl rfl rfl
      rw [q2]
      exact ne_put u0 n0
    have pl : t ≠ 40 → ne_g g1 ∧ 0 ≤ g1 149 (g1 0 5).toNat := by
      intro t40
      rcases r1 with ⟨e1, -⟩ | ⟨e1, z, gl, e2, e3⟩ | ⟨e1, e2⟩
      · exact absurd e1 t40
      · rcases e2 with ⟨x1, x2, x3, x4, x5⟩ | ⟨x1, x2, x3, x4⟩
        · rw [x5] at e3
          exact put x.1 8 z h0 rfl e3
        · rw [x4] at e3
          exact put (rf_lit x.1 (lc_t t v)) 8 z (ne_cg h0 n0 rfl rfl rfl rfl rfl rfl rfl) rfl e3
      · exact put x.1 _ _ h0 rfl e2
    rcases r2 with ⟨t40, r3⟩ | ⟨t40, g2, a2, r3, r4, r5⟩
    · rw [r3]
      refine mk1 g1 _ _ _ ?_
      rcases r1 with ⟨e1, e2⟩ | ⟨e1, -⟩ | ⟨e1, -⟩
      · rw [e2]
        refine ne_beg ⟨by show 0 ≤ x.1 0 0 + 1; omega, n1, by show 0 ≤ x.1 0 5 + 1; omega⟩ (fun a ha => ?_) (fun k hk q => ?_) (fun k hk q => ?_)
        · have ha : (a : Int) < x.1 0 1 := ha
          rcases h1 a ha with q | ⟨k, k1, k2, k3⟩
          · exact Or.inl q
          · exact Or.inr ⟨k, by show (k : Int) < x.1 0 5 + 1; omega, k2, k3⟩
        · have hk : (k : Int) < x.1 0 5 + 1 := hk
          exact h2 k (by omega) q
        · have hk : (k : Int) ≤ x.1 0 5 + 1 := hk
          show 0 ≤ if k = (x.1 0 5 + 1).toNat then x.1 0 0 else x.1 148 k
          by_cases c : k = (x.1 0 5 + 1).toNat
          · rw [if_pos c]
            exact n0
          · rw [if_neg c]
            exact h3 k (by omega) q
      · omega
      · omega
    · obtain ⟨q1, q2⟩ := pl t40
      rw [r5]
      by_cases cn : t = 1 ∧ so_r v = 1
      · obtain ⟨t2, v2, p2, e2, l1, l2⟩ := r3 cn
        rcases l2 with ⟨-, l3, l4⟩ | ⟨l3, v3, p3, l4, l5⟩
        · rw [l3]
          exact mk g1 _ _ _ q1 q2
        · rw [l5]
          exact mk _ _ _ _ (ne_cg q1 q1.1.1 rfl rfl rfl rfl rfl rfl rfl) q2
      · obtain ⟨l1, l2⟩ := r4 cn
        rw [l1]
        exact mk g1 _ _ _ q1 q2
  · have hd := hd due
    have h1' : ∀ a : Nat, (a : Int) < x.1 0 1 → 0 ≤ x.1 126 a ∨ ∃ k : Nat, (k : Int) < x.1 0 5 ∧ x.1 147 k = a ∧ x.1 149 k < 0 := fun a ha => by
      rcases h1 a ha with q | ⟨k, k1, k2, k3⟩
      · exact Or.inl q
      · by_cases c : k = (x.1 0 5).toNat
        · subst c
          omega
        · exact Or.inr ⟨k, by omega, k2, k3⟩
    rcases m with ⟨m1, -, m3⟩ | ⟨m1, mp, m3⟩ | ⟨m1, -, m3⟩ | ⟨m1, ml, m3⟩
    · rw [m3]
      exact mk _ _ _ _ (ne_cg h0 n0 rfl rfl rfl rfl rfl rfl rfl) hd
    · rw [m3]
      refine mk1 _ _ _ _ ⟨⟨n0, n1, n5⟩, h1, fun k hk q => ?_, h3⟩
      have q : (if k = (x.1 0 5).toNat then (1 : Int) else x.1 151 k) ≠ 0 := q
      by_cases c : k = (x.1 0 5).toNat
      · subst c
        exact hd
      · rw [if_neg c] at q
        exact h2 k hk q
    · rw [m3]
      exact ⟨(ne_beg (p := p) ⟨n0, n1, n5⟩ h1' (fun k hk => h2 k (by omega)) h3).1, (ne_beg (p := p) ⟨n0, n1, n5⟩ h1' (fun k hk => h2 k (by omega)) h3).2.1, fun q => absurd q (show (1 : Int) ≠ 0 by decide), (ne_beg (p := p) ⟨n0, n1, n5⟩ h1' (fun k hk => h2 k (by omega)) h3).2.2⟩
    · rw [m3]
      have hl : ne_g (rf_lvl x.1 (x.1 0 5 - 1)) := by
        refine ⟨⟨n0, n1, by show 0 ≤ x.1 0 5 - 1; omega⟩, fun a ha => ?_, fun k hk q => ?_, fun k hk q => ?_⟩
        · rcases h1' a ha with q | ⟨k, k1, k2, k3⟩
          · exact Or.inl q
          · exact Or.inr ⟨k, by show (k : Int) ≤ x.1 0 5 - 1; omega, k2, k3⟩
        · have hk : (k : Int) ≤ x.1 0 5 - 1 := hk
          exact h2 k (by omega) q
        · have hk : (k : Int) ≤ x.1 0 5 - 1 := hk
          exact h3 k (by omega) q
      obtain ⟨q1, q2⟩ := ne_put (u := x.1 148 (x.1 0 5).toNat) hl (h3 _ (by omega) (by omega))
      exact mk _ _ _ _ q1 q2
theorem NE_Tr {y : ft_X} : ∀ (k : Nat) (x : ft_X), NE x → ft_Tr n c k x y → NE y := by
  intro k
  induction k with
  | zero => intro x h e; have e : x = y := e; rw [← e]; exact h
  | succ k ih => intro x h e; obtain ⟨z, e1, e2⟩ := e; exact ih z (NE_T h e1) e2
theorem NE_ruTr {s' : wk_g × Int} : ∀ (k : Nat) (s : wk_g × Int), NE0 s.1 → ru_Tr n c k s s' → NE0 s'.1 := by
  intro k
  induction k with
  | zero => intro s h e; have e : s = s' := e; rw [← e]; exact h
  | succ k ih =>
    intro s h e
    obtain ⟨z, ⟨v, p, e', v2, p2, e2', y, k1, -, -, k4, ⟨k', k5, ⟨v5, p5, -, k6, k6'⟩⟩, k7⟩, e2⟩ := e
    refine ih z ?_ e2
    rw [k7]
    have hx : NE (ru_x s.1 v p e2') := by
      have := ne_beg (g := rf_lvl (rf_rule s.1 v p) 0) (p := 0) ⟨h.1.1, h.1.2, by show (0 : Int) ≤ 0; decide⟩ (fun a ha => Or.inl (h.2 a ha)) (fun k hk => by have hk : (k : Int) < 0 := hk; omega) (fun k hk q => by have hk : (k : Int) ≤ 0 := hk; omega)
      exact ⟨this.1, this.2.1, fun q => absurd q (show (1 : Int) ≠ 0 by decide), this.2.2⟩
    obtain ⟨⟨n0, n1, n5⟩, h1, hd, -⟩ := NE_Tr k' _ hx k5
    have hd := hd k6
    refine ⟨⟨n0, n1⟩, fun a ha => ?_⟩
    rcases h1 a ha with q | ⟨k, q1, q2, q3⟩
    · exact q
    · exfalso
      have ek : k = (y.1 0 5).toNat := by omega
      rw [ek] at q3
      omega
theorem NE_D {g0 : wk_g} (h0 : rz_0 g0) (h : rz_D n c g0 g) : NE0 g := by
  obtain ⟨k, a, hk, -⟩ := h
  have z0 : g0 0 0 = 0 := h0.1.1
  have z1 : g0 0 1 = 0 := h0.1.2.1
  exact NE_ruTr k (g0, 0) ⟨⟨by show 0 ≤ g0 0 0; omega, by show 0 ≤ g0 0 1; omega⟩, fun u hu => by have hu : (u : Int) < g0 0 1 := hu; omega⟩ hk
end NEE
