/-! what the rows hold, purely: places, sorts, repeats, literals' numbers -/
def PV (n : Int) (g : wk_g) : Prop := 0 ≤ g 0 0 ∧ (0 ≤ g 0 4 ∧ g 0 4 ≤ 20) ∧ ∀ u : Nat, (u : Int) < g 0 0 → (0 ≤ g 121 u ∧ g 121 u ≤ n) ∧ (1 ≤ g 119 u ∧ g 119 u ≤ 10) ∧ (0 ≤ g 122 u ∧ g 122 u ≤ 2) ∧ (g 119 u = 8 → 0 ≤ g 120 u ∧ g 120 u < 20)
section PVS
variable {n : Int} {c : Nat → Int} {g g' : wk_g}
theorem PV_cg (h : PV n g) (e0 : g' 0 0 = g 0 0) (e4 : g' 0 4 = g 0 4) (a : g' 119 = g 119) (b : g' 120 = g 120) (d : g' 121 = g 121) (e : g' 122 = g 122) : PV n g' := by
  unfold PV at h ⊢
  rw [e0, e4, a, b, d, e]
  exact h
theorem PV_unit {s w p : Int} (h : PV n g) (hs : 1 ≤ s ∧ s ≤ 10) (hp : 0 ≤ p ∧ p ≤ n) (hw : s = 8 → 0 ≤ w ∧ w < 20) : PV n (rf_unit g s w p) := by
  obtain ⟨h0, h4, h⟩ := h
  refine ⟨by show 0 ≤ g 0 0 + 1; omega, h4, fun u hu => ?_⟩
  have hu : (u : Int) < g 0 0 + 1 := hu
  show (0 ≤ (if u = (g 0 0).toNat then p else g 121 u) ∧ (if u = (g 0 0).toNat then p else g 121 u) ≤ n) ∧ (1 ≤ (if u = (g 0 0).toNat then s else g 119 u) ∧ (if u = (g 0 0).toNat then s else g 119 u) ≤ 10) ∧ (0 ≤ (if u = (g 0 0).toNat then 0 else g 122 u) ∧ (if u = (g 0 0).toNat then 0 else g 122 u) ≤ 2) ∧ ((if u = (g 0 0).toNat then s else g 119 u) = 8 → 0 ≤ (if u = (g 0 0).toNat then w else g 120 u) ∧ (if u = (g 0 0).toNat then w else g 120 u) < 20)
  by_cases cu : u = (g 0 0).toNat
  · simp only [if_pos cu]
    exact ⟨hp, hs, ⟨by decide, by decide⟩, hw⟩
  · simp only [if_neg cu]
    exact h u (by omega)
theorem PV_wrap {u w p : Int} (h : PV n g) (hw : 0 ≤ w ∧ w ≤ 2) : PV n (rf_wrap g u w p) := by
  obtain ⟨h0, h4, h⟩ := h
  refine ⟨h0, h4, fun i hi => ?_⟩
  obtain ⟨k1, k2, k3, k4⟩ := h i hi
  refine ⟨k1, k2, ?_, k4⟩
  show 0 ≤ (if i = u.toNat then w else g 122 i) ∧ (if i = u.toNat then w else g 122 i) ≤ 2
  split
  · exact hw
  · exact k3
theorem PV_word {u w : Int} (h : PV n g) (hs : g 119 u.toNat ≠ 8) : PV n (rf_word g u w) := by
  obtain ⟨h0, h4, h⟩ := h
  refine ⟨h0, h4, fun i hi => ?_⟩
  obtain ⟨k1, k2, k3, k4⟩ := h i hi
  refine ⟨k1, k2, k3, fun q => ?_⟩
  have q : g 119 i = 8 := q
  have : i ≠ u.toNat := fun e => hs (by rw [← e]; exact q)
  show 0 ≤ (if i = u.toNat then w else g 120 i) ∧ (if i = u.toNat then w else g 120 i) < 20
  rw [if_neg this]
  exact k4 q
theorem PV_o2 {u f : Int} (h : PV n g) (hs : g 119 u.toNat ≠ 8) : PV n (rf_o2 g u f) := PV_cg (PV_word (u := u) (w := f) h hs) rfl rfl rfl rfl rfl rfl
theorem PV_put {u : Int} (h : PV n g) : PV n (rf_put g u) := PV_cg h rfl rfl rfl rfl rfl rfl
theorem PV_beg {p : Int} (h : PV n g) : PV n (rf_beg g p) := PV_cg h rfl rfl rfl rfl rfl rfl
theorem PV_lvl {k : Int} (h : PV n g) : PV n (rf_lvl g k) := PV_cg h rfl rfl rfl rfl rfl rfl
theorem PV_swap (h : PV n g) : PV n (rf_swap g) := PV_cg h rfl rfl rfl rfl rfl rfl
theorem PV_new (h : PV n g) : PV n (rf_new g) := PV_cg h rfl rfl rfl rfl rfl rfl
theorem PV_o1 {u : Int} (h : PV n g) : PV n (rf_o1 g u) := PV_cg h rfl rfl rfl rfl rfl rfl
theorem PV_rule {v p : Int} (h : PV n g) : PV n (rf_rule g v p) := PV_cg h rfl rfl rfl rfl rfl rfl
theorem PV_lit {k : Int} (h : PV n g) (h4 : g 0 4 < 20) : PV n (rf_lit g k) := by
  obtain ⟨h0, h5, h⟩ := h
  exact ⟨h0, ⟨by show 0 ≤ g 0 4 + 1; omega, by show g 0 4 + 1 ≤ 20; omega⟩, h⟩
theorem PV_rp {t v p : Int} (h : PV n g) (hip : ip_t t v) (hp : 0 ≤ p ∧ p ≤ n) (hr : rp_R g t v p g') : PV n g' ∧ ((t = 1 ∧ so_r v = 1) → g' 119 (g' 0 0 - 1).toNat = 1) := by
  rcases hr with ⟨e1, e2⟩ | ⟨e1, z, gl, e2, e3⟩ | ⟨e1, e2⟩
  · refine ⟨?_, fun q => by omega⟩
    rw [e2]
    refine PV_beg (PV_o2 (PV_new (PV_o1 (PV_unit h ⟨by decide, by decide⟩ hp (fun q => absurd q (by decide))))) ?_)
    show (if (g 0 0).toNat = (g 0 0).toNat then (10 : Int) else g 119 (g 0 0).toNat) ≠ 8
    rw [if_pos rfl]
    decide
  · refine ⟨?_, fun q => by omega⟩
    rw [e3]
    have h4 := h.2.1
    rcases e2 with ⟨x1, x2, x3, x4, x5⟩ | ⟨x1, x2, x3, x4⟩
    · rw [x5]
      exact PV_put (PV_unit h ⟨by decide, by decide⟩ hp (fun _ => ⟨x1, by omega⟩))
    · rw [x4]
      exact PV_put (PV_unit (PV_lit h x2) ⟨by decide, by decide⟩ hp (fun _ => ⟨by omega, by omega⟩))
  · have sv := so_r_v v
    have sp : 1 ≤ pu_s t v ∧ pu_s t v ≤ 10 ∧ pu_s t v ≠ 8 := by
      unfold ip_t at hip
      unfold pu_s
      by_cases c1 : t = 1
      · rw [if_pos c1]
        omega
      · rw [if_neg c1]
        by_cases c2 : t = 2
        · rw [if_pos c2]
          decide
        · omega
    refine ⟨?_, fun q => ?_⟩
    · rw [e2]
      exact PV_put (PV_unit h ⟨sp.1, sp.2.1⟩ hp (fun q => absurd q sp.2.2))
    · rw [e2]
      show (if (g 0 0 + 1 - 1).toNat = (g 0 0).toNat then pu_s t v else g 119 (g 0 0 + 1 - 1).toNat) = 1
      rw [show g 0 0 + 1 - 1 = g 0 0 by omega, if_pos rfl]
      unfold pu_s
      rw [if_pos q.1]
      exact q.2
/-- the alternatives' and the forms' links -/
def PW (g : wk_g) : Prop := 0 ≤ g 0 1 ∧ 0 ≤ g 0 2 ∧ (∀ a : Nat, (a : Int) < g 0 1 → -1 ≤ g 128 a ∧ g 128 a < g 0 1) ∧ ∀ f : Nat, (f : Int) < g 0 2 → -1 ≤ g 129 f ∧ g 129 f < g 0 1
theorem PW_cg (h : PW g) (e1 : g' 0 1 = g 0 1) (e2 : g' 0 2 = g 0 2) (a : g' 128 = g 128) (b : g' 129 = g 129) : PW g' := by
  unfold PW at h ⊢
  rw [e1, e2, a, b]
  exact h
theorem PW_beg {p : Int} (h : PW g) : PW (rf_beg g p) := by
  obtain ⟨h1, h2, h3, h4⟩ := h
  refine ⟨by show 0 ≤ g 0 1 + 1; omega, h2, fun a ha => ?_, fun f hf => ?_⟩
  · have ha : (a : Int) < g 0 1 + 1 := ha
    show -1 ≤ (if g 130 (g 146 (g 0 5).toNat).toNat ≠ 0 ∧ a = (g 147 (g 0 5).toNat).toNat then g 0 1 else if a = (g 0 1).toNat then -1 else g 128 a) ∧ (if g 130 (g 146 (g 0 5).toNat).toNat ≠ 0 ∧ a = (g 147 (g 0 5).toNat).toNat then g 0 1 else if a = (g 0 1).toNat then -1 else g 128 a) < g 0 1 + 1
    split
    · omega
    · split
      · omega
      · have := h3 a (by omega)
        omega
  · have := h4 f hf
    show -1 ≤ (if g 130 (g 146 (g 0 5).toNat).toNat = 0 ∧ f = (g 146 (g 0 5).toNat).toNat then g 0 1 else g 129 f) ∧ (if g 130 (g 146 (g 0 5).toNat).toNat = 0 ∧ f = (g 146 (g 0 5).toNat).toNat then g 0 1 else g 129 f) < g 0 1 + 1
    split <;> omega
theorem PW_form {g' : wk_g} (h : PW g) (e1 : g' 0 1 = g 0 1) (e2 : g' 0 2 = g 0 2 + 1) (a : g' 128 = g 128) (b : ∀ i, g' 129 i = if i = (g 0 2).toNat then -1 else g 129 i) : PW g' := by
  obtain ⟨h1, h2, h3, h4⟩ := h
  refine ⟨by omega, by omega, fun i hi => ?_, fun f hf => ?_⟩
  · rw [a, e1]
    exact h3 i (by omega)
  · rw [b, e1]
    split
    · omega
    · exact h4 f (by omega)
theorem PW_rp {t v p : Int} (h : PW g) (hr : rp_R g t v p g') : PW g' := by
  rcases hr with ⟨e1, e2⟩ | ⟨e1, z, gl, e2, e3⟩ | ⟨e1, e2⟩
  · rw [e2]
    exact PW_beg (PW_cg (PW_form (g' := rf_new (rf_o1 (rf_unit g 10 0 p) (g 0 0))) h rfl rfl rfl (fun _ => rfl)) rfl rfl rfl rfl)
  · rw [e3]
    rcases e2 with ⟨x1, x2, x3, x4, x5⟩ | ⟨x1, x2, x3, x4⟩
    · rw [x5]
      exact PW_cg h rfl rfl rfl rfl
    · rw [x4]
      exact PW_cg h rfl rfl rfl rfl
  · rw [e2]
    exact PW_cg h rfl rfl rfl rfl
theorem PW_T {x y : ft_X} (h : PW x.1) (ht : ft_T n c x y) : PW y.1 := by
  obtain ⟨t, v, p, e, k1, k2⟩ := ht
  rcases k2 with ⟨hip, -, g1, r1, r2⟩ | ⟨nip, -, m⟩
  · have q1 := PW_rp h r1
    rcases r2 with ⟨-, r3⟩ | ⟨-, g2, a2, r3, r4, r5⟩
    · rw [r3]
      exact q1
    · rw [r5]
      by_cases cn : t = 1 ∧ so_r v = 1
      · obtain ⟨t2, v2, p2, e2, l1, l2⟩ := r3 cn
        rcases l2 with ⟨-, l3, l4⟩ | ⟨l3, v3, p3, l4, l5⟩
        · rw [l3]
          exact q1
        · rw [l5]
          exact PW_cg q1 rfl rfl rfl rfl
      · obtain ⟨l1, l2⟩ := r4 cn
        rw [l1]
        exact q1
  · rcases m with ⟨m1, -, m3⟩ | ⟨m1, -, m3⟩ | ⟨m1, -, m3⟩ | ⟨m1, -, m3⟩
    all_goals rw [m3]
    · exact PW_cg h rfl rfl rfl rfl
    · exact PW_cg h rfl rfl rfl rfl
    · exact PW_beg h
    · exact PW_cg h rfl rfl rfl rfl
theorem PW_Tr {y : ft_X} : ∀ (k : Nat) (x : ft_X), PW x.1 → ft_Tr n c k x y → PW y.1 := by
  intro k
  induction k with
  | zero => intro x h e; have e : x = y := e; rw [← e]; exact h
  | succ k ih => intro x h e; obtain ⟨z, e1, e2⟩ := e; exact ih z (PW_T h e1) e2
theorem PW_ruTr {s' : wk_g × Int} : ∀ (k : Nat) (s : wk_g × Int), PW s.1 → ru_Tr n c k s s' → PW s'.1 := by
  intro k
  induction k with
  | zero => intro s h e; have e : s = s' := e; rw [← e]; exact h
  | succ k ih =>
    intro s h e
    obtain ⟨z, ⟨v, p, e', v2, p2, e2', y, k1, -, -, k4, ⟨k', k5, -⟩, k7⟩, e2⟩ := e
    refine ih z ?_ e2
    rw [k7]
    exact PW_Tr k' _ (show PW (ru_x s.1 v p e2').1 from PW_beg (PW_cg (PW_form (g' := rf_rule s.1 v p) h rfl rfl rfl (fun _ => rfl)) rfl rfl rfl rfl)) k5
theorem PW_0 (h : rz_0 g) : PW g := ⟨by have := h.1.2.1; omega, by have := h.1.2.2.1; omega, fun a ha => by have := h.1.2.1; omega, fun f hf => by have := h.1.2.2.1; omega⟩
def PX (n : Int) (x : ft_X) : Prop := (0 ≤ x.2.1 ∧ x.2.1 ≤ n) ∧ PV n x.1
theorem PX_T {x y : ft_X} (h : PX n x) (ht : ft_T n c x y) : PX n y := by
  obtain ⟨⟨a0, a1⟩, h⟩ := h
  obtain ⟨t, v, p, e, k1, k2⟩ := ht
  have kf := tk_f a1 k1
  rcases k2 with ⟨hip, -, g1, r1, r2⟩ | ⟨nip, -, m⟩
  · have ne := ip_ne hip
    have ke := kf.2.2.1 ne.1 ne.2
    obtain ⟨q1, q2⟩ := PV_rp h hip ⟨by omega, by omega⟩ r1
    rcases r2 with ⟨-, r3⟩ | ⟨-, g2, a2, r3, r4, r5⟩
    · rw [r3]
      exact ⟨⟨by show 0 ≤ e; omega, by show e ≤ n; omega⟩, q1⟩
    · rw [r5]
      by_cases cn : t = 1 ∧ so_r v = 1
      · obtain ⟨t2, v2, p2, e2, l1, l2⟩ := r3 cn
        rcases l2 with ⟨-, l3, l4⟩ | ⟨l3, v3, p3, l4, l5⟩
        · rw [l3, l4]
          exact ⟨⟨by show 0 ≤ e; omega, by show e ≤ n; omega⟩, q1⟩
        · have f1 := tk_f ke.2 l1
          have f1 := f1.2.2.1 (by omega) (by omega)
          have f2 := tk_f (by omega) l4
          have f2 := f2.2.2.1 (by decide) (by decide)
          have f3 := tk_f ke.2 l1
          have f4 := tk_f (by omega) l4
          rw [l5]
          refine ⟨⟨by show 0 ≤ a2; omega, by show a2 ≤ n; omega⟩, PV_word q1 ?_⟩
          rw [q2 cn]
          decide
      · obtain ⟨l1, l2⟩ := r4 cn
        rw [l1, l2]
        exact ⟨⟨by show 0 ≤ e; omega, by show e ≤ n; omega⟩, q1⟩
  · rcases m with ⟨m1, -, m3⟩ | ⟨m1, -, m3⟩ | ⟨m1, -, m3⟩ | ⟨m1, -, m3⟩
    all_goals
      have ke := kf.2.2.1 (by omega) (by omega)
      rw [m3]
      refine ⟨⟨by show 0 ≤ e; omega, by show e ≤ n; omega⟩, ?_⟩
    · exact PV_wrap h (by split <;> decide)
    · exact PV_swap h
    · exact PV_beg h
    · exact PV_put (PV_lvl h)
theorem PX_Tr {y : ft_X} : ∀ (k : Nat) (x : ft_X), PX n x → ft_Tr n c k x y → PX n y := by
  intro k
  induction k with
  | zero => intro x h e; have e : x = y := e; rw [← e]; exact h
  | succ k ih => intro x h e; obtain ⟨z, e1, e2⟩ := e; exact ih z (PX_T h e1) e2
theorem PV_ru {s s' : wk_g × Int} (a01 : 0 ≤ s.2 ∧ s.2 ≤ n) (h : PV n s.1) (ht : ru_T n c s s') : (0 ≤ s'.2 ∧ s'.2 ≤ n) ∧ PV n s'.1 := by
  obtain ⟨v, p, e, v2, p2, e2, y, k1, -, -, k4, ⟨k, k5, v5, p5, k6, -⟩, k7⟩ := ht
  have f1 := tk_f a01.2 k1
  have f2 := f1.2.2.1 (by decide) (by decide)
  have f3 := tk_f f2.2 k4
  have f4 := f3.2.2.1 (by decide) (by decide)
  obtain ⟨⟨b0, b1⟩, b2⟩ := PX_Tr k _ (show PX n (ru_x s.1 v p e2) from ⟨⟨by show 0 ≤ e2; omega, by show e2 ≤ n; omega⟩, PV_beg (PV_lvl (PV_rule h))⟩) k5
  have f5 := tk_f b1 k6
  have f6 := f5.2.2.1 (by decide) (by decide)
  rw [k7]
  exact ⟨⟨by omega, by omega⟩, b2⟩
theorem PV_ruTr {s' : wk_g × Int} : ∀ (k : Nat) (s : wk_g × Int), (0 ≤ s.2 ∧ s.2 ≤ n) → PV n s.1 → ru_Tr n c k s s' → (0 ≤ s'.2 ∧ s'.2 ≤ n) ∧ PV n s'.1 := by
  intro k
  induction k with
  | zero => intro s a h e; have e : s = s' := e; rw [← e]; exact ⟨a, h⟩
  | succ k ih =>
    intro s a h e
    obtain ⟨z, e1, e2⟩ := e
    obtain ⟨b1, b2⟩ := PV_ru a h e1
    exact ih z b1 b2 e2
theorem PV_0 (h : rz_0 g) : PV n g := ⟨by have := h.1.1; omega, ⟨by have := h.1.2.2.2.2; omega, by have := h.1.2.2.2.2; omega⟩, fun u hu => by have := h.1.1; omega⟩
end PVS
