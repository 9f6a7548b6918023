/-! which parts are the first of a pair: the class's row 74 beside the reference's mates (to stand beside CQ) -/
/-- a turn leaves no mate due where no part is due -/
def PSx (x : ft_X) : Prop := x.2.2.1 = 0 → x.1 151 (x.1 0 5).toNat = 0
section PSS
variable {n : Int} {c : Nat → Int}
theorem PS_put (g : wk_g) (u : Int) : (rf_put g u) 151 ((rf_put g u) 0 5).toNat = 0 := by
  show (if (g 0 5).toNat = (g 0 5).toNat then (0 : Int) else g 151 (g 0 5).toNat) = 0
  rw [if_pos rfl]
theorem PS_T {x y : ft_X} (h : PSx x) (ht : ft_T n c x y) : PSx y := by
  obtain ⟨t, v, p, e, k1, k2⟩ := ht
  rcases k2 with ⟨hip, -, g1, r1, r2⟩ | ⟨nip, due, m⟩
  · rcases r2 with ⟨t40, r3⟩ | ⟨t40, g2, a2, r3, r4, r5⟩
    · rw [r3]
      exact fun q => absurd q (show (1 : Int) ≠ 0 from by decide)
    · have p1 : g1 151 (g1 0 5).toNat = 0 := by
        rcases r1 with ⟨e1, e2⟩ | ⟨e1, z, gl, e2, e3⟩ | ⟨e1, e2⟩
        · exact absurd e1 t40
        · rw [e3]; exact PS_put _ _
        · rw [e2]; exact PS_put _ _
      rw [r5]
      intro _
      by_cases cn : t = 1 ∧ so_r v = 1
      · obtain ⟨t2, v2, p2, e2, l1, l2⟩ := r3 cn
        rcases l2 with ⟨-, l3, l4⟩ | ⟨l3, v3, p3, l4, l5⟩
        · rw [l3]; exact p1
        · rw [l5]; exact p1
      · obtain ⟨l1, l2⟩ := r4 cn
        rw [l1]; exact p1
  · rcases m with ⟨m1, -, m3⟩ | ⟨m1, mp, m3⟩ | ⟨m1, -, m3⟩ | ⟨m1, ml, m3⟩
    · rw [m3]
      exact fun _ => h due
    · rw [m3]
      exact fun q => absurd q (show (1 : Int) ≠ 0 from by decide)
    · rw [m3]
      exact fun q => absurd q (show (1 : Int) ≠ 0 from by decide)
    · rw [m3]
      exact fun _ => PS_put (rf_lvl x.1 (x.1 0 5 - 1)) (x.1 148 (x.1 0 5).toNat)
theorem PS_Tr {y : ft_X} : ∀ (k : Nat) (x : ft_X), PSx x → ft_Tr n c k x y → PSx y := by
  intro k
  induction k with
  | zero => intro x h e; have e : x = y := e; rw [← e]; exact h
  | succ k ih => intro x h e; obtain ⟨z, e1, e2⟩ := e; exact ih z (PS_T h e1) e2
/-- between rules: nothing is read yet, or no mate is due -/
def PSr (g : wk_g) : Prop := g 0 0 = 0 ∨ (g 0 5 ≤ 0 ∧ g 151 (g 0 5).toNat = 0)
theorem PS_ruTr {s' : wk_g × Int} : ∀ (k : Nat) (s : wk_g × Int), PSr s.1 → ru_Tr n c k s s' → PSr s'.1 := by
  intro k
  induction k with
  | zero => intro s h e; have e : s = s' := e; rw [← e]; exact h
  | succ k ih =>
    intro s h e
    obtain ⟨z, ⟨v, p, e', v2, p2, e2', y, k1, -, -, k4, ⟨k', k5, v5, p5, k6, k8, k9⟩, k7⟩, e2⟩ := e
    refine ih z ?_ e2
    rw [k7]
    have t := PS_Tr k' (ru_x s.1 v p e2') (fun q => absurd q (show (1 : Int) ≠ 0 from by decide)) k5
    exact Or.inr ⟨k9, t k8⟩
end PSS
def sw_D (g : wk_g) (u : Nat) : Prop := 0 ≤ g 124 u ∨ ∃ i : Nat, (i : Int) ≤ g 0 5 ∧ g 151 i ≠ 0 ∧ g 149 i = (u : Int) ∧ (1 ≤ i → g 148 i < g 149 i)
def sW (g : wk_g) (h : sm_H) : Prop := ∀ u : Nat, (u : Int) < g 0 0 → (mi_a h 74 u = 1 ↔ sw_D g u)
/-- in the end -/
def sWr (g : wk_g) (h : sm_H) : Prop := ∀ u : Nat, (u : Int) < g 0 0 → (mi_a h 74 u = 1 ↔ 0 ≤ g 124 u)
/-- no mate is due at the level k -/
def swN (g : wk_g) (k : Int) : Prop := g 151 k.toNat ≠ 0 → g 149 k.toNat < 0 ∨ g 0 0 ≤ g 149 k.toNat ∨ (1 ≤ k ∧ g 149 k.toNat ≤ g 148 k.toNat)
section SWL
variable {g g' : wk_g} {h h' : sm_H} {ow : Nat → Nat} {m : Int}
theorem sW_fr (hw : sW g h) (hS : ab_Sh sx_sk h) {wr : List (Nat × Nat)} (hF : ab_Fr wr h h') (hn : ab_in wr 9472 = false) : sW g h' := fun u hu => by
  rw [me_a (k := 74) hF hS rfl hn]
  exact hw u hu
theorem sW_cg (hw : sW g h) (e0 : g' 0 0 = g 0 0 ∧ g' 0 5 = g 0 5) (e : g' 124 = g 124 ∧ g' 148 = g 148 ∧ g' 149 = g 149 ∧ g' 151 = g 151) : sW g' h := by
  unfold sW sw_D
  rw [e0.1, e0.2, e.1, e.2.1, e.2.2.1, e.2.2.2]
  exact hw
theorem sW_r (hw : sW g h) (hr : PSr g) : sWr g h := fun u hu => by
  rw [hw u hu]
  rcases hr with q | ⟨q1, q2⟩
  · omega
  · constructor
    · rintro (a | ⟨i, i1, i2, i3, i4⟩)
      · exact a
      · exfalso
        have e : i = (g 0 5).toNat := by omega
        rw [e] at i2
        exact i2 q2
    · exact Or.inl
/-- an alternative is begun where no mate is due -/
theorem sW_beg {p : Int} (hw : sW g h) (n5 : 0 ≤ g 0 5) (hn : g 151 (g 0 5).toNat ≠ 0 → g 149 (g 0 5).toNat < 0 ∨ g 0 0 ≤ g 149 (g 0 5).toNat ∨ (1 ≤ g 0 5 ∧ g 149 (g 0 5).toNat ≤ g 148 (g 0 5).toNat)) : sW (rf_beg g p) h := fun u hu => by
  have hu : (u : Int) < g 0 0 := hu
  rw [hw u hu]
  have r149 : ∀ i, (rf_beg g p) 149 i = if i = (g 0 5).toNat then -1 else g 149 i := fun _ => rfl
  have r151 : ∀ i, (rf_beg g p) 151 i = if i = (g 0 5).toNat then 0 else g 151 i := fun _ => rfl
  constructor
  · rintro (a | ⟨i, i1, i2, i3, i4⟩)
    · exact Or.inl a
    · refine Or.inr ⟨i, i1, ?_⟩
      have ci : i ≠ (g 0 5).toNat := fun c => by
        rw [← c] at hn
        have := hn i2
        have k : 1 ≤ i → g 148 i < g 149 i := i4
        omega
      rw [r149, r151, if_neg ci, if_neg ci]
      exact ⟨i2, i3, i4⟩
  · rintro (a | ⟨i, i1, i2, i3, i4⟩)
    · exact Or.inl a
    · refine Or.inr ⟨i, i1, ?_⟩
      rw [r151] at i2
      by_cases ci : i = (g 0 5).toNat
      · rw [if_pos ci] at i2; exact absurd rfl i2
      · rw [if_neg ci] at i2
        rw [r149, if_neg ci] at i3 i4
        exact ⟨i2, i3, i4⟩
/-- a unit is hung up -/
theorem sW_put {u : Int} (hw : sW g h) (hP : PI ow g (g 0 5)) (u0 : 0 ≤ u) : sW (rf_put g u) h := fun v hv => by
  obtain ⟨⟨p1, p2, p3, p4, p5, p6⟩, q1, q2, q3, q4, q5, -⟩ := hP
  have hv : (v : Int) < g 0 0 := hv
  rw [hw v hv]
  obtain ⟨k, hk⟩ : ∃ k : Nat, k = (g 0 5).toNat := ⟨_, rfl⟩
  obtain ⟨l1, l2, l3, l4, l5, l6⟩ := q1 k (by omega)
  have r124 : ∀ i, (rf_put g u) 124 i = if g 151 k ≠ 0 ∧ i = (g 149 k).toNat then u else g 124 i := fun i => by rw [hk]; rfl
  have r149 : ∀ i, (rf_put g u) 149 i = if g 151 k = 0 ∧ i = k then u else g 149 i := fun i => by rw [hk]; rfl
  have r151 : ∀ i, (rf_put g u) 151 i = if i = k then 0 else g 151 i := fun i => by rw [hk]; rfl
  constructor
  · rintro (a | ⟨i, i1, i2, i3, i4⟩)
    · refine Or.inl ?_
      rw [r124]
      split
      · exact u0
      · exact a
    · by_cases ci : i = k
      · refine Or.inl ?_
        rw [ci] at i2 i3
        rw [r124, if_pos ⟨i2, by omega⟩]
        exact u0
      · refine Or.inr ⟨i, i1, ?_⟩
        rw [r151, r149, if_neg ci, if_neg (fun z => ci z.2)]
        exact ⟨i2, i3, i4⟩
  · rintro (a | ⟨i, i1, i2, i3, i4⟩)
    · rw [r124] at a
      by_cases c : g 151 k ≠ 0 ∧ v = (g 149 k).toNat
      · have s := l6 c.1
        refine Or.inr ⟨k, by omega, c.1, by omega, fun k1 => ?_⟩
        exact (q5 k k k1 (Nat.le_refl _) (by omega)).1 s.1
      · rw [if_neg c] at a
        exact Or.inl a
    · refine Or.inr ⟨i, i1, ?_⟩
      rw [r151] at i2
      by_cases ci : i = k
      · rw [if_pos ci] at i2; exact absurd rfl i2
      · rw [if_neg ci] at i2
        rw [r149, if_neg (fun z => ci z.2)] at i3 i4
        exact ⟨i2, i3, i4⟩
/-- a unit is made -/
theorem sW_unit {s w p : Int} (hw : sW g h) (n0 : 0 ≤ g 0 0) (h149 : ∀ i : Nat, (i : Int) ≤ g 0 5 → g 149 i < g 0 0) (hr : ∀ i, mi_a h' 74 i = if i = (g 0 0).toNat then 0 else mi_a h 74 i) : sW (rf_unit g s w p) h' := fun u hu => by
  have hu : (u : Int) < g 0 0 + 1 := hu
  have r124 : ∀ i, (rf_unit g s w p) 124 i = if i = (g 0 0).toNat then -1 else g 124 i := fun _ => rfl
  rw [hr]
  by_cases c : u = (g 0 0).toNat
  · rw [if_pos c]
    constructor
    · intro q; exact absurd q (by decide)
    · rintro (a | ⟨i, i1, i2, i3, i4⟩)
      · rw [r124, if_pos c] at a; exact absurd a (by decide)
      · exfalso
        have i1 : (i : Int) ≤ g 0 5 := i1
        have i3 : g 149 i = u := i3
        have := h149 i i1
        omega
  · rw [if_neg c, hw u (by omega)]
    unfold sw_D
    rw [r124, if_neg c]
    exact Iff.rfl
/-- a level is opened over the unit just made -/
theorem sW_open {u f : Int} (hw : sW g h) (n5 : 0 ≤ g 0 5) (hu1 : g 0 0 ≤ u + 1) : sW (rf_o2 (rf_new (rf_o1 g u)) u f) h := fun v hv => by
  have hv : (v : Int) < g 0 0 := hv
  rw [hw v hv]
  have r148 : ∀ i, (rf_o2 (rf_new (rf_o1 g u)) u f) 148 i = if i = (g 0 5 + 1).toNat then u else g 148 i := fun _ => rfl
  constructor
  · rintro (a | ⟨i, i1, i2, i3, i4⟩)
    · exact Or.inl a
    · refine Or.inr ⟨i, by show (i : Int) ≤ g 0 5 + 1; omega, i2, i3, fun k1 => ?_⟩
      rw [r148, if_neg (by omega)]
      exact i4 k1
  · rintro (a | ⟨i, i1, i2, i3, i4⟩)
    · exact Or.inl a
    · have i1 : (i : Int) ≤ g 0 5 + 1 := i1
      have i3 : g 149 i = v := i3
      by_cases c : i = (g 0 5 + 1).toNat
      · exfalso
        have := i4 (by omega)
        rw [r148, if_pos c] at this
        have this : u < g 149 i := this
        omega
      · refine Or.inr ⟨i, by omega, i2, i3, fun k1 => ?_⟩
        have := i4 k1
        rw [r148, if_neg c] at this
        exact this
/-- the last item is to have a mate -/
theorem sW_swap (hw : sW g h) (hP : PI ow g (g 0 5)) (s0 : 0 ≤ g 149 (g 0 5).toNat) (z0 : g 151 (g 0 5).toNat = 0) (hr : ∀ i, mi_a h' 74 i = if i = (g 149 (g 0 5).toNat).toNat then 1 else mi_a h 74 i) : sW (rf_swap g) h' := fun u hu => by
  obtain ⟨⟨p1, p2, p3, p4, p5, p6⟩, q1, q2, q3, q4, q5, -⟩ := hP
  have hu : (u : Int) < g 0 0 := hu
  have r151 : ∀ i, (rf_swap g) 151 i = if i = (g 0 5).toNat then 1 else g 151 i := fun _ => rfl
  rw [hr]
  by_cases c : u = (g 149 (g 0 5).toNat).toNat
  · rw [if_pos c]
    refine ⟨fun _ => Or.inr ⟨(g 0 5).toNat, by show ((g 0 5).toNat : Int) ≤ g 0 5; omega, ?_, by show g 149 (g 0 5).toNat = u; omega, fun k1 => ?_⟩, fun _ => rfl⟩
    · rw [r151, if_pos rfl]; decide
    · exact (q5 (g 0 5).toNat (g 0 5).toNat k1 (Nat.le_refl _) (by omega)).1 s0
  · rw [if_neg c, hw u hu]
    constructor
    · rintro (a | ⟨i, i1, i2, i3, i4⟩)
      · exact Or.inl a
      · refine Or.inr ⟨i, i1, ?_, i3, i4⟩
        rw [r151]
        split
        · decide
        · exact i2
    · rintro (a | ⟨i, i1, i2, i3, i4⟩)
      · exact Or.inl a
      · refine Or.inr ⟨i, i1, ?_, i3, i4⟩
        rw [r151] at i2
        by_cases ci : i = (g 0 5).toNat
        · exfalso
          have i3 : g 149 i = u := i3
          rw [ci] at i3
          omega
        · rw [if_neg ci] at i2
          exact i2
/-- a level is closed -/
theorem sW_lvl (hw : sW g h) (n5 : 0 < g 0 5) (z0 : g 151 (g 0 5).toNat = 0) : sW (rf_lvl g (g 0 5 - 1)) h := fun u hu => by
  have hu : (u : Int) < g 0 0 := hu
  rw [hw u hu]
  constructor
  · rintro (a | ⟨i, i1, i2, i3, i4⟩)
    · exact Or.inl a
    · refine Or.inr ⟨i, ?_, i2, i3, i4⟩
      show (i : Int) ≤ g 0 5 - 1
      by_cases ci : i = (g 0 5).toNat
      · rw [ci] at i2; exact absurd z0 i2
      · omega
  · rintro (a | ⟨i, i1, i2, i3, i4⟩)
    · exact Or.inl a
    · have i1 : (i : Int) ≤ g 0 5 - 1 := i1
      exact Or.inr ⟨i, by omega, i2, i3, i4⟩
/-- a rule begins: nothing is due -/
theorem sW_rule {v p : Int} (hw : sW g h) (hr : PSr g) : sW (rf_lvl (rf_rule g v p) 0) h ∧ (g 0 0 = 0 ∨ g 151 0 = 0 ∨ g 0 5 < 0) := by
  have hwr := sW_r hw hr
  have e0 : ∀ i : Nat, (i : Int) ≤ 0 → i = 0 := fun i hi => by omega
  refine ⟨fun u hu => ?_, ?_⟩
  · have hu : (u : Int) < g 0 0 := hu
    rw [hwr u hu]
    constructor
    · exact Or.inl
    · rintro (a | ⟨i, i1, i2, i3, i4⟩)
      · exact a
      · have i1 : (i : Int) ≤ 0 := i1
        have i2 : g 151 i ≠ 0 := i2
        have i3 : g 149 i = u := i3
        rcases hr with q | ⟨q1, q2⟩
        · omega
        · exfalso
          have e : i = (g 0 5).toNat := by omega
          rw [e] at i2
          exact i2 q2
  · rcases hr with q | ⟨q1, q2⟩
    · exact Or.inl q
    · by_cases c : g 0 5 < 0
      · exact Or.inr (Or.inr c)
      · have : (g 0 5).toNat = 0 := by omega
        rw [this] at q2
        exact Or.inr (Or.inl q2)
end SWL
