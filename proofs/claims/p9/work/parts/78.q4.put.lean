/-! reading: a unit is put -/
section RDP
variable {g g' : wk_g} {Y : wk_Y} {z : rd_Z} {m u : Int}
/-- a unit that stands nowhere yet -/
def rd_loose (g : wk_g) (Y : wk_Y) (z : rd_Z) (u : Int) : Prop := 0 ≤ u ∧ u < wk_u Y ∧ wk_c Y u = g 146 (rd_k z).toNat ∧ wk_e Y u ≤ wk_u Y ∧ g 124 u.toNat < 0 ∧ g 125 u.toNat < 0 ∧ (∀ w, 0 ≤ w → w < wk_u Y → g 124 w.toNat ≠ u) ∧ (0 ≤ g 149 (rd_k z).toNat → wk_e Y (g 149 (rd_k z).toNat) ≤ u ∧ (0 ≤ g 124 (g 149 (rd_k z).toNat).toNat → wk_e Y (g 124 (g 149 (rd_k z).toNat).toNat) ≤ u))
theorem rd_put (hI : rd_I g Y z m) (hk : 0 ≤ rd_k z) (hu : rd_loose g Y z u) (hc : 0 < g 130 (g 146 (rd_k z).toNat).toNat)
    (s : ∀ j, j ∈ [119, 120, 128, 129, 130, 146, 147, 148] → ∀ i, g' j i = g j i)
    (h124 : ∀ i : Nat, g' 124 i = if g 151 (rd_k z).toNat ≠ 0 ∧ i = (g 149 (rd_k z).toNat).toNat then u else g 124 i)
    (h125 : ∀ i : Nat, g' 125 i = if g 151 (rd_k z).toNat = 0 ∧ 0 ≤ g 149 (rd_k z).toNat ∧ i = (g 149 (rd_k z).toNat).toNat then u else g 125 i)
    (h126 : ∀ i : Nat, g' 126 i = if g 151 (rd_k z).toNat = 0 ∧ g 149 (rd_k z).toNat < 0 ∧ i = (g 147 (rd_k z).toNat).toNat then u else g 126 i)
    (h149 : ∀ i : Nat, g' 149 i = if g 151 (rd_k z).toNat = 0 ∧ i = (rd_k z).toNat then u else g 149 i)
    (h150 : ∀ i : Nat, g' 150 i = if i = (rd_k z).toNat then u else g 150 i)
    (h151 : ∀ i : Nat, g' 151 i = if i = (rd_k z).toNat then 0 else g 151 i) : rd_I g' Y z m := by
  obtain ⟨nn, i1, i2, i3, i4, i5⟩ := hI
  obtain ⟨u0, u1, u2, u3, u4, u5, u6, u7⟩ := hu
  have e119 := s 119 (by decide)
  have e120 := s 120 (by decide)
  have e128 := s 128 (by decide)
  have e129 := s 129 (by decide)
  have e130 := s 130 (by decide)
  have e146 := s 146 (by decide)
  have e147 := s 147 (by decide)
  have e148 := s 148 (by decide)
  obtain ⟨⟨f0, f1, f2, f3⟩, l2, l3, l4, l5, l6⟩ := i4 (rd_k z) hk (Int.le_refl _)
  obtain ⟨a1, a2, a3⟩ := l2 hc
  have ff := i2 _ f0 f1
  have how : rd_ow z (g 147 (rd_k z).toNat) = g 146 (rd_k z).toNat := by
    obtain ⟨-, -, b3, -⟩ := ff.2.2.2.2.2.2.2 ((g 130 (g 146 (rd_k z).toNat).toNat).toNat - 1) (by omega)
    rw [← a3] at b3
    exact b3
  have top : rd_top g Y z (rd_k z) = wk_u Y := if_neg (Int.lt_irrefl _)
  -- the last item
  have lu : 0 ≤ g 149 (rd_k z).toNat → g 149 (rd_k z).toNat < u := fun c => by
    obtain ⟨x1, -⟩ := l4 c
    have := (i1 _ c x1).1.1
    have := (u7 c).1
    omega
  have alts : ∀ n a, wk_alt g' n a = wk_alt g n a := by
    intro n
    induction n with
    | zero => intro a; rfl
    | succ n ih =>
      intro a
      show wk_alt g' n (g' 128 a.toNat) = wk_alt g n (g 128 a.toNat)
      rw [e128, ih]
  have dis : ∀ i, 0 ≤ i → i ≤ rd_k z → i ≠ rd_k z → g 146 i.toNat ≠ g 146 (rd_k z).toNat := fun i h0 h1 hne e => by
    obtain ⟨⟨-, -, t2, -⟩, -⟩ := i4 i h0 h1
    rw [e, f2] at t2
    omega
  -- what is not of this form is not touched
  have k124 : ∀ w, 0 ≤ w → (0 ≤ g 149 (rd_k z).toNat → w ≠ g 149 (rd_k z).toNat) → g' 124 w.toNat = g 124 w.toNat := fun w h0 hw => by
    rw [h124]
    by_cases c : g 151 (rd_k z).toNat ≠ 0 ∧ w.toNat = (g 149 (rd_k z).toNat).toNat
    · exfalso
      have p := (l5 c.1).1
      exact hw p (by have := c.2; omega)
    · rw [if_neg c]
  have k125 : ∀ w, 0 ≤ w → (0 ≤ g 149 (rd_k z).toNat → w ≠ g 149 (rd_k z).toNat) → g' 125 w.toNat = g 125 w.toNat := fun w h0 hw => by
    rw [h125]
    by_cases c : g 151 (rd_k z).toNat = 0 ∧ 0 ≤ g 149 (rd_k z).toNat ∧ w.toNat = (g 149 (rd_k z).toNat).toNat
    · exfalso
      exact hw c.2.1 (by have := c.2; omega)
    · rw [if_neg c]
  have v124 : ∀ w : Int, g' 124 w.toNat = u ∨ g' 124 w.toNat = g 124 w.toNat := fun w => by
    rw [h124]
    split
    · exact Or.inl rfl
    · exact Or.inr rfl
  refine ⟨nn, fun w h0 h1 => ?_, fun f h0 h1 => ?_, fun a h0 h1 => ?_, fun i h0 h1 => ?_, fun i h0 h1 => ?_⟩
  · obtain ⟨p1, p2, p3, p4, p5, p6⟩ := i1 w h0 h1
    unfold rd_unit
    simp only [e119, e120]
    by_cases hw : 0 ≤ g 149 (rd_k z).toNat ∧ w = g 149 (rd_k z).toNat
    · obtain ⟨hl0, rfl⟩ := hw
      obtain ⟨x1, x2, x3, x4, x5, x6⟩ := l4 hl0
      have ltu := lu hl0
      have ku4 : g' 124 u.toNat = g 124 u.toNat := k124 u u0 (fun _ => by omega)
      refine ⟨p1, fun c => ?_, fun c => ?_, p4, p5, p6⟩
      · by_cases cs : g 151 (rd_k z).toNat ≠ 0
        · have e : g' 124 (g 149 (rd_k z).toNat).toNat = u := by rw [h124, if_pos ⟨cs, rfl⟩]
          rw [e, ku4]
          exact ⟨u1, u2.trans x2.symm, (u7 hl0).1, u4⟩
        · have e : g' 124 (g 149 (rd_k z).toNat).toNat = g 124 (g 149 (rd_k z).toNat).toNat := by rw [h124, if_neg (fun z => cs z.1)]
          rw [e] at c ⊢
          obtain ⟨y1, y2, y3, y4⟩ := p2 c
          refine ⟨y1, y2, y3, ?_⟩
          rw [h124, if_neg (fun z => cs z.1)]
          exact y4
      · by_cases cs : g 151 (rd_k z).toNat = 0
        · have e : g' 125 (g 149 (rd_k z).toNat).toNat = u := by rw [h125, if_pos ⟨cs, hl0, rfl⟩]
          have e4 : g' 124 (g 149 (rd_k z).toNat).toNat = g 124 (g 149 (rd_k z).toNat).toNat := by rw [h124, if_neg (fun z => z.1 cs)]
          rw [e, e4]
          exact ⟨u1, u2.trans x2.symm, (u7 hl0).1, (u7 hl0).2⟩
        · exfalso
          rw [h125, if_neg (fun z => cs z.1)] at c
          omega
    · have hw' : 0 ≤ g 149 (rd_k z).toNat → w ≠ g 149 (rd_k z).toNat := fun a b => hw ⟨a, b⟩
      rw [k124 w h0 hw', k125 w h0 hw']
      refine ⟨p1, fun c => ?_, p3, p4, p5, p6⟩
      obtain ⟨y1, y2, y3, y4⟩ := p2 c
      refine ⟨y1, y2, y3, ?_⟩
      rw [k124 _ c (fun hl0 => (l4 hl0).2.2.2.2.2 w h0 h1)]
      exact y4
  · have hf := i2 f h0 h1
    unfold rd_form at hf ⊢
    simp only [e129, e130, e146, alts]
    exact hf
  · unfold rd_alt
    rw [h126]
    by_cases c : g 151 (rd_k z).toNat = 0 ∧ g 149 (rd_k z).toNat < 0 ∧ a.toNat = (g 147 (rd_k z).toNat).toNat
    · rw [if_pos c]
      have ea : a = g 147 (rd_k z).toNat := by have := c.2.2; omega
      rw [ea, how]
      exact Or.inr ⟨u1, u2⟩
    · rw [if_neg c]
      exact i3 a h0 h1
  · obtain ⟨⟨t0, t1, t2, t3⟩, r2, r3, r4, r5, r6⟩ := i4 i h0 h1
    have etop : rd_top g' Y z i = rd_top g Y z i := by
      unfold rd_top
      rw [e148]
    unfold rd_lev
    simp only [e129, e130, e146, e147, e148, etop, alts]
    by_cases hik : i = rd_k z
    · subst hik
      refine ⟨⟨t0, t1, t2, t3⟩, r2, r3, fun c => ?_, fun c => ?_, ?_⟩
      · by_cases cs : g 151 (rd_k z).toNat = 0
        · have e : g' 149 (rd_k z).toNat = u := by rw [h149, if_pos ⟨cs, rfl⟩]
          have ku4 : g' 124 u.toNat = g 124 u.toNat := by rw [h124, if_neg (fun z => z.1 cs)]
          rw [e, top, k125 u u0 (fun p => by have := lu p; omega), ku4]
          refine ⟨u1, u2, u3, u5, fun z => by omega, fun w x0 x1 => ?_⟩
          rw [h124, if_neg (fun z => z.1 cs)]
          exact u6 w x0 x1
        · have e : g' 149 (rd_k z).toNat = g 149 (rd_k z).toNat := by rw [h149, if_neg (fun z => cs z.1)]
          rw [e] at c ⊢
          obtain ⟨x1, x2, x3, x4, x5, x6⟩ := l4 c
          have em : g' 124 (g 149 (rd_k z).toNat).toNat = u := by rw [h124, if_pos ⟨cs, rfl⟩]
          have en : g' 125 (g 149 (rd_k z).toNat).toNat = g 125 (g 149 (rd_k z).toNat).toNat := by rw [h125, if_neg (fun z => cs z.1)]
          rw [em, en, top]
          rw [top] at x3
          refine ⟨x1, x2, x3, x4, fun _ => u3, fun w y0 y1 => ?_⟩
          rcases v124 w with e2 | e2
          · rw [e2]
            have := lu c
            omega
          · rw [e2]
            exact x6 w y0 y1
      · rw [h151, if_pos rfl] at c
        exact absurd rfl c
      · rw [h150, if_pos rfl]
        exact u1
    · have ei : ¬ i.toNat = (rd_k z).toNat := by omega
      have hne := dis i h0 h1 hik
      have e149 : g' 149 i.toNat = g 149 i.toNat := by rw [h149, if_neg (fun z => ei z.2)]
      rw [e149, h150, if_neg ei, h151, if_neg ei]
      have off : 0 ≤ g 149 i.toNat → 0 ≤ g 149 (rd_k z).toNat → g 149 i.toNat ≠ g 149 (rd_k z).toNat := fun a b e => by
        have x := (r4 a).2.1
        rw [e, (l4 b).2.1] at x
        exact hne x.symm
      refine ⟨⟨t0, t1, t2, t3⟩, r2, r3, fun c => ?_, fun c => ?_, r6⟩
      · obtain ⟨x1, x2, x3, x4, x5, x6⟩ := r4 c
        rw [k124 _ c (off c), k125 _ c (off c)]
        refine ⟨x1, x2, x3, x4, x5, fun w y0 y1 => ?_⟩
        rcases v124 w with e2 | e2
        · rw [e2]
          intro e
          rw [← e, u2] at x2
          exact hne x2.symm
        · rw [e2]
          exact x6 w y0 y1
      · obtain ⟨x1, x2⟩ := r5 c
        rw [k124 _ x1 (off x1)]
        exact ⟨x1, x2⟩
  · obtain ⟨x1, x2, x3, x4, x5, x6, x7, x8, x9, x10⟩ := i5 i h0 h1
    have hne := dis (i - 1) (by omega) (by omega) (by omega)
    have off : 0 ≤ g 149 (rd_k z).toNat → g 148 i.toNat ≠ g 149 (rd_k z).toNat := fun b e => by
      rw [e, (l4 b).2.1] at x3
      exact hne x3.symm
    unfold rd_grp
    simp only [e119, e120, e146, e148]
    rw [k124 _ x1 off, k125 _ x1 off]
    refine ⟨x1, x2, x3, x4, x5, x6, x7, x8, x9, fun w y0 y1 => ?_⟩
    rcases v124 w with e2 | e2
    · rw [e2]
      intro e
      rw [← e, u2] at x3
      exact hne x3.symm
    · rw [e2]
      exact x10 w y0 y1
end RDP
