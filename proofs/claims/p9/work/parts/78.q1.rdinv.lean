/-! READING: what holds while a description is read. g: the arrays; Y: the walk's ghosts (wk_Y); ow, ix: of an alternative its form and its place there; A: alternatives; k: the level -/
abbrev rd_Z : Type := (Int → Int) × (Int → Int) × Int × Int
def rd_ow (z : rd_Z) (a : Int) : Int := z.1 a
def rd_ix (z : rd_Z) (a : Int) : Int := z.2.1 a
def rd_a (z : rd_Z) : Int := z.2.2.1
def rd_k (z : rd_Z) : Int := z.2.2.2
/-- a unit: as wk_Lunit, but a use's rule may still be wanting -/
def rd_unit (g : wk_g) (Y : wk_Y) (u : Int) : Prop :=
  (u < wk_e Y u ∧ wk_e Y u ≤ wk_x Y (wk_c Y u) ∧ wk_b Y (wk_c Y u) < u ∧ 0 ≤ wk_c Y u ∧ wk_c Y u < wk_f Y) ∧
  (0 ≤ g 124 u.toNat → g 124 u.toNat < wk_u Y ∧ wk_c Y (g 124 u.toNat) = wk_c Y u ∧ wk_e Y u ≤ g 124 u.toNat ∧ g 124 (g 124 u.toNat).toNat < 0) ∧
  (0 ≤ g 125 u.toNat → g 125 u.toNat < wk_u Y ∧ wk_c Y (g 125 u.toNat) = wk_c Y u ∧ wk_e Y u ≤ g 125 u.toNat ∧ (0 ≤ g 124 u.toNat → wk_e Y (g 124 u.toNat) ≤ g 125 u.toNat)) ∧
  (g 119 u.toNat = 9 → 0 ≤ g 120 u.toNat ∧ g 120 u.toNat < 26) ∧
  (g 119 u.toNat = 10 → 0 ≤ g 120 u.toNat ∧ g 120 u.toNat < wk_f Y ∧ wk_x Y (g 120 u.toNat) - wk_b Y (g 120 u.toNat) ≤ wk_e Y u - u ∧ wk_d Y (g 120 u.toNat) = wk_d Y (wk_c Y u) + 1) ∧
  (g 119 u.toNat = 8 → 0 ≤ g 120 u.toNat ∧ g 120 u.toNat < 20)
/-- a form and its alternatives; a form just made has none yet (m = 0) -/
def rd_form (g : wk_g) (Y : wk_Y) (z : rd_Z) (m f : Int) : Prop :=
  0 ≤ wk_d Y f ∧ wk_d Y f ≤ 4 ∧ m ≤ g 130 f.toNat ∧ 0 ≤ g 130 f.toNat ∧ wk_alt g (g 130 f.toNat).toNat (g 129 f.toNat) < 0 ∧ wk_b Y f < wk_x Y f ∧ wk_x Y f ≤ 60 ∧
  ∀ j : Nat, (j : Int) < g 130 f.toNat → 0 ≤ wk_alt g j (g 129 f.toNat) ∧ wk_alt g j (g 129 f.toNat) < rd_a z ∧ rd_ow z (wk_alt g j (g 129 f.toNat)) = f ∧ rd_ix z (wk_alt g j (g 129 f.toNat)) = j
def rd_alt (g : wk_g) (Y : wk_Y) (z : rd_Z) (a : Int) : Prop := g 126 a.toNat < 0 ∨ (g 126 a.toNat < wk_u Y ∧ wk_c Y (g 126 a.toNat) = rd_ow z a)
/-- where a level's units end: at the unit of the next level, or at all units -/
def rd_top (g : wk_g) (Y : wk_Y) (z : rd_Z) (i : Int) : Int := if i < rd_k z then g 148 (i + 1).toNat else wk_u Y
/-- an open level: its form, its alternative, its last item -/
def rd_lev (g : wk_g) (Y : wk_Y) (z : rd_Z) (i : Int) : Prop :=
  (0 ≤ g 146 i.toNat ∧ g 146 i.toNat < wk_f Y ∧ wk_d Y (g 146 i.toNat) = i ∧ wk_x Y (g 146 i.toNat) = 60) ∧
  (0 < g 130 (g 146 i.toNat).toNat → 0 ≤ g 147 i.toNat ∧ g 147 i.toNat < rd_a z ∧ g 147 i.toNat = wk_alt g ((g 130 (g 146 i.toNat).toNat).toNat - 1) (g 129 (g 146 i.toNat).toNat)) ∧
  (∀ u, 0 ≤ u → u < wk_u Y → wk_c Y u = g 146 i.toNat → wk_e Y u ≤ rd_top g Y z i ∨ (i < rd_k z ∧ u = g 148 (i + 1).toNat)) ∧
  (0 ≤ g 149 i.toNat → g 149 i.toNat < wk_u Y ∧ wk_c Y (g 149 i.toNat) = g 146 i.toNat ∧ wk_e Y (g 149 i.toNat) ≤ rd_top g Y z i ∧ g 125 (g 149 i.toNat).toNat < 0 ∧ (0 ≤ g 124 (g 149 i.toNat).toNat → wk_e Y (g 124 (g 149 i.toNat).toNat) ≤ rd_top g Y z i) ∧ ∀ w, 0 ≤ w → w < wk_u Y → g 124 w.toNat ≠ g 149 i.toNat) ∧
  (g 151 i.toNat ≠ 0 → 0 ≤ g 149 i.toNat ∧ g 124 (g 149 i.toNat).toNat < 0) ∧
  g 150 i.toNat < wk_u Y
/-- the unit of an open group -/
def rd_grp (g : wk_g) (Y : wk_Y) (i : Int) : Prop :=
  0 ≤ g 148 i.toNat ∧ g 148 i.toNat < wk_u Y ∧ wk_c Y (g 148 i.toNat) = g 146 (i - 1).toNat ∧ g 119 (g 148 i.toNat).toNat = 10 ∧ g 120 (g 148 i.toNat).toNat = g 146 i.toNat ∧ wk_e Y (g 148 i.toNat) = 60 ∧ wk_b Y (g 146 i.toNat) = g 148 i.toNat ∧ g 124 (g 148 i.toNat).toNat < 0 ∧ g 125 (g 148 i.toNat).toNat < 0 ∧ ∀ w, 0 ≤ w → w < wk_u Y → g 124 w.toNat ≠ g 148 i.toNat
/-- all of it; m as in rd_form, for the form of the top level -/
def rd_I (g : wk_g) (Y : wk_Y) (z : rd_Z) (m : Int) : Prop :=
  (0 ≤ wk_u Y ∧ wk_u Y ≤ 60 ∧ 0 ≤ wk_f Y ∧ wk_f Y ≤ 80 ∧ 0 ≤ rd_a z ∧ rd_a z ≤ 80 ∧ rd_k z ≤ 4) ∧
  (∀ u, 0 ≤ u → u < wk_u Y → rd_unit g Y u) ∧
  (∀ f, 0 ≤ f → f < wk_f Y → rd_form g Y z (if 0 ≤ rd_k z ∧ f = g 146 (rd_k z).toNat then m else 1) f) ∧
  (∀ a, 0 ≤ a → a < rd_a z → rd_alt g Y z a) ∧
  (∀ i, 0 ≤ i → i ≤ rd_k z → rd_lev g Y z i) ∧
  (∀ i, 1 ≤ i → i ≤ rd_k z → rd_grp g Y i)
section RDI
variable {g : wk_g} {Y : wk_Y} {z : rd_Z}
/-- in the end the walk's laws hold -/
theorem rd_L (hI : rd_I g Y z 1) (hr : ∀ u, 0 ≤ u → u < wk_u Y → g 119 u.toNat = 9 → 0 ≤ g 115 (g 120 u.toNat).toNat ∧ g 115 (g 120 u.toNat).toNat < 10 ∧ wk_Lrule Y (wk_rf g u)) : wk_L g Y := by
  obtain ⟨⟨n1, n2, n3, n4, n5, n6, n7⟩, i1, i2, i3, -⟩ := hI
  refine ⟨n2, n4, fun u h0 h1 => ?_, fun f h0 h1 => ?_⟩
  · obtain ⟨a1, a2, a3, a4, a5, a6⟩ := i1 u h0 h1
    refine ⟨a1, a2, a3, fun h9 => ?_, a5, a6⟩
    obtain ⟨b1, b2⟩ := a4 h9
    obtain ⟨c1, c2, c3⟩ := hr u h0 h1 h9
    exact ⟨b1, b2, c1, c2, c3⟩
  · obtain ⟨a1, a2, a3, -, a4, a5, -, a6⟩ := i2 f h0 h1
    have a3 : 1 ≤ g 130 f.toNat := by split at a3 <;> exact a3
    refine ⟨a1, a2, a3, a4, a5, fun j hj => ?_⟩
    obtain ⟨b1, b2, b3, -⟩ := a6 j hj
    refine ⟨b1, by omega, ?_⟩
    rcases i3 _ b1 b2 with x | x
    · exact Or.inl x
    · exact Or.inr ⟨x.1, x.2.trans b3⟩
end RDI
