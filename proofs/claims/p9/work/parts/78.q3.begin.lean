/-! reading: an alternative begins -/
/-- before an alternative begins: nothing is asked of the top level's last item -/
def rd_lev0 (g : wk_g) (Y : wk_Y) (z : rd_Z) (i : Int) : Prop :=
  (0 ≤ g 146 i.toNat ∧ g 146 i.toNat < wk_f Y ∧ wk_d Y (g 146 i.toNat) = i ∧ wk_x Y (g 146 i.toNat) = 60) ∧
  (0 < g 130 (g 146 i.toNat).toNat → 0 ≤ g 147 i.toNat ∧ g 147 i.toNat < rd_a z ∧ g 147 i.toNat = wk_alt g ((g 130 (g 146 i.toNat).toNat).toNat - 1) (g 129 (g 146 i.toNat).toNat)) ∧
  (∀ u, 0 ≤ u → u < wk_u Y → wk_c Y u = g 146 i.toNat → wk_e Y u ≤ rd_top g Y z i ∨ (i < rd_k z ∧ u = g 148 (i + 1).toNat))
def rd_J (g : wk_g) (Y : wk_Y) (z : rd_Z) (m : Int) : Prop :=
  (0 ≤ wk_u Y ∧ wk_u Y ≤ 60 ∧ 0 ≤ wk_f Y ∧ wk_f Y ≤ 80 ∧ 0 ≤ rd_a z ∧ rd_a z ≤ 80 ∧ rd_k z ≤ 4) ∧
  (∀ u, 0 ≤ u → u < wk_u Y → rd_unit g Y u) ∧
  (∀ f, 0 ≤ f → f < wk_f Y → rd_form g Y z (if 0 ≤ rd_k z ∧ f = g 146 (rd_k z).toNat then m else 1) f) ∧
  (∀ a, 0 ≤ a → a < rd_a z → rd_alt g Y z a) ∧
  (∀ i, 0 ≤ i → i ≤ rd_k z → rd_lev0 g Y z i) ∧
  (∀ i, 0 ≤ i → i < rd_k z → rd_lev g Y z i) ∧
  (∀ i, 1 ≤ i → i ≤ rd_k z → rd_grp g Y i)
theorem rd_I_J {g : wk_g} {Y : wk_Y} {z : rd_Z} {m : Int} (h : rd_I g Y z m) : rd_J g Y z m := by
  obtain ⟨a, b, c, e, f, k⟩ := h
  exact ⟨a, b, c, e, fun i h0 h1 => ⟨(f i h0 h1).1, (f i h0 h1).2.1, (f i h0 h1).2.2.1⟩, fun i h0 h1 => f i h0 (by omega), k⟩
section RDB
variable {g g' : wk_g} {Y : wk_Y} {z : rd_Z} {m : Int}
def rd_zb (g : wk_g) (z : rd_Z) : rd_Z := (fun a => if a = rd_a z then g 146 (rd_k z).toNat else rd_ow z a, fun a => if a = rd_a z then g 130 (g 146 (rd_k z).toNat).toNat else rd_ix z a, rd_a z + 1, rd_k z)
theorem rd_begin (hI : rd_J g Y z m) (hk : 0 ≤ rd_k z) (hA : rd_a z < 80)
    (s : ∀ j, j ∈ [115, 119, 120, 124, 125, 146, 148] → ∀ i, g' j i = g j i)
    (h126 : ∀ i : Nat, g' 126 i = if i = (rd_a z).toNat then -1 else g 126 i)
    (h128 : ∀ i : Nat, g' 128 i = if g 130 (g 146 (rd_k z).toNat).toNat ≠ 0 ∧ i = (g 147 (rd_k z).toNat).toNat then rd_a z else if i = (rd_a z).toNat then -1 else g 128 i)
    (h129 : ∀ i : Nat, g' 129 i = if g 130 (g 146 (rd_k z).toNat).toNat = 0 ∧ i = (g 146 (rd_k z).toNat).toNat then rd_a z else g 129 i)
    (h130 : ∀ i : Nat, g' 130 i = if i = (g 146 (rd_k z).toNat).toNat then g 130 i + 1 else g 130 i)
    (h147 : ∀ i : Nat, g' 147 i = if i = (rd_k z).toNat then rd_a z else g 147 i)
    (h149 : ∀ i : Nat, g' 149 i = if i = (rd_k z).toNat then -1 else g 149 i)
    (h150 : ∀ i : Nat, g' 150 i = if i = (rd_k z).toNat then -1 else g 150 i)
    (h151 : ∀ i : Nat, g' 151 i = if i = (rd_k z).toNat then 0 else g 151 i) : rd_I g' Y (rd_zb g z) 1 := by
  obtain ⟨⟨n1, n2, n3, n4, n5, n6, n7⟩, i1, i2, i3, i4, i4b, i5⟩ := hI
  have e119 := s 119 (by decide)
  have e120 := s 120 (by decide)
  have e124 := s 124 (by decide)
  have e125 := s 125 (by decide)
  have e146 := s 146 (by decide)
  have e148 := s 148 (by decide)
  have lk := i4 (rd_k z) hk (Int.le_refl _)
  obtain ⟨⟨f0, f1, f2, f3⟩, l2, l3⟩ := id lk
  have ff := i2 _ f0 f1
  rw [if_pos ⟨hk, rfl⟩] at ff
  have hoa : g 130 (g 146 (rd_k z).toNat).toNat ≠ 0 → 0 ≤ g 147 (rd_k z).toNat ∧ rd_ow z (g 147 (rd_k z).toNat) = g 146 (rd_k z).toNat := fun c => by
    have hpos : 0 < g 130 (g 146 (rd_k z).toNat).toNat := by have := ff.2.2.2.1; omega
    obtain ⟨a1, a2, a3⟩ := l2 hpos
    obtain ⟨b1, b2, b3, b4⟩ := ff.2.2.2.2.2.2.2 ((g 130 (g 146 (rd_k z).toNat).toNat).toNat - 1) (by omega)
    rw [← a3] at b3
    exact ⟨a1, b3⟩
  have oth : ∀ f, 0 ≤ f → f < wk_f Y → f ≠ g 146 (rd_k z).toNat → g' 130 f.toNat = g 130 f.toNat ∧ ∀ j : Nat, (j : Int) ≤ g 130 f.toNat → wk_alt g' j (g' 129 f.toNat) = wk_alt g j (g 129 f.toNat) := fun f h0 h1 hne => by
    refine ⟨by rw [h130, if_neg (by omega)], rd_ch_o (i2 f h0 h1) rfl h128 ?_ hoa hne⟩
    rw [h129, if_neg (fun c => by have := c.2; omega)]
  have zk : rd_k (rd_zb g z) = rd_k z := rfl
  have za : rd_a (rd_zb g z) = rd_a z + 1 := rfl
  have zo : ∀ a, a < rd_a z → rd_ow (rd_zb g z) a = rd_ow z a := fun a ha => if_neg (show ¬ a = rd_a z by omega)
  have zi : ∀ a, a < rd_a z → rd_ix (rd_zb g z) a = rd_ix z a := fun a ha => if_neg (show ¬ a = rd_a z by omega)
  have zoA : rd_ow (rd_zb g z) (rd_a z) = g 146 (rd_k z).toNat := if_pos rfl
  have ziA : rd_ix (rd_zb g z) (rd_a z) = g 130 (g 146 (rd_k z).toNat).toNat := if_pos rfl
  refine ⟨⟨n1, n2, n3, n4, by rw [za]; omega, by rw [za]; omega, n7⟩, fun u h0 h1 => ?_, fun f h0 h1 => ?_, fun a h0 h1 => ?_, fun i h0 h1 => ?_, fun i h0 h1 => ?_⟩
  · have := i1 u h0 h1
    unfold rd_unit at this ⊢
    simp only [e119, e120, e124, e125]
    exact this
  · rw [show (if 0 ≤ rd_k (rd_zb g z) ∧ f = g' 146 (rd_k (rd_zb g z)).toNat then (1 : Int) else 1) = 1 from by split <;> rfl]
    by_cases hne : f = g 146 (rd_k z).toNat
    · subst hne
      obtain ⟨p1, p2, p3, p4, p5, p6, p7, p8⟩ := ff
      have ec : g' 130 (g 146 (rd_k z).toNat).toNat = g 130 (g 146 (rd_k z).toNat).toNat + 1 := by rw [h130, if_pos rfl]
      by_cases c0 : g 130 (g 146 (rd_k z).toNat).toNat = 0
      · obtain ⟨q1, q2⟩ := rd_ch_0 (oa := g 147 (rd_k z).toNat) n5 c0 h128 (by rw [h129, if_pos ⟨c0, rfl⟩])
        have et : (g' 130 (g 146 (rd_k z).toNat).toNat).toNat = 1 := by omega
        refine ⟨p1, p2, by omega, by omega, by rw [et, q2]; decide, p6, p7, fun j hj => ?_⟩
        have ej : j = 0 := by omega
        subst ej
        rw [q1, za, zoA, ziA, c0]
        exact ⟨n5, by omega, rfl, rfl⟩
      · obtain ⟨a1, a2, a3⟩ := l2 (by omega)
        obtain ⟨q1, q2, q3⟩ := rd_ch_1 (i2 _ h0 h1) rfl (by omega) h128 (by rw [h129, if_neg (fun c => c0 c.1)]) a3
        have et : (g' 130 (g 146 (rd_k z).toNat).toNat).toNat = (g 130 (g 146 (rd_k z).toNat).toNat).toNat + 1 := by omega
        refine ⟨p1, p2, by omega, by omega, by rw [et, q3]; decide, p6, p7, fun j hj => ?_⟩
        by_cases ej : (j : Int) < g 130 (g 146 (rd_k z).toNat).toNat
        · obtain ⟨b1, b2, b3, b4⟩ := p8 j ej
          rw [q1 j ej, za, zo _ b2, zi _ b2]
          exact ⟨b1, by omega, b3, b4⟩
        · have ej2 : j = (g 130 (g 146 (rd_k z).toNat).toNat).toNat := by omega
          rw [ej2, q2, za, zoA, ziA]
          exact ⟨n5, by omega, rfl, by omega⟩
    · obtain ⟨o1, o2⟩ := oth f h0 h1 hne
      have hf := i2 f h0 h1
      rw [if_neg (fun c => hne c.2)] at hf
      obtain ⟨p1, p2, p3, p4, p5, p6, p7, p8⟩ := hf
      refine ⟨p1, p2, by omega, by omega, by rw [o1, o2 _ (by omega)]; exact p5, p6, p7, fun j hj => ?_⟩
      rw [o1] at hj
      obtain ⟨b1, b2, b3, b4⟩ := p8 j hj
      rw [o2 j (by omega), za, zo _ b2, zi _ b2]
      exact ⟨b1, by omega, b3, b4⟩
  · unfold rd_alt
    rw [za] at h1
    by_cases ha : a = rd_a z
    · rw [h126, if_pos (by rw [ha])]
      exact Or.inl (by decide)
    · rw [h126, if_neg (by omega), zo a (by omega)]
      exact i3 a h0 (by omega)
  · rw [zk] at h1
    have hl := i4 i h0 h1
    obtain ⟨⟨t0, t1, t2, t3⟩, r2, r3⟩ := hl
    have etop : rd_top g' Y (rd_zb g z) i = rd_top g Y z i := by
      unfold rd_top
      rw [zk, e148]
    unfold rd_lev
    simp only [e124, e125, e146, e148, etop, zk, za]
    by_cases hik : i = rd_k z
    · subst hik
      have eA : g' 147 (rd_k z).toNat = rd_a z := by rw [h147, if_pos rfl]
      have ec : g' 130 (g 146 (rd_k z).toNat).toNat = g 130 (g 146 (rd_k z).toNat).toNat + 1 := by rw [h130, if_pos rfl]
      refine ⟨⟨t0, t1, t2, t3⟩, fun _ => ⟨by omega, by omega, ?_⟩, r3, fun c => ?_, fun c => ?_, ?_⟩
      · rw [eA, ec]
        by_cases c0 : g 130 (g 146 (rd_k z).toNat).toNat = 0
        · obtain ⟨q1, -⟩ := rd_ch_0 (oa := g 147 (rd_k z).toNat) n5 c0 h128 (by rw [h129, if_pos ⟨c0, rfl⟩])
          rw [c0]
          exact q1.symm
        · have := ff.2.2.2.1
          obtain ⟨a1, a2, a3⟩ := l2 (by omega)
          obtain ⟨-, q2, -⟩ := rd_ch_1 (i2 _ t0 t1) rfl (by omega) h128 (by rw [h129, if_neg (fun c => c0 c.1)]) a3
          have et : (g 130 (g 146 (rd_k z).toNat).toNat + 1).toNat - 1 = (g 130 (g 146 (rd_k z).toNat).toNat).toNat := by omega
          rw [et]
          exact q2.symm
      · rw [h149, if_pos rfl] at c
        exact absurd c (by decide)
      · rw [h151, if_pos rfl] at c
        exact absurd rfl c
      · rw [h150, if_pos rfl]
        omega
    · have hne : g 146 i.toNat ≠ g 146 (rd_k z).toNat := fun e => by
        rw [e, f2] at t2
        omega
      obtain ⟨o1, o2⟩ := oth _ t0 t1 hne
      have ei : ¬ i.toNat = (rd_k z).toNat := by omega
      obtain ⟨-, -, -, r4, r5, r6⟩ := i4b i h0 (by omega)
      rw [h147, if_neg ei, h149, if_neg ei, h150, if_neg ei, h151, if_neg ei, o1]
      refine ⟨⟨t0, t1, t2, t3⟩, fun c => ?_, r3, r4, r5, r6⟩
      obtain ⟨a1, a2, a3⟩ := r2 c
      refine ⟨a1, by omega, ?_⟩
      rw [o2 _ (by omega)]
      exact a3
  · have := i5 i h0 h1
    unfold rd_grp at this ⊢
    simp only [e119, e120, e124, e125, e146, e148]
    exact this
end RDB
