/-! reading: a pair is announced -/
section RDW
variable {g g' : wk_g} {Y : wk_Y} {z : rd_Z} {m : Int}
theorem rd_swap (hI : rd_I g Y z m) (s : ∀ j, j ∈ [119, 120, 124, 125, 126, 128, 129, 130, 146, 147, 148, 149, 150] → ∀ i, g' j i = g j i) (h151 : ∀ i : Nat, i ≠ (rd_k z).toNat → g' 151 i = g 151 i) (hl : 0 ≤ g 149 (rd_k z).toNat) (hm : g 124 (g 149 (rd_k z).toNat).toNat < 0) : rd_I g' Y z m := by
  obtain ⟨nn, i1, i2, i3, i4, i5⟩ := hI
  have e119 := s 119 (by decide)
  have e120 := s 120 (by decide)
  have e124 := s 124 (by decide)
  have e125 := s 125 (by decide)
  have e126 := s 126 (by decide)
  have e128 := s 128 (by decide)
  have e129 := s 129 (by decide)
  have e130 := s 130 (by decide)
  have e146 := s 146 (by decide)
  have e147 := s 147 (by decide)
  have e148 := s 148 (by decide)
  have e149 := s 149 (by decide)
  have e150 := s 150 (by decide)
  have alts : ∀ n a, wk_alt g' n a = wk_alt g n a := by
    intro n
    induction n with
    | zero => intro a; rfl
    | succ n ih =>
      intro a
      show wk_alt g' n (g' 128 a.toNat) = wk_alt g n (g 128 a.toNat)
      rw [e128, ih]
  refine ⟨nn, fun w h0 h1 => ?_, fun f h0 h1 => ?_, fun a h0 h1 => ?_, fun i h0 h1 => ?_, fun i h0 h1 => ?_⟩
  · have := i1 w h0 h1
    unfold rd_unit at this ⊢
    simp only [e119, e120, e124, e125]
    exact this
  · have := i2 f h0 h1
    unfold rd_form at this ⊢
    simp only [e129, e130, e146, alts]
    exact this
  · have := i3 a h0 h1
    unfold rd_alt at this ⊢
    rw [e126]
    exact this
  · obtain ⟨t, r2, r3, r4, r5, r6⟩ := i4 i h0 h1
    have etop : rd_top g' Y z i = rd_top g Y z i := by
      unfold rd_top
      rw [e148]
    unfold rd_lev
    simp only [e124, e125, e129, e130, e146, e147, e148, e149, e150, etop, alts]
    refine ⟨t, r2, r3, r4, fun c => ?_, r6⟩
    by_cases hik : i = rd_k z
    · subst hik
      exact ⟨hl, hm⟩
    · rw [h151 _ (by omega)] at c
      exact r5 c
  · have := i5 i h0 h1
    unfold rd_grp at this ⊢
    simp only [e119, e120, e124, e125, e146, e148]
    exact this
end RDW
