/-! reading: the chain of a form's alternatives, when one more begins -/
section RDC
variable {g g' : wk_g} {Y : wk_Y} {z : rd_Z} {m f A oa : Int}
/-- the chain of another form stays -/
theorem rd_ch_o {f0 : Int} (hf : rd_form g Y z m f0) (hA : rd_a z = A) (h128 : ∀ i : Nat, g' 128 i = if g 130 f.toNat ≠ 0 ∧ i = oa.toNat then A else if i = A.toNat then -1 else g 128 i) (h129 : g' 129 f0.toNat = g 129 f0.toNat) (hoa : g 130 f.toNat ≠ 0 → 0 ≤ oa ∧ rd_ow z oa = f) (hne : f0 ≠ f) : ∀ j : Nat, (j : Int) ≤ g 130 f0.toNat → wk_alt g' j (g' 129 f0.toNat) = wk_alt g j (g 129 f0.toNat) := by
  intro j
  induction j with
  | zero => intro _; exact h129
  | succ j ih =>
    intro hj
    obtain ⟨b1, b2, b3, -⟩ := hf.2.2.2.2.2.2.2 j (by omega)
    rw [wk_alt_succ, wk_alt_succ, ih (by omega), h128, if_neg, if_neg]
    · omega
    · rintro ⟨c1, c2⟩
      obtain ⟨d1, d2⟩ := hoa c1
      have e : wk_alt g j (g 129 f0.toNat) = oa := by omega
      rw [e, d2] at b3
      exact hne b3.symm
/-- the chain of the form itself: first of it -/
theorem rd_ch_0 (hA : 0 ≤ A) (h0 : g 130 f.toNat = 0) (h128 : ∀ i : Nat, g' 128 i = if g 130 f.toNat ≠ 0 ∧ i = oa.toNat then A else if i = A.toNat then -1 else g 128 i) (h129 : g' 129 f.toNat = A) : wk_alt g' 0 (g' 129 f.toNat) = A ∧ wk_alt g' 1 (g' 129 f.toNat) = -1 := by
  refine ⟨h129, ?_⟩
  show g' 128 (g' 129 f.toNat).toNat = -1
  rw [h129, h128, if_neg (fun c => c.1 h0), if_pos rfl]
/-- .. one more of it -/
theorem rd_ch_1 (hf : rd_form g Y z m f) (hA : rd_a z = A) (hn : 0 < g 130 f.toNat) (h128 : ∀ i : Nat, g' 128 i = if g 130 f.toNat ≠ 0 ∧ i = oa.toNat then A else if i = A.toNat then -1 else g 128 i) (h129 : g' 129 f.toNat = g 129 f.toNat) (hoa : oa = wk_alt g ((g 130 f.toNat).toNat - 1) (g 129 f.toNat)) : (∀ j : Nat, (j : Int) < g 130 f.toNat → wk_alt g' j (g' 129 f.toNat) = wk_alt g j (g 129 f.toNat)) ∧ wk_alt g' (g 130 f.toNat).toNat (g' 129 f.toNat) = A ∧ wk_alt g' ((g 130 f.toNat).toNat + 1) (g' 129 f.toNat) = -1 := by
  have law := hf.2.2.2.2.2.2.2
  have ho := law ((g 130 f.toNat).toNat - 1) (by omega)
  rw [← hoa] at ho
  obtain ⟨o1, o2, o3, o4⟩ := ho
  have low : ∀ j : Nat, (j : Int) < g 130 f.toNat → wk_alt g' j (g' 129 f.toNat) = wk_alt g j (g 129 f.toNat) := by
    intro j
    induction j with
    | zero => intro _; exact h129
    | succ j ih =>
      intro hj
      obtain ⟨b1, b2, b3, b4⟩ := law j (by omega)
      rw [wk_alt_succ, wk_alt_succ, ih (by omega), h128, if_neg, if_neg]
      · omega
      · rintro ⟨-, c2⟩
        have e : wk_alt g j (g 129 f.toNat) = oa := by omega
        rw [e, o4] at b4
        omega
  have e1 : (g 130 f.toNat).toNat = ((g 130 f.toNat).toNat - 1) + 1 := by omega
  have mid : wk_alt g' (g 130 f.toNat).toNat (g' 129 f.toNat) = A := by
    rw [e1, wk_alt_succ, low _ (by omega), ← hoa, h128, if_pos ⟨by omega, rfl⟩]
  refine ⟨low, mid, ?_⟩
  rw [wk_alt_succ, mid, h128, if_neg (fun c => by have := c.2; omega), if_pos rfl]
end RDC
