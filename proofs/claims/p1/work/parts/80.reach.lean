/-! ONLY THE METHODS that p1's runs reach -/
def sq_mask : Nat := 6922882945054742953086894043990675893773751911391757694810055827144048639
def sq_need : List Nat := [0, 1, 2, 3, 4, 5, 6, 7, 8, 9, 10, 11, 12, 13, 14, 15, 16, 17, 18, 19, 20, 22, 27, 28, 29, 30, 31, 46, 47, 51, 52, 88, 89, 90, 91, 92, 94, 95, 96, 97, 98, 99, 100, 102, 158, 160, 162, 164, 165, 166, 169, 170, 171, 172, 173, 174, 175, 176, 177, 179, 183, 184, 204, 205, 228, 232, 233, 235, 237, 238, 239, 240, 241]
def sq_P (m : Nat) : Option sm_M := if sq_mask.testBit m then sc_P m else none
theorem sq_Pof {m : Nat} {M : sm_M} (h : sq_P m = some M) : sc_P m = some M ∧ sq_mask.testBit m = true := by
  unfold sq_P at h
  split at h
  · next hb => exact ⟨h, hb⟩
  · cases h
theorem sq_needOk : ∀ m, m < 280 → sq_mask.testBit m = true → m ∈ sq_need := by decide +kernel
theorem sq_is {m : Nat} {M M' : sm_M} {Q : sm_M → Prop} (h : sc_P m = some M) (e : sc_P m = some M') (q : Q M') : Q M := by
  cases h.symm.trans e
  exact q
