/-! a kind in a set: both sides look at the same bit -/
def shn (k : Int) : Nat := ((Int32.ofInt k).toInt64 &&& 63).toBitVec.toNat
theorem shn_lt (k : Int) : shn k < 64 := by
  unfold shn
  rw [Int64.toBitVec_and, BitVec.toNat_and]
  have h : (63 : Int64).toBitVec.toNat = 2 ^ 6 - 1 := by decide
  rw [h, Nat.and_two_pow_sub_one_eq_mod]
  exact Nat.mod_lt _ (by decide)
theorem and1_n (a : Int64) : (a &&& Int64.ofNat 1).toBitVec.toNat = if tb a 0 = true then 1 else 0 := by
  rw [Int64.toBitVec_and, BitVec.toNat_and]
  have h : (Int64.ofNat 1).toBitVec.toNat = 1 := by decide
  rw [h, Nat.and_one_is_mod]
  unfold tb
  rw [← BitVec.testBit_toNat, Nat.testBit_zero]
  have := Nat.mod_two_eq_zero_or_one a.toBitVec.toNat
  split
  · next q =>
    rw [decide_eq_true_eq] at q
    exact q
  · next q =>
    rw [decide_eq_true_eq] at q
    omega
theorem and1_1 (a : Int64) : a &&& Int64.ofNat 1 = Int64.ofNat 1 ↔ tb a 0 = true := by
  have n := and1_n a
  have h1 : (Int64.ofNat 1).toBitVec.toNat = 1 := by decide
  constructor
  · intro e
    rw [e, h1] at n
    split at n
    · next q => exact q
    · omega
  · intro e
    rw [if_pos e] at n
    exact Int64.toBitVec_inj.mp (BitVec.eq_of_toNat_eq (n.trans h1.symm))
theorem and1_0 (a : Int64) : a &&& Int64.ofNat 1 = Int64.ofNat 0 ↔ ¬ tb a 0 = true := by
  have n := and1_n a
  have h1 : (Int64.ofNat 0).toBitVec.toNat = 0 := by decide
  constructor
  · intro e q
    rw [e, h1, if_pos q] at n
    omega
  · intro e
    rw [if_neg e] at n
    exact Int64.toBitVec_inj.mp (BitVec.eq_of_toNat_eq (n.trans h1.symm))
set_option maxRecDepth 4000 in
theorem smod64 : ∀ n : Fin 64, ((BitVec.ofNat 64 n.val).smod 64#64).toNat = n.val := by decide
theorem sar_0 (x : Int64) (k : Int) : tb (x >>> ((Int32.ofInt k).toInt64 &&& 63)) 0 = tb x (shn k) := by
  have hl := shn_lt k
  obtain ⟨s, hs⟩ : ∃ s, s = (Int32.ofInt k).toInt64 &&& 63 := ⟨_, rfl⟩
  have en : shn k = s.toBitVec.toNat := by rw [hs]; rfl
  rw [← hs]
  rw [en] at hl ⊢
  have eb : s.toBitVec = BitVec.ofNat 64 s.toBitVec.toNat := BitVec.eq_of_toNat_eq (by rw [BitVec.toNat_ofNat, Nat.mod_eq_of_lt s.toBitVec.isLt])
  have em : (s.toBitVec.smod 64#64).toNat = s.toBitVec.toNat := by
    have := smod64 ⟨s.toBitVec.toNat, hl⟩
    dsimp only at this
    rw [← eb] at this
    exact this
  unfold tb
  rw [Int64.toBitVec_shiftRight]
  show (x.toBitVec.sshiftRight (s.toBitVec.smod 64#64).toNat).getLsbD 0 = _
  rw [em, BitVec.getLsbD_sshiftRight]
  simp [hl]
theorem shr_0 (x : Int64) (k : Int) : tb ((x.toUInt64 >>> ((Int32.ofInt k).toInt64.toUInt64 &&& Int64.toUInt64 63)).toInt64) 0 = tb x (shn k) := by
  have hl := shn_lt k
  obtain ⟨t, ht⟩ : ∃ t, t = (Int32.ofInt k).toInt64.toUInt64 &&& Int64.toUInt64 63 := ⟨_, rfl⟩
  have en : shn k = t.toBitVec.toNat := by rw [ht]; rfl
  rw [← ht]
  rw [en] at hl ⊢
  show (x.toUInt64 >>> t).toBitVec.getLsbD 0 = _
  rw [UInt64.toBitVec_shiftRight]
  have em : (t.toBitVec % 64#64).toNat = t.toBitVec.toNat := by
    rw [BitVec.toNat_umod]
    exact Nat.mod_eq_of_lt hl
  show (x.toBitVec >>> (t.toBitVec % 64#64).toNat).getLsbD 0 = _
  rw [em, BitVec.getLsbD_ushiftRight]
  rfl
theorem lgc_0 (a b : Int64) : (lg_cmp a b).toInt = 0 ↔ a = b := by
  unfold lg_cmp
  constructor
  · intro h
    split at h
    · exact absurd h (by decide)
    · split at h
      · next q => exact q
      · exact absurd h (by decide)
  · intro h
    rw [h, if_neg (by rw [gt_iff_lt, Int64.lt_iff_toInt_lt]; omega), if_pos rfl]
    rfl
theorem px_bit_t (x : Int64) (k : Int) : px_bit x k = true ↔ 0 ≤ k ∧ tb x (shn k) = true := by
  unfold px_bit
  rw [decide_eq_true_eq, lgc_0, and1_1, sar_0]
theorem pq_bit_t (x : Int64) (k : Int) : pq_bit x k = true ↔ 0 ≤ k ∧ tb x (shn k) = true := by
  unfold pq_bit
  rw [decide_eq_true_eq, ne_eq, lgc_0, and1_0, Classical.not_not, shr_0]
theorem pq_px (x : Int64) (k : Int) : pq_bit x k = px_bit x k := by
  have h := (pq_bit_t x k).trans (px_bit_t x k).symm
  cases h1 : pq_bit x k with
  | true => exact (h.mp h1).symm
  | false =>
    cases h2 : px_bit x k with
    | true => rw [h.mpr h2] at h1; cases h1
    | false => rfl
