/-! TOKENS of a description, purely: n characters c -/
def tx_low (c : Int) : Prop := 97 ≤ c ∧ c ≤ 122
def tx_dig (c : Int) : Prop := 48 ≤ c ∧ c ≤ 57
def tx_cap (c : Int) : Prop := 65 ≤ c ∧ c ≤ 90
def tx_blk (c : Int) : Prop := c = 32 ∨ c = 10
def tx_own (c : Int) : Prop := c = 61 ∨ c = 59 ∨ c = 124 ∨ c = 42 ∨ c = 63 ∨ c = 40 ∨ c = 41 ∨ c = 126 ∨ c = 43
def tx_sg (c : Int) : Prop := 32 < c ∧ c < 127 ∧ ¬ tx_low c ∧ ¬ tx_dig c ∧ ¬ tx_cap c
/-- from k on the characters are of the kind p, up to e -/
def tx_end (p : Int → Prop) (n : Int) (c : Nat → Int) (k e : Int) : Prop := k ≤ e ∧ (∀ j, k ≤ j → j < e → j < n ∧ p (c j.toNat)) ∧ ¬ (e < n ∧ p (c e.toNat))
theorem tx_end_u {p : Int → Prop} {n : Int} {c : Nat → Int} {k e e' : Int} (h : tx_end p n c k e) (h' : tx_end p n c k e') : e = e' := by
  obtain ⟨a1, a2, a3⟩ := h
  obtain ⟨b1, b2, b3⟩ := h'
  rcases Int.lt_trichotomy e e' with x | x | x
  · exact absurd (b2 e a1 x) a3
  · exact x
  · exact absurd (a2 e' b1 x) b3
theorem tx_end_n {p : Int → Prop} {n : Int} {c : Nat → Int} {k e : Int} (h : tx_end p n c k e) (hk : k ≤ n) : e ≤ n := by
  rcases Int.lt_or_le n e with x | x
  · by_cases c : k < e
    · have := (h.2.1 (e - 1) (by omega) (by omega)).1
      omega
    · omega
  · exact x
/-- letters, five bits each, the first one lowest -/
def tx_code (c : Nat → Int) (k : Int) : Nat → Int
  | 0 => 0
  | m + 1 => (c k.toNat - 96) + 32 * tx_code c (k + 1) m
theorem tx_code_b {c : Nat → Int} : ∀ (m : Nat) (k : Int), (∀ j, k ≤ j → j < k + m → tx_low (c j.toNat)) → 0 ≤ tx_code c k m ∧ tx_code c k m < 32 ^ m := by
  intro m
  induction m with
  | zero => intro k _; exact ⟨Int.le_refl _, show (0 : Int) < 32 ^ 0 from by decide⟩
  | succ m ih =>
    intro k h
    obtain ⟨i1, i2⟩ := ih (k + 1) (fun j j0 j1 => h j (by omega) (by omega))
    obtain ⟨x1, x2⟩ := h k (Int.le_refl _) (by omega)
    have e : (32 : Int) ^ (m + 1) = 32 * 32 ^ m := by rw [Int.pow_succ, Int.mul_comm]
    show 0 ≤ (c k.toNat - 96) + 32 * tx_code c (k + 1) m ∧ (c k.toNat - 96) + 32 * tx_code c (k + 1) m < 32 ^ (m + 1)
    omega
/-- the token at a: its kind t, its worth v, its place p, where it ends e (v and e: only of those that are tokens) -/
def tk_T (n : Int) (c : Nat → Int) (a t v p e : Int) : Prop :=
  tx_end tx_blk n c a p ∧ ((p = n ∧ t = 0) ∨ (p < n ∧ (
    (tx_low (c p.toNat) ∧ t = 1 ∧ tx_end tx_low n c p e ∧ ((6 < e - p ∧ v = -1) ∨ (e - p ≤ 6 ∧ v = tx_code c p (e - p).toNat))) ∨
    (tx_cap (c p.toNat) ∧ t = 2 ∧ v = c p.toNat - 65 ∧ e = p + 1) ∨
    (tx_dig (c p.toNat) ∧ t = 5 ∧ v = c p.toNat - 48 ∧ e = p + 1) ∨
    (c p.toNat = 34 ∧ ∃ q, tx_end tx_low n c (p + 1) q ∧ ((p + 1 < q ∧ q - (p + 1) < 6 ∧ q < n ∧ c q.toNat = 34 ∧ t = 3 ∧ v = tx_code c (p + 1) (q - (p + 1)).toNat ∧ e = q + 1) ∨ (¬ (p + 1 < q ∧ q - (p + 1) < 6 ∧ q < n ∧ c q.toNat = 34) ∧ t = 6))) ∨
    (c p.toNat = 39 ∧ ((p + 1 < n ∧ tx_sg (c (p + 1).toNat) ∧ t = 4 ∧ v = c (p + 1).toNat ∧ e = p + 2) ∨ (¬ (p + 1 < n ∧ tx_sg (c (p + 1).toNat)) ∧ t = 6))) ∨
    (tx_own (c p.toNat) ∧ t = c p.toNat ∧ v = 0 ∧ e = p + 1) ∨
    (¬ tx_low (c p.toNat) ∧ ¬ tx_cap (c p.toNat) ∧ ¬ tx_dig (c p.toNat) ∧ c p.toNat ≠ 34 ∧ c p.toNat ≠ 39 ∧ ¬ tx_own (c p.toNat) ∧ t = 6))))
/-- there is but one -/
theorem tk_u {n : Int} {c : Nat → Int} {a t v p e t' v' p' e' : Int} (h : tk_T n c a t v p e) (h' : tk_T n c a t' v' p' e') : t = t' ∧ p = p' ∧ (t ≠ 0 → t ≠ 6 → v = v' ∧ e = e') := by
  obtain ⟨h1, h2⟩ := h
  obtain ⟨g1, g2⟩ := h'
  have ep := tx_end_u h1 g1
  subst ep
  rcases h2 with ⟨x1, x2⟩ | ⟨x1, x2⟩
  · rcases g2 with ⟨y1, y2⟩ | ⟨y1, y2⟩
    · exact ⟨by omega, rfl, fun c => absurd x2 c⟩
    · omega
  rcases g2 with ⟨y1, y2⟩ | ⟨y1, y2⟩
  · omega
  unfold tx_low tx_cap tx_dig tx_own at x2 y2
  rcases x2 with ⟨x3, x4, x5, x6⟩ | ⟨x3, x4, x5, x6⟩ | ⟨x3, x4, x5, x6⟩ | ⟨x3, q, x5, x6⟩ | ⟨x3, x4⟩ | ⟨x3, x4, x5, x6⟩ | ⟨x3, x4, x5, x6, x7, x8, x9⟩
  · rcases y2 with ⟨y3, y4, y5, y6⟩ | ⟨y3, -⟩ | ⟨y3, -⟩ | ⟨y3, -⟩ | ⟨y3, -⟩ | ⟨y3, -⟩ | ⟨y3, -⟩
    · have ee := tx_end_u x5 y5
      subst ee
      refine ⟨by omega, rfl, fun _ _ => ⟨?_, rfl⟩⟩
      rcases x6 with ⟨u1, u2⟩ | ⟨u1, u2⟩ <;> rcases y6 with ⟨w1, w2⟩ | ⟨w1, w2⟩ <;> omega
    all_goals (exfalso; omega)
  · rcases y2 with ⟨y3, -⟩ | ⟨y3, y4, y5, y6⟩ | ⟨y3, -⟩ | ⟨y3, -⟩ | ⟨y3, -⟩ | ⟨y3, -⟩ | ⟨y3, y3b, y3c, -⟩
    · exfalso; omega
    · exact ⟨by omega, rfl, fun _ _ => ⟨by omega, by omega⟩⟩
    all_goals (exfalso; omega)
  · rcases y2 with ⟨y3, -⟩ | ⟨y3, -⟩ | ⟨y3, y4, y5, y6⟩ | ⟨y3, -⟩ | ⟨y3, -⟩ | ⟨y3, -⟩ | ⟨y3, y3b, y3c, -⟩
    · exfalso; omega
    · exfalso; omega
    · exact ⟨by omega, rfl, fun _ _ => ⟨by omega, by omega⟩⟩
    all_goals (exfalso; omega)
  · rcases y2 with ⟨y3, -⟩ | ⟨y3, -⟩ | ⟨y3, -⟩ | ⟨y3, q', y5, y6⟩ | ⟨y3, -⟩ | ⟨y3, -⟩ | ⟨y3, y3b, y3c, y3d, -⟩
    · exfalso; omega
    · exfalso; omega
    · exfalso; omega
    · have eq := tx_end_u x5 y5
      subst eq
      rcases x6 with ⟨u1, u2, u3, u4, u5, u6, u7⟩ | ⟨u1, u2⟩
      · rcases y6 with ⟨w1, w2, w3, w4, w5, w6, w7⟩ | ⟨w1, w2⟩
        · exact ⟨by omega, rfl, fun _ _ => ⟨by omega, by omega⟩⟩
        · exact absurd ⟨u1, u2, u3, u4⟩ w1
      · rcases y6 with ⟨w1, w2, w3, w4, w5, w6, w7⟩ | ⟨w1, w2⟩
        · exact absurd ⟨w1, w2, w3, w4⟩ u1
        · exact ⟨by omega, rfl, fun _ c => absurd u2 c⟩
    all_goals (exfalso; omega)
  · rcases y2 with ⟨y3, -⟩ | ⟨y3, -⟩ | ⟨y3, -⟩ | ⟨y3, -⟩ | ⟨y3, y4⟩ | ⟨y3, -⟩ | ⟨y3, y3b, y3c, y3d, y3e, -⟩
    · exfalso; omega
    · exfalso; omega
    · exfalso; omega
    · exfalso; omega
    · rcases x4 with ⟨u1, u2, u3, u4, u5⟩ | ⟨u1, u2⟩
      · rcases y4 with ⟨w1, w2, w3, w4, w5⟩ | ⟨w1, w2⟩
        · exact ⟨by omega, rfl, fun _ _ => ⟨by omega, by omega⟩⟩
        · exact absurd ⟨u1, u2⟩ w1
      · rcases y4 with ⟨w1, w2, w3, w4, w5⟩ | ⟨w1, w2⟩
        · exact absurd ⟨w1, w2⟩ u1
        · exact ⟨by omega, rfl, fun _ c => absurd u2 c⟩
    all_goals (exfalso; omega)
  · rcases y2 with ⟨y3, -⟩ | ⟨y3, -⟩ | ⟨y3, -⟩ | ⟨y3, -⟩ | ⟨y3, -⟩ | ⟨y3, y4, y5, y6⟩ | ⟨y3, y3b, y3c, y3d, y3e, y3f, -⟩
    · exfalso; omega
    · exfalso; omega
    · exfalso; omega
    · exfalso; omega
    · exfalso; omega
    · exact ⟨by omega, rfl, fun _ _ => ⟨by omega, by omega⟩⟩
    · exact absurd x3 y3f
  · rcases y2 with ⟨y3, -⟩ | ⟨y3, -⟩ | ⟨y3, -⟩ | ⟨y3, -⟩ | ⟨y3, -⟩ | ⟨y3, -⟩ | ⟨y3, y3b, y3c, y3d, y3e, y3f, y3g⟩
    · exact absurd y3 x3
    · exact absurd y3 x4
    · exact absurd y3 x5
    · exact absurd y3 x6
    · exact absurd y3 x7
    · exact absurd y3 x8
    · exact ⟨by omega, rfl, fun _ c => absurd x9 c⟩
/-- one letter more in front -/
theorem tx_pack {V : Int64} {X : Int} (v0 : 0 ≤ V.toInt) (v1 : V.toInt < 33554432) (x0 : 97 ≤ X) (x1 : X ≤ 122) : ((V <<< ((Int32.ofInt ((5 : Int))).toInt64 &&& 63)) ||| ((Int32.ofInt X).toInt64 - Int64.ofNat 96)).toInt = (X - 96) + 32 * V.toInt := by
  have okc : mi_in X := ⟨by omega, by omega⟩
  have ex : ((Int32.ofInt X).toInt64 - Int64.ofNat 96).toInt = X - 96 := by
    rw [Int64.toInt_sub, Int32.toInt_toInt64, mi_ti okc]
    have : (Int64.ofNat 96).toInt = 96 := rfl
    rw [this]
    exact Int.bmod_eq_of_le (by omega) (by omega)
  have toN : ∀ {a : Int64} {z : Int}, a.toInt = z → 0 ≤ z → z < 4611686018427387904 → (a.toBitVec.toNat : Int) = z := fun {a z} h h0 h1 => by
    have e2 : a.toBitVec.toInt = z := h
    have e3 := BitVec.toInt_eq_toNat_cond a.toBitVec
    have e4 := a.toBitVec.isLt
    split at e3 <;> omega
  have nX := toN ex (by omega) (by omega)
  have nV := toN (a := V) rfl v0 (by omega)
  generalize hA : ((Int32.ofInt X).toInt64 - Int64.ofNat 96) = A at ex nX
  have e5 : ((Int32.ofInt ((5 : Int))).toInt64 &&& 63).toBitVec.smod 64 = BitVec.ofNat 64 5 := by decide
  have main : ((V <<< ((Int32.ofInt ((5 : Int))).toInt64 &&& 63)) ||| A).toBitVec.toNat = V.toBitVec.toNat * 32 + A.toBitVec.toNat := by
    rw [Int64.toBitVec_or, BitVec.toNat_or, Int64.toBitVec_shiftLeft, e5]
    have e : (V.toBitVec <<< BitVec.ofNat 64 5) = V.toBitVec <<< 5 := by
      rw [BitVec.shiftLeft_eq', BitVec.toNat_ofNat]
    rw [e, BitVec.toNat_shiftLeft, Nat.mod_eq_of_lt (by rw [Nat.shiftLeft_eq]; omega), ← Nat.shiftLeft_add_eq_or_of_lt (by omega), Nat.shiftLeft_eq]
  show ((V <<< ((Int32.ofInt ((5 : Int))).toInt64 &&& 63)) ||| A).toBitVec.toInt = _
  rw [BitVec.toInt_eq_toNat_of_lt (by rw [main]; omega), main]
  omega
