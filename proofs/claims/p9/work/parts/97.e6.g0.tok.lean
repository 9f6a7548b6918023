/-! TOKENS of an input, purely: n characters c, m literals L -/
def tx_dec (c : Nat → Int) (k : Int) : Nat → Int
  | 0 => 0
  | m + 1 => 10 * tx_dec c k m + (c (k + m).toNat - 48)
theorem tx_dec_b {c : Nat → Int} {k : Int} : ∀ m : Nat, (∀ j, k ≤ j → j < k + m → tx_dig (c j.toNat)) → 0 ≤ tx_dec c k m ∧ tx_dec c k m < 10 ^ m := by
  intro m
  induction m with
  | zero => intro _; exact ⟨Int.le_refl _, show (0 : Int) < 10 ^ 0 by decide⟩
  | succ m ih =>
    intro h
    obtain ⟨i1, i2⟩ := ih (fun j j0 j1 => h j j0 (by omega))
    obtain ⟨x1, x2⟩ := h (k + m) (by omega) (by omega)
    have e : (10 : Int) ^ (m + 1) = 10 * 10 ^ m := by rw [Int.pow_succ, Int.mul_comm]
    show 0 ≤ 10 * tx_dec c k m + (c (k + m).toNat - 48) ∧ 10 * tx_dec c k m + (c (k + m).toNat - 48) < 10 ^ (m + 1)
    omega
/-- the first place of c, or -1 -/
def fx (m : Int) (L : Nat → Int) (c z : Int) : Prop := (0 ≤ z ∧ z < m ∧ L z.toNat = c ∧ ∀ j : Nat, (j : Int) < z → L j ≠ c) ∨ (z = -1 ∧ ∀ j : Nat, (j : Int) < m → L j ≠ c)
theorem fx_u {m : Int} {L : Nat → Int} {c z z' : Int} (h : fx m L c z) (h' : fx m L c z') : z = z' := by
  rcases h with ⟨a1, a2, a3, a4⟩ | ⟨a1, a2⟩
  · rcases h' with ⟨b1, b2, b3, b4⟩ | ⟨b1, b2⟩
    · rcases Int.lt_trichotomy z z' with x | x | x
      · exact absurd a3 (b4 z.toNat (by omega))
      · exact x
      · exact absurd b3 (a4 z'.toNat (by omega))
    · exact absurd a3 (b2 z.toNat (by omega))
  · rcases h' with ⟨b1, b2, b3, b4⟩ | ⟨b1, b2⟩
    · exact absurd b3 (a2 z'.toNat (by omega))
    · omega
theorem fx_c {m : Int} {L L' : Nat → Int} {c z : Int} (hL : ∀ l : Nat, (l : Int) < m → L' l = L l) (h : fx m L c z) : fx m L' c z := by
  rcases h with ⟨a1, a2, a3, a4⟩ | ⟨a1, a2⟩
  · exact Or.inl ⟨a1, a2, by rw [hL _ (by omega)]; exact a3, fun j hj => by rw [hL j (by omega)]; exact a4 j hj⟩
  · exact Or.inr ⟨a1, fun j hj => by rw [hL j hj]; exact a2 j hj⟩
/-- the token from a on: its kind k, its worth v, its place s, where it ends e -/
def tq_T (n : Int) (c : Nat → Int) (m : Int) (L : Nat → Int) (a k v s e : Int) : Prop :=
  tx_end tx_blk n c a s ∧ ((¬ s < n ∧ k = 0 ∧ e = s) ∨ (s < n ∧ (
    (tx_dig (c s.toNat) ∧ tx_end tx_dig n c s e ∧ ((e - s ≤ 4 ∧ k = 1 ∧ v = tx_dec c s (e - s).toNat) ∨ (4 < e - s ∧ k = -1))) ∨
    (tx_low (c s.toNat) ∧ tx_end tx_low n c s e ∧ ((e - s ≤ 6 ∧ v = tx_code c s (e - s).toNat ∧ ∃ z, fx m L v z ∧ k = if z = -1 then 2 else 3 + z) ∨ (6 < e - s ∧ k = -1))) ∨
    (¬ tx_dig (c s.toNat) ∧ ¬ tx_low (c s.toNat) ∧ e = s + 1 ∧ ∃ z, fx m L (-(c s.toNat)) z ∧ k = if z = -1 then -1 else 3 + z))))
theorem tq_u {n : Int} {c : Nat → Int} {m : Int} {L : Nat → Int} {a k v s e k' v' s' e' : Int} (h : tq_T n c m L a k v s e) (h' : tq_T n c m L a k' v' s' e') : k = k' ∧ s = s' ∧ e = e' ∧ ((k = 1 ∨ k = 2) → v = v') := by
  obtain ⟨h1, h2⟩ := h
  obtain ⟨g1, g2⟩ := h'
  have es := tx_end_u h1 g1
  subst es
  have kz : ∀ z z' : Int, z = z' → (if z = -1 then (2 : Int) else 3 + z) = if z' = -1 then 2 else 3 + z' := fun z z' e => by rw [e]
  have kz2 : ∀ z z' : Int, z = z' → (if z = -1 then (-1 : Int) else 3 + z) = if z' = -1 then -1 else 3 + z' := fun z z' e => by rw [e]
  rcases h2 with ⟨x1, x2, x3⟩ | ⟨x1, x2⟩
  · rcases g2 with ⟨y1, y2, y3⟩ | ⟨y1, y2⟩
    · exact ⟨by omega, rfl, by omega, fun q => by omega⟩
    · omega
  rcases g2 with ⟨y1, y2, y3⟩ | ⟨y1, y2⟩
  · omega
  unfold tx_dig tx_low at x2 y2
  rcases x2 with ⟨x3, x4, x5⟩ | ⟨x3, x4, x5⟩ | ⟨x3, x4, x5, z, x6, x7⟩
  · rcases y2 with ⟨y3, y4, y5⟩ | ⟨y3, -⟩ | ⟨y3, -⟩
    · have ee := tx_end_u x4 y4
      subst ee
      rcases x5 with ⟨u1, u2, u3⟩ | ⟨u1, u2⟩ <;> rcases y5 with ⟨w1, w2, w3⟩ | ⟨w1, w2⟩
      · exact ⟨by omega, rfl, rfl, fun _ => by omega⟩
      · omega
      · omega
      · exact ⟨by omega, rfl, rfl, fun q => by omega⟩
    · exfalso; omega
    · exact absurd x3 y3
  · rcases y2 with ⟨y3, -⟩ | ⟨y3, y4, y5⟩ | ⟨-, y3, -⟩
    · exfalso; omega
    · have ee := tx_end_u x4 y4
      subst ee
      rcases x5 with ⟨u1, u2, z, u3, u4⟩ | ⟨u1, u2⟩ <;> rcases y5 with ⟨w1, w2, z', w3, w4⟩ | ⟨w1, w2⟩
      · have ev : v = v' := by omega
        subst ev
        exact ⟨by rw [u4, w4]; exact kz _ _ (fx_u u3 w3), rfl, rfl, fun _ => rfl⟩
      · omega
      · omega
      · exact ⟨by omega, rfl, rfl, fun q => by omega⟩
    · exact absurd x3 y3
  · rcases y2 with ⟨y3, -⟩ | ⟨y3, -⟩ | ⟨y3, y4, y5, z', y6, y7⟩
    · exact absurd y3 x3
    · exact absurd y3 x4
    · have ez := fx_u x6 y6
      refine ⟨by rw [x7, y7]; exact kz2 _ _ ez, rfl, by omega, fun q => ?_⟩
      exfalso
      have zb : z = -1 ∨ 0 ≤ z := by
        rcases x6 with ⟨b1, -⟩ | ⟨b1, -⟩
        · exact Or.inr b1
        · exact Or.inl b1
      by_cases c1 : z = -1
      · rw [if_pos c1] at x7
        omega
      · rw [if_neg c1] at x7
        omega
theorem tx_end_c {p : Int → Prop} {n : Int} {c c' : Nat → Int} {k e : Int} (k0 : 0 ≤ k) (hc : ∀ i : Nat, (i : Int) < n → c' i = c i) (h : tx_end p n c k e) : tx_end p n c' k e := by
  obtain ⟨h1, h2, h3⟩ := h
  refine ⟨h1, fun j j0 j1 => ?_, fun q => ?_⟩
  · obtain ⟨a, b⟩ := h2 j j0 j1
    exact ⟨a, by rw [hc _ (by omega)]; exact b⟩
  · rw [hc _ (by omega)] at q
    exact h3 q
theorem tx_code_c {n : Int} {c c' : Nat → Int} (hc : ∀ i : Nat, (i : Int) < n → c' i = c i) : ∀ (m : Nat) (k : Int), 0 ≤ k → k + m ≤ n → tx_code c' k m = tx_code c k m := by
  intro m
  induction m with
  | zero => intro k _ _; rfl
  | succ m ih =>
    intro k k0 k1
    show (c' k.toNat - 96) + 32 * tx_code c' (k + 1) m = (c k.toNat - 96) + 32 * tx_code c (k + 1) m
    rw [ih (k + 1) (by omega) (by omega), hc _ (by omega)]
theorem tx_dec_c {n : Int} {c c' : Nat → Int} (hc : ∀ i : Nat, (i : Int) < n → c' i = c i) {k : Int} (k0 : 0 ≤ k) : ∀ m : Nat, k + m ≤ n → tx_dec c' k m = tx_dec c k m := by
  intro m
  induction m with
  | zero => intro _; rfl
  | succ m ih =>
    intro k1
    show 10 * tx_dec c' k m + (c' (k + m).toNat - 48) = 10 * tx_dec c k m + (c (k + m).toNat - 48)
    rw [ih (by omega), hc _ (by omega)]
theorem tq_T_c {n : Int} {c c' : Nat → Int} {m : Int} {L L' : Nat → Int} {a k v s e : Int} (a0 : 0 ≤ a) (hc : ∀ i : Nat, (i : Int) < n → c' i = c i) (hL : ∀ l : Nat, (l : Int) < m → L' l = L l) (h : tq_T n c m L a k v s e) : tq_T n c' m L' a k v s e := by
  obtain ⟨h1, h2⟩ := h
  have as := h1.1
  refine ⟨tx_end_c a0 hc h1, ?_⟩
  rcases h2 with x | ⟨x1, x2⟩
  · exact Or.inl x
  refine Or.inr ⟨x1, ?_⟩
  have cs : c' s.toNat = c s.toNat := hc _ (by omega)
  rw [cs]
  rcases x2 with ⟨x3, x4, x5⟩ | ⟨x3, x4, x5⟩ | ⟨x3, x4, x5, z, x6, x7⟩
  · have en := tx_end_n x4 (by omega)
    refine Or.inl ⟨x3, tx_end_c (by omega) hc x4, ?_⟩
    rcases x5 with ⟨u1, u2, u3⟩ | u
    · have := x4.1
      exact Or.inl ⟨u1, u2, by rw [u3, tx_dec_c hc (by omega) _ (by omega)]⟩
    · exact Or.inr u
  · have en := tx_end_n x4 (by omega)
    refine Or.inr (Or.inl ⟨x3, tx_end_c (by omega) hc x4, ?_⟩)
    rcases x5 with ⟨u1, u2, z, u3, u4⟩ | u
    · have := x4.1
      exact Or.inl ⟨u1, by rw [u2, tx_code_c hc _ _ (by omega) (by omega)], z, fx_c hL u3, u4⟩
    · exact Or.inr u
  · exact Or.inr (Or.inr ⟨x3, x4, x5, z, fx_c hL x6, x7⟩)
/-- what is known of a token's worth -/
theorem tq_v {n : Int} {c : Nat → Int} {m : Int} {L : Nat → Int} {a k v s e : Int} (h : tq_T n c m L a k v s e) (hk : k = 1 ∨ k = 2) : 0 ≤ v ∧ v < 1073741824 := by
  obtain ⟨h1, h2⟩ := h
  rcases h2 with ⟨x1, x2, x3⟩ | ⟨x1, x2⟩
  · omega
  rcases x2 with ⟨x3, x4, x5⟩ | ⟨x3, x4, x5⟩ | ⟨x3, x4, x5, z, x6, x7⟩
  · rcases x5 with ⟨u1, u2, u3⟩ | ⟨u1, u2⟩
    · have := x4.1
      have b := tx_dec_b (c := c) (k := s) (e - s).toNat (fun j j0 j1 => (x4.2.1 j j0 (by omega)).2)
      have p4 : (10 : Int) ^ (e - s).toNat ≤ 10 ^ 4 := by
        have : (10 : Nat) ^ (e - s).toNat ≤ 10 ^ 4 := Nat.pow_le_pow_right (by decide) (by omega)
        exact_mod_cast this
      have e4 : (10 : Int) ^ 4 = 10000 := by decide
      omega
    · omega
  · rcases x5 with ⟨u1, u2, z, u3, u4⟩ | ⟨u1, u2⟩
    · have := x4.1
      have b := tx_code_b (c := c) (e - s).toNat s (fun j j0 j1 => (x4.2.1 j j0 (by omega)).2)
      have p4 : (32 : Int) ^ (e - s).toNat ≤ 32 ^ 6 := by
        have : (32 : Nat) ^ (e - s).toNat ≤ 32 ^ 6 := Nat.pow_le_pow_right (by decide) (by omega)
        exact_mod_cast this
      have e4 : (32 : Int) ^ 6 = 1073741824 := by decide
      omega
    · omega
  · exfalso
    have zb : z = -1 ∨ 0 ≤ z := by
      rcases x6 with ⟨b1, -⟩ | ⟨b1, -⟩
      · exact Or.inr b1
      · exact Or.inl b1
    by_cases c1 : z = -1
    · rw [if_pos c1] at x7
      omega
    · rw [if_neg c1] at x7
      omega
/-- all the tokens of a text: the j-th one begins to be looked for at p j; N is the end -/
def tq_S (n : Int) (c : Nat → Int) (m : Int) (L : Nat → Int) (K V : Int → Int) (p : Int → Int) (N : Int) : Prop := p 0 = 0 ∧ (∀ j, 0 ≤ j → j ≤ N → 0 ≤ p j ∧ p j ≤ n ∧ ∃ s, tq_T n c m L (p j) (K j) (V j) s (p (j + 1))) ∧ K N = 0 ∧ 0 ≤ N
