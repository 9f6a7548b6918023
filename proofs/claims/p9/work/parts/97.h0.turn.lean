/-! READING, purely: a turn of form; two posts of one run -/
/-- what a token's numbers are -/
theorem tk_f {n : Int} {c : Nat → Int} {a t v p e : Int} (a1 : a ≤ n) (h : tk_T n c a t v p e) : (a ≤ p ∧ p ≤ n) ∧ (t ≠ 0 → p < n) ∧ (t ≠ 0 → t ≠ 6 → p < e ∧ e ≤ n) ∧ (t = 2 → 0 ≤ v ∧ v ≤ 25) ∧ (t = 4 → 33 ≤ v ∧ v ≤ 126) ∧ (t = 5 → 0 ≤ v ∧ v ≤ 9) ∧ (0 ≤ t ∧ t ≤ 126) := by
  obtain ⟨h1, h2⟩ := h
  have pn := tx_end_n h1 a1
  have ap := h1.1
  rcases h2 with ⟨x1, x2⟩ | ⟨x1, x2⟩
  · refine ⟨⟨ap, pn⟩, fun x => absurd x2 x, fun x => absurd x2 x, ?_, ?_, ?_, ?_⟩
    · intro x; exfalso; omega
    · intro x; exfalso; omega
    · intro x; exfalso; omega
    · omega
  · refine ⟨⟨ap, pn⟩, fun _ => x1, ?_⟩
    unfold tx_low tx_cap tx_dig tx_own at x2
    rcases x2 with ⟨x3, x4, x5, x6⟩ | ⟨x3, x4, x5, x6⟩ | ⟨x3, x4, x5, x6⟩ | ⟨x3, q, x5, x6⟩ | ⟨x3, x4⟩ | ⟨x3, x4, x5, x6⟩ | ⟨x3, x4, x5, x6, x7, x8, x9⟩
    · have en := tx_end_n x5 (by omega)
      have pe : p < e := by
        rcases Int.lt_or_le p e with y | y
        · exact y
        · have ee : e = p := by have := x5.1; omega
          exact absurd ⟨by omega, by rw [ee]; exact x3⟩ x5.2.2
      refine ⟨fun _ _ => ⟨pe, en⟩, ?_, ?_, ?_, ?_⟩
      · intro x; exfalso; omega
      · intro x; exfalso; omega
      · intro x; exfalso; omega
      · omega
    · refine ⟨fun _ _ => ⟨by omega, by omega⟩, fun _ => by omega, ?_, ?_, ?_⟩
      · intro x; exfalso; omega
      · intro x; exfalso; omega
      · omega
    · refine ⟨fun _ _ => ⟨by omega, by omega⟩, ?_, ?_, fun _ => by omega, ?_⟩
      · intro x; exfalso; omega
      · intro x; exfalso; omega
      · omega
    · have q1 := x5.1
      have qn := tx_end_n x5 (by omega)
      rcases x6 with ⟨u1, u2, u3, u4, u5, u6, u7⟩ | ⟨u1, u2⟩
      · refine ⟨fun _ _ => ⟨by omega, by omega⟩, ?_, ?_, ?_, ?_⟩
        · intro x; exfalso; omega
        · intro x; exfalso; omega
        · intro x; exfalso; omega
        · omega
      · refine ⟨fun _ x => absurd u2 x, ?_, ?_, ?_, ?_⟩
        · intro x; exfalso; omega
        · intro x; exfalso; omega
        · intro x; exfalso; omega
        · omega
    · rcases x4 with ⟨u1, u2, u3, u4, u5⟩ | ⟨u1, u2⟩
      · obtain ⟨w1, w2, -⟩ := u2
        refine ⟨fun _ _ => ⟨by omega, by omega⟩, ?_, fun _ => by omega, ?_, ?_⟩
        · intro x; exfalso; omega
        · intro x; exfalso; omega
        · omega
      · refine ⟨fun _ x => absurd u2 x, ?_, ?_, ?_, ?_⟩
        · intro x; exfalso; omega
        · intro x; exfalso; omega
        · intro x; exfalso; omega
        · omega
    · refine ⟨fun _ _ => ⟨by omega, by omega⟩, ?_, ?_, ?_, ?_⟩
      · intro x; exfalso; omega
      · intro x; exfalso; omega
      · intro x; exfalso; omega
      · omega
    · refine ⟨fun _ x => absurd x9 x, ?_, ?_, ?_, ?_⟩
      · intro x; exfalso; omega
      · intro x; exfalso; omega
      · intro x; exfalso; omega
      · omega
theorem tk_f3 {n : Int} {c : Nat → Int} {a v p e : Int} (h : tk_T n c a 3 v p e) : 1 ≤ v ∧ v ≤ 1073741823 := by
  obtain ⟨h1, h2⟩ := h
  rcases h2 with ⟨x1, x2⟩ | ⟨x1, x2⟩
  · exact absurd x2 (by decide)
  · unfold tx_cap tx_dig tx_own at x2
    rcases x2 with ⟨x3, x4, -⟩ | ⟨x3, x4, -⟩ | ⟨x3, x4, -⟩ | ⟨x3, q, x5, x6⟩ | ⟨x3, x4⟩ | ⟨x3, x4, -⟩ | ⟨-, -, -, -, -, -, x9⟩
    · exact absurd x4 (by decide)
    · exact absurd x4 (by decide)
    · exact absurd x4 (by decide)
    · rcases x6 with ⟨u1, u2, u3, u4, u5, u6, u7⟩ | ⟨u1, u2⟩
      · have lo : ∀ j, p + 1 ≤ j → j < q → tx_low (c j.toNat) := fun j j0 j1 => (x5.2.1 j j0 j1).2
        obtain ⟨m, hm⟩ : ∃ m : Nat, (q - (p + 1)).toNat = m + 1 := ⟨(q - (p + 1)).toNat - 1, by omega⟩
        rw [hm] at u6
        have b := tx_code_b (c := c) m (p + 1 + 1) (fun j j0 j1 => lo j (by omega) (by omega))
        have b1 := lo (p + 1) (Int.le_refl _) u1
        have e6 : v = (c (p + 1).toNat - 96) + 32 * tx_code c (p + 1 + 1) m := u6
        obtain ⟨b2, b3⟩ := b1
        have hm4 : m = 0 ∨ m = 1 ∨ m = 2 ∨ m = 3 ∨ m = 4 := by omega
        obtain ⟨b4, b5⟩ := b
        rcases hm4 with rfl | rfl | rfl | rfl | rfl
        · have b6 : tx_code c (p + 1 + 1) 0 < 1 := b5
          omega
        · have b6 : tx_code c (p + 1 + 1) 1 < 32 := b5
          omega
        · have b6 : tx_code c (p + 1 + 1) 2 < 1024 := b5
          omega
        · have b6 : tx_code c (p + 1 + 1) 3 < 32768 := b5
          omega
        · have b6 : tx_code c (p + 1 + 1) 4 < 1048576 := b5
          omega
      · exact absurd u2 (by decide)
    · rcases x4 with ⟨-, -, u3, -⟩ | ⟨-, u2⟩
      · exact absurd u3 (by decide)
      · exact absurd u2 (by decide)
    · exfalso; omega
    · exact absurd x9 (by decide)
/-- behind the number that a part is: + and a digit, or nothing -/
def fp_R (n : Int) (c : Nat → Int) (g1 : wk_g) (e : Int) (g' : wk_g) (a' : Int) : Prop := ∃ t2 v2 p2 e2, tk_T n c e t2 v2 p2 e2 ∧ ((t2 ≠ 43 ∧ g' = g1 ∧ a' = e) ∨ (t2 = 43 ∧ ∃ v3 p3, tk_T n c e2 5 v3 p3 a' ∧ g' = rf_word g1 (g1 0 0 - 1) v3))
def fp_N (n : Int) (c : Nat → Int) (e p3 : Int) : Prop := ∃ v2 p2 e2 t3 v3 e3, tk_T n c e 43 v2 p2 e2 ∧ tk_T n c e2 t3 v3 p3 e3 ∧ t3 ≠ 5
/-- rows, where the next token begins, whether a part is due, may be repeated, may be paired -/
abbrev ft_X : Type := wk_g × Int × Int × Int × Int
def ft_p (g : wk_g) : Int := if g 151 (g 0 5).toNat = 0 then 1 else 0
def ft_P (n : Int) (c : Nat → Int) (x : ft_X) (t v p e : Int) (y : ft_X) : Prop := ¬ rp_N x.1 t v ∧ ∃ g1, rp_R x.1 t v p g1 ∧ ((t = 40 ∧ y = (g1, e, 1, 0, 0)) ∨ (t ≠ 40 ∧ ∃ g2 a2, ((t = 1 ∧ so_r v = 1) → fp_R n c g1 e g2 a2) ∧ (¬ (t = 1 ∧ so_r v = 1) → g2 = g1 ∧ a2 = e) ∧ y = (g2, a2, 0, 1, ft_p x.1)))
def ft_M (x : ft_X) (t p e : Int) (y : ft_X) : Prop :=
  ((t = 42 ∨ t = 63) ∧ x.2.2.2.1 ≠ 0 ∧ y = (rf_wrap x.1 (x.1 150 (x.1 0 5).toNat) (if t = 42 then 1 else 2) p, e, 0, 0, x.2.2.2.2)) ∨
  (t = 126 ∧ x.2.2.2.2 ≠ 0 ∧ y = (rf_swap x.1, e, 1, 0, 0)) ∨
  (t = 124 ∧ x.1 130 (x.1 146 (x.1 0 5).toNat).toNat ≠ 6 ∧ y = (rf_beg x.1 p, e, 1, x.2.2.2.1, x.2.2.2.2)) ∨
  (t = 41 ∧ 0 < x.1 0 5 ∧ y = (rf_put (rf_lvl x.1 (x.1 0 5 - 1)) (x.1 148 (x.1 0 5).toNat), e, 0, 1, ft_p (rf_lvl x.1 (x.1 0 5 - 1))))
/-- a turn -/
def ft_T (n : Int) (c : Nat → Int) (x y : ft_X) : Prop := ∃ t v p e, tk_T n c x.2.1 t v p e ∧ ((ip_t t v ∧ ft_P n c x t v p e y) ∨ (¬ ip_t t v ∧ x.2.2.1 = 0 ∧ ft_M x t p e y))
/-- a fault -/
def ft_F (n : Int) (c : Nat → Int) (x : ft_X) (f : Int) : Prop := ∃ t v p e, tk_T n c x.2.1 t v p e ∧ (
  (ip_t t v ∧ rp_N x.1 t v ∧ f = 3 + 16 * p) ∨
  (ip_t t v ∧ ¬ rp_N x.1 t v ∧ (t = 1 ∧ so_r v = 1) ∧ ∃ p3, fp_N n c e p3 ∧ f = 1 + 16 * p3) ∨
  (¬ ip_t t v ∧ x.2.2.1 ≠ 0 ∧ f = 1 + 16 * p) ∨
  (¬ ip_t t v ∧ x.2.2.1 = 0 ∧ t = 124 ∧ x.1 130 (x.1 146 (x.1 0 5).toNat).toNat = 6 ∧ f = 3 + 16 * p) ∨
  (¬ ip_t t v ∧ x.2.2.1 = 0 ∧ ¬ ((t = 42 ∨ t = 63) ∧ x.2.2.2.1 ≠ 0) ∧ ¬ (t = 126 ∧ x.2.2.2.2 ≠ 0) ∧ t ≠ 124 ∧ ¬ (t = 41 ∧ 0 < x.1 0 5) ∧ ¬ (t = 59 ∧ x.1 0 5 ≤ 0) ∧ f = 1 + 16 * p))
/-- the end of a rule -/
def ft_E (n : Int) (c : Nat → Int) (x : ft_X) (a : Int) : Prop := ∃ v p, tk_T n c x.2.1 59 v p a ∧ x.2.2.1 = 0 ∧ x.1 0 5 ≤ 0
def ft_Tr (n : Int) (c : Nat → Int) : Nat → ft_X → ft_X → Prop
  | 0, x, y => x = y
  | k + 1, x, y => ∃ z, ft_T n c x z ∧ ft_Tr n c k z y
section FTU
variable {n : Int} {c : Nat → Int} {x y y' : ft_X} {f f' a a' : Int}
theorem ip_n0 {v : Int} : ¬ ip_t 0 v := fun h => by unfold ip_t at h; omega
theorem ip_n6 {v : Int} : ¬ ip_t 6 v := fun h => by unfold ip_t at h; omega
theorem ip_ne {t v : Int} (h : ip_t t v) : t ≠ 0 ∧ t ≠ 6 := by unfold ip_t at h; omega
theorem ip_59 {v : Int} : ¬ ip_t 59 v := fun h => by unfold ip_t at h; omega
theorem fp_u {g1 g2 g3 : wk_g} {e a2 a3 : Int} (h : fp_R n c g1 e g2 a2) (h' : fp_R n c g1 e g3 a3) : g2 = g3 ∧ a2 = a3 := by
  obtain ⟨t, v, p, e2, k1, k2⟩ := h
  obtain ⟨t', v', p', e2', k1', k2'⟩ := h'
  obtain ⟨u1, u2, u3⟩ := tk_u k1 k1'
  rcases k2 with ⟨x1, x2, x3⟩ | ⟨x1, w, q, x2, x3⟩
  · rcases k2' with ⟨y1, y2, y3⟩ | ⟨y1, -⟩
    · exact ⟨x2.trans y2.symm, x3.trans y3.symm⟩
    · omega
  · rcases k2' with ⟨y1, -⟩ | ⟨y1, w', q', y2, y3⟩
    · omega
    · obtain ⟨u4, u5⟩ := u3 (by omega) (by omega)
      subst u5
      obtain ⟨-, -, w3⟩ := tk_u x2 y2
      obtain ⟨w4, w5⟩ := w3 (by decide) (by decide)
      rw [w4] at x3
      exact ⟨x3.trans y3.symm, w5⟩
theorem fp_n {g1 g2 : wk_g} {e a2 p3 : Int} (h : fp_R n c g1 e g2 a2) (h' : fp_N n c e p3) : False := by
  obtain ⟨t, v, p, e2, k1, k2⟩ := h
  obtain ⟨v', p', e2', t3, v3, e3, k1', k2', k3'⟩ := h'
  obtain ⟨u1, u2, u3⟩ := tk_u k1 k1'
  rcases k2 with ⟨x1, -⟩ | ⟨x1, w, q, x2, x3⟩
  · omega
  · obtain ⟨u4, u5⟩ := u3 (by omega) (by omega)
    subst u5
    exact k3' (tk_u x2 k2').1.symm
theorem fp_nu {e p3 p4 : Int} (h : fp_N n c e p3) (h' : fp_N n c e p4) : p3 = p4 := by
  obtain ⟨v, p, e2, t3, v3, e3, k1, k2, k3⟩ := h
  obtain ⟨v', p', e2', t3', v3', e3', k1', k2', k3'⟩ := h'
  obtain ⟨u4, u5⟩ := (tk_u k1 k1').2.2 (by decide) (by decide)
  subst u5
  exact (tk_u k2 k2').2.1
theorem ft_Mu {t p e : Int} (h : ft_M x t p e y) (h' : ft_M x t p e y') : y = y' := by
  rcases h with ⟨x1, x2, x3⟩ | ⟨x1, x2, x3⟩ | ⟨x1, x2, x3⟩ | ⟨x1, x2, x3⟩ <;> rcases h' with ⟨y1, y2, y3⟩ | ⟨y1, y2, y3⟩ | ⟨y1, y2, y3⟩ | ⟨y1, y2, y3⟩ <;> first | exact x3.trans y3.symm | (exfalso; omega)
theorem ft_Mn {t p e : Int} (h : ft_M x t p e y) : t ≠ 0 ∧ t ≠ 6 ∧ t ≠ 59 := by
  rcases h with ⟨x1, -⟩ | ⟨x1, -⟩ | ⟨x1, -⟩ | ⟨x1, -⟩ <;> omega
theorem ft_u (h : ft_T n c x y) (h' : ft_T n c x y') : y = y' := by
  obtain ⟨t, v, p, e, k1, k2⟩ := h
  obtain ⟨t', v', p', e', k1', k2'⟩ := h'
  obtain ⟨u1, u2, u3⟩ := tk_u k1 k1'
  subst u1
  subst u2
  have nn : t ≠ 0 ∧ t ≠ 6 := by
    rcases k2 with ⟨x1, -⟩ | ⟨-, -, x3⟩
    · exact ip_ne x1
    · have := ft_Mn x3
      omega
  obtain ⟨u4, u5⟩ := u3 nn.1 nn.2
  subst u4
  subst u5
  rcases k2 with ⟨x1, x2, g1, x3, x4⟩ | ⟨x1, x2, x3⟩
  · rcases k2' with ⟨y1, y2, g1', y3, y4⟩ | ⟨y1, -⟩
    · have := rp_u x3 y3
      subst this
      rcases x4 with ⟨z1, z2⟩ | ⟨z1, g2, a2, z2, z3, z4⟩
      · rcases y4 with ⟨w1, w2⟩ | ⟨w1, -⟩
        · exact z2.trans w2.symm
        · exact absurd z1 w1
      · rcases y4 with ⟨w1, -⟩ | ⟨w1, g2', a2', w2, w3, w4⟩
        · exact absurd w1 z1
        · by_cases cn : t = 1 ∧ so_r v = 1
          · obtain ⟨s1, s2⟩ := fp_u (z2 cn) (w2 cn)
            rw [z4, w4, s1, s2]
          · obtain ⟨s1, s2⟩ := z3 cn
            obtain ⟨s3, s4⟩ := w3 cn
            rw [z4, w4, s1, s2, s3, s4]
    · exact absurd x1 y1
  · rcases k2' with ⟨y1, -⟩ | ⟨y1, y2, y3⟩
    · exact absurd y1 x1
    · exact ft_Mu x3 y3
theorem ft_TE (h : ft_T n c x y) (h' : ft_E n c x a) : False := by
  obtain ⟨t, v, p, e, k1, k2⟩ := h
  obtain ⟨v', p', k1', k2', k3'⟩ := h'
  have e1 := (tk_u k1 k1').1
  subst e1
  rcases k2 with ⟨x1, -⟩ | ⟨-, -, x3⟩
  · exact ip_59 x1
  · exact (ft_Mn x3).2.2 rfl
theorem ft_TF (h : ft_T n c x y) (h' : ft_F n c x f) : False := by
  obtain ⟨t, v, p, e, k1, k2⟩ := h
  obtain ⟨t', v', p', e', k1', k2'⟩ := h'
  obtain ⟨u1, u2, u3⟩ := tk_u k1 k1'
  subst u1
  subst u2
  have nn : t ≠ 0 ∧ t ≠ 6 := by
    rcases k2 with ⟨x1, -⟩ | ⟨-, -, x3⟩
    · exact ip_ne x1
    · have := ft_Mn x3
      omega
  obtain ⟨u4, u5⟩ := u3 nn.1 nn.2
  subst u4
  subst u5
  rcases k2 with ⟨x1, x2, g1, x3, x4⟩ | ⟨x1, x2, x3⟩
  · rcases k2' with ⟨-, y2, -⟩ | ⟨-, -, y3, p3, y4, -⟩ | ⟨y1, -⟩ | ⟨y1, -⟩ | ⟨y1, -⟩
    · exact x2 y2
    · rcases x4 with ⟨z1, -⟩ | ⟨z1, g2, a2, z2, z3, z4⟩
      · omega
      · exact fp_n (z2 y3) y4
    · exact y1 x1
    · exact y1 x1
    · exact y1 x1
  · rcases k2' with ⟨y1, -⟩ | ⟨y1, -⟩ | ⟨-, y2, -⟩ | ⟨-, -, y3, y4, -⟩ | ⟨-, -, y3, y4, y5, y6, -⟩
    · exact x1 y1
    · exact x1 y1
    · exact y2 x2
    · rcases x3 with ⟨w1, -⟩ | ⟨w1, -⟩ | ⟨w1, w2, -⟩ | ⟨w1, -⟩
      · omega
      · omega
      · exact w2 y4
      · omega
    · rcases x3 with ⟨w1, w2, -⟩ | ⟨w1, w2, -⟩ | ⟨w1, w2, -⟩ | ⟨w1, w2, -⟩
      · exact y3 ⟨w1, w2⟩
      · exact y4 ⟨w1, w2⟩
      · exact y5 w1
      · exact y6 ⟨w1, w2⟩
theorem ft_EF (h : ft_E n c x a) (h' : ft_F n c x f) : False := by
  obtain ⟨v, p, k1, k2, k3⟩ := h
  obtain ⟨t', v', p', e', k1', k2'⟩ := h'
  have e1 := (tk_u k1 k1').1
  subst e1
  rcases k2' with ⟨y1, -⟩ | ⟨y1, -⟩ | ⟨-, y2, -⟩ | ⟨-, -, y3, -⟩ | ⟨-, -, -, -, -, -, y7, -⟩
  · exact ip_59 y1
  · exact ip_59 y1
  · exact y2 k2
  · exact absurd y3 (by decide)
  · exact y7 ⟨rfl, k3⟩
theorem ft_Eu (h : ft_E n c x a) (h' : ft_E n c x a') : a = a' := by
  obtain ⟨v, p, k1, k2, k3⟩ := h
  obtain ⟨v', p', k1', k2', k3'⟩ := h'
  exact ((tk_u k1 k1').2.2 (by decide) (by decide)).2
theorem ft_Fu (h : ft_F n c x f) (h' : ft_F n c x f') : f = f' := by
  obtain ⟨t, v, p, e, k1, k2⟩ := h
  obtain ⟨t', v', p', e', k1', k2'⟩ := h'
  obtain ⟨u1, u2, u3⟩ := tk_u k1 k1'
  subst u1
  subst u2
  by_cases ci : ip_t t v
  · obtain ⟨n0, n6⟩ := ip_ne ci
    obtain ⟨u4, u5⟩ := u3 n0 n6
    subst u4
    subst u5
    rcases k2 with ⟨-, x2, x3⟩ | ⟨-, x2, x3, p3, x4, x5⟩ | ⟨x1, -⟩ | ⟨x1, -⟩ | ⟨x1, -⟩
    · rcases k2' with ⟨-, y2, y3⟩ | ⟨-, y2, -⟩ | ⟨y1, -⟩ | ⟨y1, -⟩ | ⟨y1, -⟩
      · omega
      · exact absurd x2 y2
      all_goals exact absurd ci y1
    · rcases k2' with ⟨-, y2, y3⟩ | ⟨-, y2, y3, p4, y4, y5⟩ | ⟨y1, -⟩ | ⟨y1, -⟩ | ⟨y1, -⟩
      · exact absurd y2 x2
      · have := fp_nu x4 y4
        omega
      all_goals exact absurd ci y1
    all_goals exact absurd ci x1
  · have ci' : ¬ ip_t t v' := fun z => by
      obtain ⟨n0, n6⟩ := ip_ne z
      obtain ⟨u4, -⟩ := u3 n0 n6
      rw [← u4] at z
      exact ci z
    rcases k2 with ⟨x1, -⟩ | ⟨x1, -⟩ | ⟨-, x2, x3⟩ | ⟨-, x2, x3, x4, x5⟩ | ⟨-, x2, x3, x4, x5, x6, x7, x8⟩
    · exact absurd x1 ci
    · exact absurd x1 ci
    all_goals
      rcases k2' with ⟨y1, -⟩ | ⟨y1, -⟩ | ⟨-, y2, y3⟩ | ⟨-, y2, y3, y4, y5⟩ | ⟨-, y2, y3, y4, y5, y6, y7, y8⟩
      · exact absurd y1 ci'
      · exact absurd y1 ci'
      all_goals first | omega | (exfalso; contradiction)
theorem ft_snoc {z : ft_X} : ∀ (k : Nat) (x : ft_X), ft_Tr n c k x y → ft_T n c y z → ft_Tr n c (k + 1) x z := by
  intro k
  induction k with
  | zero => intro x h h'; exact ⟨z, by have e : x = y := h; rw [e]; exact h', rfl⟩
  | succ k ih => intro x h h'; obtain ⟨w, h1, h2⟩ := h; exact ⟨w, h1, ih w h2 h'⟩
theorem ft_app {z : ft_X} {j : Nat} (h' : ft_Tr n c j y z) : ∀ (k : Nat) (x : ft_X), ft_Tr n c k x y → ∃ i, ft_Tr n c i x z := by
  intro k
  induction k with
  | zero => intro x h; exact ⟨j, by have e : x = y := h; rw [e]; exact h'⟩
  | succ k ih => intro x h; obtain ⟨w, h1, h2⟩ := h; obtain ⟨i, h3⟩ := ih w h2; exact ⟨i + 1, w, h1, h3⟩
/-- it goes to its end; it goes to a fault -/
def ft_D (n : Int) (c : Nat → Int) (x y : ft_X) (a : Int) : Prop := ∃ k, ft_Tr n c k x y ∧ ft_E n c y a
def ft_B (n : Int) (c : Nat → Int) (x : ft_X) (f : Int) : Prop := ∃ k y, ft_Tr n c k x y ∧ ft_F n c y f
theorem ft_pre {z : ft_X} (hd : ft_E n c y a ∨ ft_F n c y f) : ∀ (k : Nat) (x : ft_X), ft_Tr n c k x y → ∀ k', ft_Tr n c k' x z → ∃ j, ft_Tr n c j z y := by
  intro k
  induction k with
  | zero =>
    intro x h k' h'
    cases k' with
    | zero => exact ⟨0, by have e : x = y := h; have e' : x = z := h'; exact e'.symm.trans e⟩
    | succ k' =>
      obtain ⟨w, h1, -⟩ := h'
      have e : x = y := h
      rw [e] at h1
      rcases hd with q | q
      · exact (ft_TE h1 q).elim
      · exact (ft_TF h1 q).elim
  | succ k ih =>
    intro x h k' h'
    cases k' with
    | zero => exact ⟨k + 1, by have e : x = z := h'; rw [← e]; exact h⟩
    | succ k' =>
      obtain ⟨w, h1, h2⟩ := h
      obtain ⟨w', h1', h2'⟩ := h'
      have e := ft_u h1 h1'
      rw [← e] at h2'
      exact ih w h2 k' h2'
theorem ft_end0 {z : ft_X} {f' : Int} {j : Nat} (h : ft_Tr n c j z y) (hz : ft_E n c z a' ∨ ft_F n c z f') : z = y := by
  cases j with
  | zero => exact h
  | succ j =>
    obtain ⟨w, h1, -⟩ := h
    rcases hz with q | q
    · exact (ft_TE h1 q).elim
    · exact (ft_TF h1 q).elim
theorem ft_DD (h : ft_D n c x y a) (h' : ft_D n c x y' a') : y = y' ∧ a = a' := by
  obtain ⟨k, h1, h2⟩ := h
  obtain ⟨k', h1', h2'⟩ := h'
  obtain ⟨j, h3⟩ := ft_pre (f := 0) (Or.inl h2) k x h1 k' h1'
  have e := ft_end0 (f' := 0) h3 (Or.inl h2')
  rw [e] at h2'
  exact ⟨e.symm, ft_Eu h2 h2'⟩
theorem ft_DB (h : ft_D n c x y a) (h' : ft_B n c x f) : False := by
  obtain ⟨k, h1, h2⟩ := h
  obtain ⟨k', y', h1', h2'⟩ := h'
  obtain ⟨j, h3⟩ := ft_pre (f := 0) (Or.inl h2) k x h1 k' h1'
  have e := ft_end0 (a' := 0) h3 (Or.inr h2')
  rw [e] at h2'
  exact ft_EF h2 h2'
theorem ft_BB (h : ft_B n c x f) (h' : ft_B n c x f') : f = f' := by
  obtain ⟨k, y, h1, h2⟩ := h
  obtain ⟨k', y', h1', h2'⟩ := h'
  obtain ⟨j, h3⟩ := ft_pre (a := 0) (Or.inr h2) k x h1 k' h1'
  have e := ft_end0 (a' := 0) h3 (Or.inr h2')
  rw [e] at h2'
  exact ft_Fu h2 h2'
end FTU
