/-! the reference's form from its begin, readRule, read, exactly -/
def rf_rule (g : wk_g) (v p : Int) : wk_g := fun r i =>
  if r = 0 then (if i = 2 then g 0 2 + 1 else if i = 3 then g 0 3 + 1 else if i = 5 then 0 else g 0 i)
  else if r = 113 then (if i = (g 0 3).toNat then p else g 113 i)
  else if r = 114 then (if i = (g 0 3).toNat then g 0 2 else g 114 i)
  else if r = 115 then (if i = v.toNat then g 0 3 else g 115 i)
  else if r = 129 then (if i = (g 0 2).toNat then -1 else g 129 i)
  else if r = 130 then (if i = (g 0 2).toNat then 0 else g 130 i)
  else if r = 146 then (if i = 0 then g 0 2 else g 146 i)
  else g r i
theorem RQ_rule {g : wk_g} {h h' : sm_H} {v p : Int} (hq : RQ g h) (hS : ab_Sh sx_sk h) (hF : ab_Fr [(13961, 13962), (13965, 13966), (14003, 14004), (14464, 14721), (16512, 16513), (16640, 16641), (18688, 18689)] h h') (fF : mi_f h' 13965 = mi_f h 13965 + 1) (fR : mi_f h' 13961 = mi_f h 13961 + 1) (f5 : mi_f h' 14003 = 0) (h113 : ∀ i, mi_a h' 113 i = if i = (mi_f h 13961).toNat then p else mi_a h 113 i) (h114 : ∀ i, mi_a h' 114 i = if i = (mi_f h 13961).toNat then mi_f h 13965 else mi_a h 114 i) (h115 : ∀ i, mi_a h' 115 i = if i = v.toNat then mi_f h 13961 else mi_a h 115 i) (h129 : ∀ i, mi_a h' 129 i = if i = (mi_f h 13965).toNat then -1 else mi_a h 129 i) (h130 : ∀ i, mi_a h' 130 i = if i = (mi_f h 13965).toNat then 0 else mi_a h 130 i) (h146 : ∀ i, mi_a h' 146 i = if i = 0 then mi_f h 13965 else mi_a h 146 i) : RQ (rf_rule g v p) h' := by
  obtain ⟨⟨q0, q1, q2, q3, q4, q5⟩, qa, ql⟩ := id hq
  have e := fun r (hr : r ∈ rk_L) => qa r hr
  refine ⟨⟨?_, ?_, ?_, ?_, ?_, ?_⟩, fun r hr i => ?_, fun i => ?_⟩
  · exact q0.trans (me_f (c := 13963) hF hS rfl rfl).symm
  · exact q1.trans (me_f (c := 13964) hF hS rfl rfl).symm
  · show g 0 2 + 1 = _
    rw [fF, q2]
  · show g 0 3 + 1 = _
    rw [fR, q3]
  · exact q4.trans (me_f (c := 13962) hF hS rfl rfl).symm
  · show 0 = _
    rw [f5]
  · have k := hr
    simp only [rk_L, List.mem_cons, List.not_mem_nil, or_false] at k
    rcases k with rfl | rfl | rfl | rfl | rfl | rfl | rfl | rfl | rfl | rfl | rfl | rfl | rfl | rfl | rfl | rfl | rfl | rfl | rfl | rfl | rfl
    all_goals
      first
        | exact RQ_st hq hS hF hr rfl rfl i
        | (show (if i = (g 0 3).toNat then p else g 113 i) = mi_a h' 113 i
           rw [h113, q3, e 113 (by decide)])
        | (show (if i = (g 0 3).toNat then g 0 2 else g 114 i) = mi_a h' 114 i
           rw [h114, q3, q2, e 114 (by decide)])
        | (show (if i = v.toNat then g 0 3 else g 115 i) = mi_a h' 115 i
           rw [h115, q3, e 115 (by decide)])
        | (show (if i = (g 0 2).toNat then -1 else g 129 i) = mi_a h' 129 i
           rw [h129, q2, e 129 (by decide)])
        | (show (if i = (g 0 2).toNat then 0 else g 130 i) = mi_a h' 130 i
           rw [h130, q2, e 130 (by decide)])
        | (show (if i = 0 then g 0 2 else g 146 i) = mi_a h' 146 i
           rw [h146, q2, e 146 (by decide)])
  · show g 117 i = _
    rw [ql, lc_fr hS hF rfl rfl]
def ru_x (g : wk_g) (v p a : Int) : ft_X := (rf_beg (rf_lvl (rf_rule g v p) 0) 0, a, 1, 0, 0)
/-- a rule is read -/
def ru_T (n : Int) (c : Nat → Int) (s s' : wk_g × Int) : Prop := ∃ v p e v2 p2 e2 y, tk_T n c s.2 2 v p e ∧ s.1 115 v.toNat < 0 ∧ s.1 0 3 ≠ 10 ∧ tk_T n c e 61 v2 p2 e2 ∧ ft_D n c (ru_x s.1 v p e2) y s'.2 ∧ s'.1 = y.1
/-- a fault in a rule -/
def ru_F (n : Int) (c : Nat → Int) (s : wk_g × Int) (f : Int) : Prop := ∃ t v p e, tk_T n c s.2 t v p e ∧ ¬ (t = 0 ∧ s.1 0 3 ≠ 0) ∧ ((t ≠ 2 ∧ f = 1 + 16 * p) ∨ (t = 2 ∧ 0 ≤ s.1 115 v.toNat ∧ f = 2 + 16 * p) ∨ (t = 2 ∧ s.1 115 v.toNat < 0 ∧ s.1 0 3 = 10 ∧ f = 3 + 16 * p) ∨ (t = 2 ∧ s.1 115 v.toNat < 0 ∧ s.1 0 3 ≠ 10 ∧ ∃ t2 v2 p2 e2, tk_T n c e t2 v2 p2 e2 ∧ ((t2 ≠ 61 ∧ f = 1 + 16 * p2) ∨ (t2 = 61 ∧ ft_B n c (ru_x s.1 v p e2) f))))
def rz_E (n : Int) (c : Nat → Int) (s : wk_g × Int) : Prop := (∃ v p e, tk_T n c s.2 0 v p e) ∧ s.1 0 3 ≠ 0
def ru_Tr (n : Int) (c : Nat → Int) : Nat → wk_g × Int → wk_g × Int → Prop
  | 0, x, y => x = y
  | k + 1, x, y => ∃ z, ru_T n c x z ∧ ru_Tr n c k z y
def rz_D (n : Int) (c : Nat → Int) (g0 g : wk_g) : Prop := ∃ k a, ru_Tr n c k (g0, 0) (g, a) ∧ rz_E n c (g, a)
def rz_U (g : wk_g) : Prop := ∀ u : Nat, (u : Int) < g 0 0 → g 119 u = 9 → 0 ≤ g 115 (g 120 u).toNat
def rz_N (g : wk_g) (f : Int) : Prop := ∃ u : Nat, (u : Int) < g 0 0 ∧ g 119 u = 9 ∧ g 115 (g 120 u).toNat < 0 ∧ (∀ j : Nat, j < u → g 119 j = 9 → 0 ≤ g 115 (g 120 j).toNat) ∧ f = 4 + 16 * g 121 u
def rz_R (n : Int) (c : Nat → Int) (g0 : wk_g) (f : Int) : Prop := ∃ k s, ru_Tr n c k (g0, 0) s ∧ ru_F n c s f
def rz_B (n : Int) (c : Nat → Int) (g0 : wk_g) (f : Int) : Prop := rz_R n c g0 f ∨ ∃ g, rz_D n c g0 g ∧ rz_N g f
def rz_0 (g : wk_g) : Prop := (g 0 0 = 0 ∧ g 0 1 = 0 ∧ g 0 2 = 0 ∧ g 0 3 = 0 ∧ g 0 4 = 0) ∧ ∀ i : Nat, i < 26 → g 115 i = -1
section RUU
variable {n : Int} {c : Nat → Int} {s s' s'' : wk_g × Int} {f f' : Int} {g0 g g' : wk_g}
theorem ru_u (h : ru_T n c s s') (h' : ru_T n c s s'') : s' = s'' := by
  obtain ⟨v, p, e, v2, p2, e2, y, k1, -, -, k4, k5, k6⟩ := h
  obtain ⟨v', p', e', v2', p2', e2', y', k1', -, -, k4', k5', k6'⟩ := h'
  obtain ⟨-, a2, a3⟩ := tk_u k1 k1'
  obtain ⟨a4, a5⟩ := a3 (by decide) (by decide)
  subst a2
  subst a4
  subst a5
  obtain ⟨-, -, b3⟩ := tk_u k4 k4'
  obtain ⟨-, b5⟩ := b3 (by decide) (by decide)
  subst b5
  obtain ⟨c1, c2⟩ := ft_DD k5 k5'
  rw [c1] at k6
  exact Prod.ext (k6.trans k6'.symm) c2
theorem ru_TF (h : ru_T n c s s') (h' : ru_F n c s f) : False := by
  obtain ⟨v, p, e, v2, p2, e2, y, k1, k2, k3, k4, k5, k6⟩ := h
  obtain ⟨t, v', p', e', k1', -, k2'⟩ := h'
  obtain ⟨a1, a2, a3⟩ := tk_u k1 k1'
  obtain ⟨a4, a5⟩ := a3 (by decide) (by decide)
  subst a1
  subst a2
  subst a4
  subst a5
  rcases k2' with ⟨x1, -⟩ | ⟨-, x2, -⟩ | ⟨-, -, x3, -⟩ | ⟨-, -, -, t2, w2, q2, d2, x4, x5⟩
  · exact x1 rfl
  · omega
  · exact k3 x3
  · obtain ⟨b1, -, b3⟩ := tk_u k4 x4
    obtain ⟨-, b5⟩ := b3 (by decide) (by decide)
    subst b5
    rcases x5 with ⟨y1, -⟩ | ⟨-, y2⟩
    · exact y1 b1.symm
    · exact ft_DB k5 y2
theorem ru_TE (h : ru_T n c s s') (h' : rz_E n c s) : False := by
  obtain ⟨v, p, e, v2, p2, e2, y, k1, -⟩ := h
  obtain ⟨⟨v', p', e', k1'⟩, -⟩ := h'
  exact absurd (tk_u k1 k1').1 (by decide)
theorem ru_EF (h : rz_E n c s) (h' : ru_F n c s f) : False := by
  obtain ⟨⟨v, p, e, k1⟩, k2⟩ := h
  obtain ⟨t, v', p', e', k1', k2', -⟩ := h'
  exact k2' ⟨(tk_u k1 k1').1.symm, k2⟩
theorem ru_Fu (h : ru_F n c s f) (h' : ru_F n c s f') : f = f' := by
  obtain ⟨t, v, p, e, k1, -, k2⟩ := h
  obtain ⟨t', v', p', e', k1', -, k2'⟩ := h'
  obtain ⟨a1, a2, a3⟩ := tk_u k1 k1'
  subst a1
  subst a2
  by_cases c2 : t = 2
  · obtain ⟨a4, a5⟩ := a3 (by omega) (by omega)
    subst a4
    subst a5
    rcases k2 with ⟨x1, -⟩ | ⟨-, x2, x3⟩ | ⟨-, x2, x3, x4⟩ | ⟨-, x2, x3, t2, w2, q2, d2, x4, x5⟩
    · exact absurd c2 x1
    · rcases k2' with ⟨y1, -⟩ | ⟨-, y2, y3⟩ | ⟨-, y2, -⟩ | ⟨-, y2, -⟩
      · exact absurd c2 y1
      · omega
      · omega
      · omega
    · rcases k2' with ⟨y1, -⟩ | ⟨-, y2, y3⟩ | ⟨-, y2, y3, y4⟩ | ⟨-, y2, y3, -⟩
      · exact absurd c2 y1
      · omega
      · omega
      · omega
    · rcases k2' with ⟨y1, -⟩ | ⟨-, y2, y3⟩ | ⟨-, y2, y3, y4⟩ | ⟨-, y2, y3, t2', w2', q2', d2', y4, y5⟩
      · exact absurd c2 y1
      · omega
      · omega
      · obtain ⟨b1, b2, b3⟩ := tk_u x4 y4
        rcases x5 with ⟨u1, u2⟩ | ⟨u1, u2⟩
        · rcases y5 with ⟨w1, w2⟩ | ⟨w1, w2⟩
          · omega
          · omega
        · rcases y5 with ⟨w1, w2⟩ | ⟨w1, w2⟩
          · omega
          · obtain ⟨-, b5⟩ := b3 (by omega) (by omega)
            subst b5
            exact ft_BB u2 w2
  · rcases k2 with ⟨-, x3⟩ | ⟨x1, -⟩ | ⟨x1, -⟩ | ⟨x1, -⟩
    · rcases k2' with ⟨-, y3⟩ | ⟨y1, -⟩ | ⟨y1, -⟩ | ⟨y1, -⟩
      · omega
      all_goals exact absurd y1 c2
    all_goals exact absurd x1 c2
theorem ru_snoc {z : wk_g × Int} : ∀ (k : Nat) (x : wk_g × Int), ru_Tr n c k x s → ru_T n c s z → ru_Tr n c (k + 1) x z := by
  intro k
  induction k with
  | zero => intro x h h'; exact ⟨z, by have e : x = s := h; rw [e]; exact h', rfl⟩
  | succ k ih => intro x h h'; obtain ⟨w, h1, h2⟩ := h; exact ⟨w, h1, ih w h2 h'⟩
theorem ru_pre {z : wk_g × Int} (hd : rz_E n c s ∨ ru_F n c s f) : ∀ (k : Nat) (x : wk_g × Int), ru_Tr n c k x s → ∀ k', ru_Tr n c k' x z → ∃ j, ru_Tr n c j z s := by
  intro k
  induction k with
  | zero =>
    intro x h k' h'
    cases k' with
    | zero => exact ⟨0, by have e : x = s := h; have e' : x = z := h'; exact e'.symm.trans e⟩
    | succ k' =>
      obtain ⟨w, h1, -⟩ := h'
      have e : x = s := h
      rw [e] at h1
      rcases hd with q | q
      · exact (ru_TE h1 q).elim
      · exact (ru_TF h1 q).elim
  | succ k ih =>
    intro x h k' h'
    cases k' with
    | zero => exact ⟨k + 1, by have e : x = z := h'; rw [← e]; exact h⟩
    | succ k' =>
      obtain ⟨w, h1, h2⟩ := h
      obtain ⟨w', h1', h2'⟩ := h'
      have e := ru_u h1 h1'
      rw [← e] at h2'
      exact ih w h2 k' h2'
theorem ru_end0 {z : wk_g × Int} {f' : Int} {j : Nat} (h : ru_Tr n c j z s) (hz : rz_E n c z ∨ ru_F n c z f') : z = s := by
  cases j with
  | zero => exact h
  | succ j =>
    obtain ⟨w, h1, -⟩ := h
    rcases hz with q | q
    · exact (ru_TE h1 q).elim
    · exact (ru_TF h1 q).elim
theorem rz_DD (h : rz_D n c g0 g) (h' : rz_D n c g0 g') : g = g' := by
  obtain ⟨k, a, h1, h2⟩ := h
  obtain ⟨k', a', h1', h2'⟩ := h'
  obtain ⟨j, h3⟩ := ru_pre (f := 0) (Or.inl h2) k _ h1 k' h1'
  have e := ru_end0 (f' := 0) h3 (Or.inl h2')
  exact (congrArg Prod.fst e).symm
theorem rz_DR (h : rz_D n c g0 g) (h' : rz_R n c g0 f) : False := by
  obtain ⟨k, a, h1, h2⟩ := h
  obtain ⟨k', s, h1', h2'⟩ := h'
  obtain ⟨j, h3⟩ := ru_pre (f := 0) (Or.inl h2) k _ h1 k' h1'
  have e := ru_end0 h3 (Or.inr h2')
  rw [e] at h2'
  exact ru_EF h2 h2'
theorem rz_RR (h : rz_R n c g0 f) (h' : rz_R n c g0 f') : f = f' := by
  obtain ⟨k, s, h1, h2⟩ := h
  obtain ⟨k', s', h1', h2'⟩ := h'
  obtain ⟨j, h3⟩ := ru_pre (Or.inr h2) k _ h1 k' h1'
  have e := ru_end0 h3 (Or.inr h2')
  rw [e] at h2'
  exact ru_Fu h2 h2'
theorem rz_NN (h : rz_N g f) (h' : rz_N g f') : f = f' := by
  obtain ⟨u, a1, a2, a3, a4, a5⟩ := h
  obtain ⟨w, b1, b2, b3, b4, b5⟩ := h'
  rcases Nat.lt_trichotomy u w with x | x | x
  · have := b4 u x a2
    omega
  · subst x
    omega
  · have := a4 w x b2
    omega
/-- read well and read with a fault exclude each other; and there is but one fault -/
theorem rz_xB (h : rz_D n c g0 g) (hu : rz_U g) (h' : rz_B n c g0 f) : False := by
  rcases h' with x | ⟨g', x1, u, b1, b2, b3, -⟩
  · exact rz_DR h x
  · have e := rz_DD h x1
    subst e
    have := hu u b1 b2
    omega
theorem rz_BB (h : rz_B n c g0 f) (h' : rz_B n c g0 f') : f = f' := by
  rcases h with x | ⟨g, x1, x2⟩ <;> rcases h' with y | ⟨g', y1, y2⟩
  · exact rz_RR x y
  · exact (rz_DR y1 x).elim
  · exact (rz_DR x1 y).elim
  · have e := rz_DD x1 y1
    subst e
    exact rz_NN x2 y2
end RUU
