/-! the class's reader beside the turns: its token; expect; is it one too many -/
theorem tk_k {n : Int} {c : Nat → Int} {a t v p e : Int} (h : tk_T n c a t v p e) : (0 ≤ t ∧ t ≤ 6) ∨ tx_own t := by
  obtain ⟨-, h2⟩ := h
  rcases h2 with ⟨x1, x2⟩ | ⟨x1, x2⟩
  · omega
  · rcases x2 with ⟨x3, x4, x5, x6⟩ | ⟨x3, x4, x5, x6⟩ | ⟨x3, x4, x5, x6⟩ | ⟨x3, q, x5, x6⟩ | ⟨x3, x4⟩ | ⟨x3, x4, x5, x6⟩ | ⟨x3, x4, x5, x6, x7, x8, x9⟩
    · omega
    · omega
    · omega
    · rcases x6 with ⟨-, -, -, -, u5, -⟩ | ⟨-, u2⟩ <;> omega
    · rcases x4 with ⟨-, -, u3, -⟩ | ⟨-, u2⟩ <;> omega
    · right; rw [x4]; exact x3
    · omega
theorem so_r_v (v : Int) : so_r v = -1 ∨ (1 ≤ so_r v ∧ so_r v ≤ 7) := by
  unfold so_r
  split
  · right; decide
  split
  · right; decide
  split
  · right; decide
  split
  · right; decide
  split
  · right; decide
  split
  · right; decide
  split
  · right; decide
  · left; rfl
/-- what the class's sort of a token says -/
theorem cs_i {n : Int} {c : Nat → Int} {a t v p e : Int} (h : tk_T n c a t v p e) : ((1 ≤ cs_t t v ∧ cs_t t v ≤ 10) ↔ ip_t t v) ∧ (cs_t t v = 9 ↔ t = 2) ∧ (cs_t t v = 8 ↔ (t = 3 ∨ t = 4)) ∧ (cs_t t v = 10 ↔ t = 40) ∧ (cs_t t v = 1 ↔ (t = 1 ∧ so_r v = 1)) ∧ (cs_t t v = 11 ↔ t = 5) ∧ (cs_t t v = 0 ↔ t = 0) ∧ (∀ k, 41 ≤ k → (cs_t t v = k ↔ t = k)) ∧ (ip_t t v → cs_t t v = pu_s t v) ∧ (0 ≤ cs_t t v ∧ cs_t t v ≤ 126) ∧ (ip_t t v → cs_t t v ≠ 12) := by
  have k := tk_k h
  have sr := so_r_v v
  unfold tx_own at k
  unfold ip_t pu_s
  by_cases c0 : t = 0
  · subst c0
    have e : cs_t 0 v = 0 := rfl
    rw [e]
    refine ⟨by omega, by omega, by omega, by omega, by omega, by omega, by omega, fun k hk => by omega, fun x => by omega, by omega, fun x => by omega⟩
  by_cases c1 : t = 1
  · subst c1
    have e : cs_t 1 v = if so_r v = -1 then 12 else so_r v := by
      show so_c v = _
      exact so_rc v
    rw [e]
    rcases sr with x | x
    · rw [if_pos x]
      refine ⟨by omega, by omega, by omega, by omega, by omega, by omega, by omega, fun k hk => by omega, fun x => by omega, by omega, fun x => by omega⟩
    · rw [if_neg (by omega)]
      refine ⟨by omega, by omega, by omega, by omega, by omega, by omega, by omega, fun k hk => by omega, fun x => ?_, by omega, fun x => by omega⟩
      rw [if_pos rfl]
  by_cases c2 : t = 2
  · subst c2
    have e : cs_t 2 v = 9 := rfl
    rw [e]
    refine ⟨by omega, by omega, by omega, by omega, by omega, by omega, by omega, fun k hk => by omega, fun x => ?_, by omega, fun x => by omega⟩
    rfl
  by_cases c3 : t = 3
  · subst c3
    have e : cs_t 3 v = 8 := rfl
    rw [e]
    refine ⟨by omega, by omega, by omega, by omega, by omega, by omega, by omega, fun k hk => by omega, fun x => ?_, by omega, fun x => by omega⟩
    rfl
  by_cases c4 : t = 4
  · subst c4
    have e : cs_t 4 v = 8 := rfl
    rw [e]
    refine ⟨by omega, by omega, by omega, by omega, by omega, by omega, by omega, fun k hk => by omega, fun x => ?_, by omega, fun x => by omega⟩
    rfl
  by_cases c5 : t = 5
  · subst c5
    have e : cs_t 5 v = 11 := rfl
    rw [e]
    refine ⟨by omega, by omega, by omega, by omega, by omega, by omega, by omega, fun k hk => by omega, fun x => by omega, by omega, fun x => by omega⟩
  by_cases c6 : t = 6
  · subst c6
    have e : cs_t 6 v = 12 := rfl
    rw [e]
    refine ⟨by omega, by omega, by omega, by omega, by omega, by omega, by omega, fun k hk => by omega, fun x => by omega, by omega, fun x => by omega⟩
  by_cases c40 : t = 40
  · subst c40
    have e : cs_t 40 v = 10 := rfl
    rw [e]
    refine ⟨by omega, by omega, by omega, by omega, by omega, by omega, by omega, fun k hk => by omega, fun x => ?_, by omega, fun x => by omega⟩
    rfl
  · have e : cs_t t v = t := by
      unfold cs_t
      rw [if_neg c0, if_neg c1, if_neg c2, if_neg (by omega), if_neg c5, if_neg c6, if_neg c40]
    rw [e]
    refine ⟨by omega, by omega, by omega, by omega, by omega, by omega, by omega, fun k hk => by omega, fun x => by omega, by omega, fun x => by omega⟩
/-- the class looks at the token at a -/
def CT (n : Int) (c : Nat → Int) (h : sm_H) (a t v e : Int) : Prop := tk_T n c a t v (mi_f h 9858) e ∧ mi_f h 9859 = cs_t t v ∧ (t ≠ 0 → t ≠ 6 → cs_t t v ≠ 12 → mi_f h 9860 = cc_t t v ∧ mi_f h 9857 = e)
/-- its text -/
def CX (n : Int) (c : Nat → Int) (h : sm_H) : Prop := ab_Sh sx_sk h ∧ mi_f h 6657 = n ∧ mi_a h 53 = c ∧ cx_ok h ∧ mi_f h 9731 = 0
def cw_W : List (Nat × Nat) := [(7680, 9984)]
section KSY
variable {d : Nat} {n : Int} {c : Nat → Int} {h h' : sm_H} {a t v e : Int}
theorem CX_fr (hx : CX n c h) (hS : ab_Sh sx_sk h') {wr : List (Nat × Nat)} (hF : ab_Fr wr h h') (hw : (ab_in wr 6657 || ab_in wr 6784 || ab_in wr 9731) = false) : CX n c h' := by
  simp only [Bool.or_eq_false_iff] at hw
  obtain ⟨x1, x2, x3, x4, x5⟩ := hx
  have e1 : mi_f h' 6657 = mi_f h 6657 := me_f (c := 6657) hF x1 rfl hw.1.1
  have e2 : ∀ i, mi_a h' 53 i = mi_a h 53 i := fun i => me_a (k := 53) hF x1 rfl hw.1.2
  refine ⟨hS, e1.trans x2, (funext e2).trans x3, fun i hi => ?_, (me_f (c := 9731) hF x1 rfl hw.2).trans x5⟩
  rw [e1] at hi
  rw [e2]
  exact x4 i hi
theorem CT_fr (ht : CT n c h a t v e) (hS : ab_Sh sx_sk h) {wr : List (Nat × Nat)} (hF : ab_Fr wr h h') (hw : (ab_in wr 9857 || ab_in wr 9858 || ab_in wr 9859 || ab_in wr 9860) = false) : CT n c h' a t v e := by
  simp only [Bool.or_eq_false_iff] at hw
  unfold CT at ht ⊢
  rw [me_f (c := 9857) hF hS rfl hw.1.1.1, me_f (c := 9858) hF hS rfl hw.1.1.2, me_f (c := 9859) hF hS rfl hw.1.2, me_f (c := 9860) hF hS rfl hw.2]
  exact ht
theorem CT_p (hx : CX n c h) (ht : CT n c h a t v e) (a1 : a ≤ n) : 0 ≤ mi_f h 9858 ∧ a ≤ mi_f h 9858 ∧ mi_f h 9858 ≤ n ∧ n ≤ 240 := by
  have b := me_fb (c := 9858) hx.1 rfl
  have b2 := me_fb (c := 6657) hx.1 rfl
  have k := tk_f a1 ht.1
  have := hx.2.1
  omega
/-- on to the next token -/
theorem me_adv (hx : CX n c h) (ht : CT n c h a t v e) (a1 : a ≤ n) (t0 : t ≠ 0) (t6 : t ≠ 6) (t12 : cs_t t v ≠ 12) : me_E (d + 10) 18 0 [some (.inr (.inr 77)), none] [] h (fun w h' => w = none ∧ CX n c h' ∧ ab_Fr ca_W h h' ∧ e ≤ n ∧ a < e ∧ ∃ t' v' e', CT n c h' e t' v' e') := by
  have k := tk_f a1 ht.1
  have ke := k.2.2.1 t0 t6
  obtain ⟨c1, c2⟩ := ht.2.2 t0 t6 t12
  refine (me_advance (d := d) hx.1 hx.2.2.2.1 (by rw [c2, hx.2.1]; exact ke.2)).imp (fun w h' hq => ?_)
  obtain ⟨q1, q2, q3, t', v', e', q4, q5, q6⟩ := hq
  rw [hx.2.1, hx.2.2.1, c2] at q4
  exact ⟨q1, CX_fr hx q2 q3 (by decide), q3, ke.2, by omega, t', v', e', q4, q5, q6⟩
/-- expect -/
theorem me_expectF {zm : Int} (hS : ab_Sh sx_sk h) (om : mi_in zm) (hf : mi_f h 9730 ≠ 0) : me_E (d + 11) 51 0 [some (.inr (.inr 76)), some (.inl zm)] [] h (fun w h' => w = none ∧ h' = h) := by
  refine mt_xpA hS om ?_ ?_ ?_
  · intro b b2 c1; exact absurd c1 hf
  · intro b b2 c1; exact absurd c1 hf
  · intro b c1 h1 g1 g2
    exact ⟨rfl, me_nil g2⟩
theorem me_expect {zm : Int} (hx : CX n c h) (ht : CT n c h a t v e) (a1 : a ≤ n) (om : mi_in zm) (hf : mi_f h 9730 = 0) (hz : cs_t t v = zm → t ≠ 0 ∧ t ≠ 6 ∧ cs_t t v ≠ 12) : me_E (d + 11) 51 0 [some (.inr (.inr 76)), some (.inl zm)] [] h (fun w h' => w = none ∧
    ((cs_t t v ≠ zm ∧ ab_Sh sx_sk h' ∧ mi_f h' 9730 = 1 ∧ mi_f h' 9731 = mi_f h 9858 ∧ ab_Fr [(9730, 9732)] h h') ∨
     (cs_t t v = zm ∧ CX n c h' ∧ ab_Fr ca_W h h' ∧ e ≤ n ∧ a < e ∧ ∃ t' v' e', CT n c h' e t' v' e'))) := by
  have es := ht.2.1
  refine mt_xpA hx.1 om ?_ ?_ ?_
  · intro b b2 c1 c2 h1 g1 g2
    have e := me_nil g2
    subst e
    obtain ⟨z0, z6, z12⟩ := hz (by omega)
    refine ⟨_, me_adv (d := d) hx ht a1 z0 z6 z12, fun w h2 ow hq => ?_⟩
    obtain ⟨rfl, q1, q2, q3⟩ := hq
    refine mt_xpB q1.1 om (fun h3 g1 g2 => ?_)
    have e := me_nil g2
    subst e
    exact ⟨rfl, Or.inr ⟨by omega, q1, q2, q3⟩⟩
  · intro b b2 c1 c2 h1 g1 g2 g3 g4
    exact ⟨rfl, Or.inl ⟨by omega, g1, g2, g3, g4⟩⟩
  · intro b c1; exact absurd hf c1
/-- is it one too many -/
theorem me_otm {f : Int → Int} {ow : Nat → Nat} {g : wk_g} {m zo : Int} (hx : CX n c h) (ht : CT n c h a t v e) (hq : CQ f ow g h) (hP : PI ow g m) (hip : ip_t t v) (ho : zo = g 0 5) : me_E (d + 2) 57 0 [some (.inr (.inr 76)), some (.inl zo), none] [] h (fun w h' => h' = h ∧ ∃ z, w = some (.inl z) ∧ (z = 0 ∨ z = 1) ∧ (z = 1 ↔ rp_N g t v)) := by
  obtain ⟨⟨p1, p2, p3, p4, p5, p6⟩, -⟩ := hP
  obtain ⟨⟨c0, c1, c2, c3, c4⟩, d1, d2, d3, d4, d5, d6, d7, d8, d9, dw⟩ := hq
  have oz : mi_in zo := ⟨by omega, by omega⟩
  have ci := cs_i ht.1
  obtain ⟨i1, i2, i3, i4, -⟩ := ci
  have es := ht.2.1
  obtain ⟨k0, k6⟩ := ip_ne hip
  obtain ⟨hc, -⟩ := ht.2.2 k0 k6 ((cs_i ht.1).2.2.2.2.2.2.2.2.2.2 hip)
  have tail : ∀ zl : Int, (zl = 0 ∨ zl = 1) → (zl = 1 ↔ ((t = 3 ∨ t = 4) ∧ ∀ j : Nat, (j : Int) < g 0 4 → g 117 j ≠ lc_t t v)) → me_E (d + 2) 57 36 [some (.inr (.inr 76)), some (.inl zo), some (.inl zl)] [] h (fun w h' => h' = h ∧ ∃ z, w = some (.inl z) ∧ (z = 0 ∨ z = 1) ∧ (z = 1 ↔ rp_N g t v)) := fun zl l01 hl => by
    have yes : rp_N g t v → ∀ h1, ab_Sh sx_sk h1 → ab_Fr [] h h1 → h1 = h ∧ ∃ z, some (.inl (1 : Int)) = some (.inl z : mi_V) ∧ (z = 0 ∨ z = 1) ∧ (z = 1 ↔ rp_N g t v) := fun hy h1 g1 g2 => ⟨me_nil g2, 1, rfl, Or.inr rfl, ⟨fun _ => hy, fun _ => rfl⟩⟩
    have no : ¬ rp_N g t v → ∀ h1, ab_Sh sx_sk h1 → ab_Fr [] h h1 → h1 = h ∧ ∃ z, some (.inl (0 : Int)) = some (.inl z : mi_V) ∧ (z = 0 ∨ z = 1) ∧ (z = 1 ↔ rp_N g t v) := fun hy h1 g1 g2 => ⟨me_nil g2, 0, rfl, Or.inl rfl, ⟨fun x => absurd x (by decide), fun x => absurd x hy⟩⟩
    refine mt_otC hx.1 oz ⟨by omega, by omega⟩ ?_ ?_ ?_ ?_ ?_ ?_ ?_ ?_
    · intro b x1
      exact yes (Or.inl (by omega))
    · intro b b2 x1 x2 x3
      refine no (fun y => ?_)
      rcases y with y | y | y
      · omega
      · have := i4.mpr y.1
        omega
      · have := hl.mpr ⟨y.1, y.2.1⟩
        omega
    · intro b b2 b3 x1 x2 x3 x4
      refine no (fun y => ?_)
      rcases y with y | y | y
      · omega
      · have := i4.mpr y.1
        omega
      · have := y.2.2
        omega
    · intro b b2 b3 x1 x2 x3 x4
      have := hl.mp (by omega)
      exact yes (Or.inr (Or.inr ⟨this.1, this.2, by omega⟩))
    · intro b b2 x1 x2 x3
      exact yes (Or.inr (Or.inl ⟨i4.mp (by omega), by omega⟩))
    · intro b b2 x1 x2 x3 x4
      refine no (fun y => ?_)
      rcases y with y | y | y
      · omega
      · omega
      · have := i3.mpr y.1
        omega
    · intro b b2 b3 x1 x2 x3 x4 x5
      refine no (fun y => ?_)
      rcases y with y | y | y
      · omega
      · omega
      · have := i3.mpr y.1
        omega
    · intro b b2 b3 x1 x2 x3 x4 x5
      exfalso
      have := i3.mpr (hl.mp (by omega)).1
      omega
  refine mt_otA hx.1 oz ?_ ?_
  · intro b x1 h1 g1 g2
    have e := me_nil g2
    subst e
    refine tail 0 (Or.inl rfl) ⟨fun x => absurd x (by decide), fun x => ?_⟩
    have := i3.mpr x.1
    omega
  · intro b x1 h1 g1 g2
    have e := me_nil g2
    subst e
    have t34 := i3.mp (by omega)
    have ec : mi_f h1 9860 = lc_t t v := by
      rw [hc]
      rcases t34 with x | x
      · rw [x]; rfl
      · rw [x]; rfl
    have bc := me_fb (c := 9860) hx.1 rfl
    refine ⟨_, me_gliteral (d := d) hx.1 ⟨by omega, by omega⟩ (by omega), fun w h2 oww hq2 => ?_⟩
    obtain ⟨rfl, z, rfl, hz⟩ := hq2
    refine mt_otB (zz := z) hx.1 oz ⟨by omega, by omega⟩ ?_ ?_
    · intro x2 h3 g1 g2
      have e := me_nil g2
      subst e
      refine tail 0 (Or.inl rfl) ⟨fun x => absurd x (by decide), fun x => ?_⟩
      rcases hz with y | y
      · have := x.2 z.toNat (by omega)
        rw [← d8 z.toNat (by omega)] at this
        rw [← ec] at this
        exact absurd y.2.2.1 this
      · exact absurd y.1 x2
    · intro x2 h3 g1 g2
      have e := me_nil g2
      subst e
      refine tail 1 (Or.inr rfl) ⟨fun _ => ⟨t34, fun j hj => ?_⟩, fun _ => rfl⟩
      rcases hz with y | y
      · omega
      · rw [← d8 j hj, ← ec]
        exact y.2 j (by omega)
end KSY
