/-! the class's readPart does the same turns -/
/-- levels below b are as they were -/
def KL (b k : Int) (g g' : wk_g) : Prop := g' 0 5 = g 0 5 ∧ g' 0 3 = g 0 3 ∧ g 0 0 ≤ g' 0 0 ∧ (∀ i : Nat, (i : Int) < b → g' 146 i = g 146 i ∧ g' 147 i = g 147 i ∧ g' 149 i = g 149 i ∧ g' 150 i = g 150 i ∧ g' 151 i = g 151 i) ∧ (∀ i : Nat, (i : Int) ≤ k → g' 148 i = g 148 i) ∧ g' 146 k.toNat = g 146 k.toNat
theorem KL_refl {b k : Int} {g : wk_g} : KL b k g g := ⟨rfl, rfl, Int.le_refl _, fun _ _ => ⟨rfl, rfl, rfl, rfl, rfl⟩, fun _ _ => rfl, rfl⟩
theorem KL_trans {b b' k : Int} {g g1 g2 : wk_g} (h : KL b k g g1) (h' : KL b' k g1 g2) (hb : b' ≤ b) : KL b' k g g2 := by
  obtain ⟨a1, a2, a3, a4, a5, a6⟩ := h
  obtain ⟨b1, b2, b3, b4, b5, b6⟩ := h'
  refine ⟨b1.trans a1, b2.trans a2, by omega, fun i hi => ?_, fun i hi => (b5 i hi).trans (a5 i hi), b6.trans a6⟩
  obtain ⟨x1, x2, x3, x4, x5⟩ := a4 i (by omega)
  obtain ⟨y1, y2, y3, y4, y5⟩ := b4 i hi
  exact ⟨y1.trans x1, y2.trans x2, y3.trans x3, y4.trans x4, y5.trans x5⟩
/-- the forms that were there have as many choices as they had -/
def K3 (g g' : wk_g) : Prop := g 0 2 ≤ g' 0 2 ∧ ∀ y : Nat, (y : Int) < g 0 2 → g' 130 y = g 130 y
def K3x (k : Int) (g g' : wk_g) : Prop := g 0 2 ≤ g' 0 2 ∧ ∀ y : Nat, (y : Int) < g 0 2 → (y : Int) ≠ g 146 k.toNat → g' 130 y = g 130 y
theorem ft_Bpre {n : Int} {c : Nat → Int} {x y : ft_X} {j : Nat} {f : Int} (h : ft_Tr n c j x y) (h' : ft_B n c y f) : ft_B n c x f := by
  obtain ⟨k, z, h1, h2⟩ := h'
  obtain ⟨i, h3⟩ := ft_app h1 j x h
  exact ⟨i, z, h3, h2⟩
def kF (h' : sm_H) : Int := mi_f h' 9730 + 16 * mi_f h' 9731
/-- the fault's number and place are small -/
def kb (h' : sm_H) : Prop := (1 ≤ mi_f h' 9730 ∧ mi_f h' 9730 ≤ 4) ∧ 0 ≤ mi_f h' 9731 ∧ mi_f h' 9731 ≤ 241
def kB (n : Int) (c : Nat → Int) (x : ft_X) (h' : sm_H) : Prop := ft_B n c x (kF h') ∧ kb h'
theorem kb_of {h0 h' : sm_H} {k : Int} (hS : ab_Sh sx_sk h0) (e1 : mi_f h' 9730 = k) (e2 : mi_f h' 9731 = mi_f h0 9858) (k1 : 1 ≤ k ∧ k ≤ 4) : kb h' := by
  have := me_fb (c := 9858) hS rfl
  exact ⟨by omega, by omega, by omega⟩
theorem kB_of {n : Int} {c : Nat → Int} {x : ft_X} {h0 h' : sm_H} {k : Int} (hS : ab_Sh sx_sk h0) (e1 : mi_f h' 9730 = k) (e2 : mi_f h' 9731 = mi_f h0 9858) (k1 : 1 ≤ k ∧ k ≤ 4) (hB : ft_B n c x (k + 16 * mi_f h0 9858)) : kB n c x h' := by
  refine ⟨?_, kb_of hS e1 e2 k1⟩
  unfold kF
  rw [e1, e2]
  exact hB
theorem kB_eq {n : Int} {c : Nat → Int} {x : ft_X} {h h' : sm_H} (e1 : mi_f h' 9730 = mi_f h 9730) (e2 : mi_f h' 9731 = mi_f h 9731) (hB : kB n c x h) : kB n c x h' := by
  unfold kB kF kb at hB ⊢
  rw [e1, e2]
  exact hB
theorem kB_pre {n : Int} {c : Nat → Int} {x y : ft_X} {h : sm_H} {j : Nat} (h1 : ft_Tr n c j x y) (h2 : kB n c y h) : kB n c x h := ⟨ft_Bpre h1 h2.1, h2.2⟩
/-- readPart's end: u is made, but hangs nowhere yet (gb) -/
def rp_P (n : Int) (c : Nat → Int) (f : Int → Int) (x : ft_X) (h : sm_H) (w : Option mi_V) (h' : sm_H) : Prop :=
  w = some (.inl (x.1 0 0)) ∧ ab_Sh sx_sk h' ∧ ab_Fr cw_W h h' ∧
  (mi_f h' 9730 = 0 → CX n c h' ∧ ∃ ow' gb a' t' v' e' j, ft_Tr n c j x (rf_put gb (x.1 0 0), a', 0, 1, ft_p x.1) ∧ PI ow' gb (x.1 0 5) ∧ pi_un gb (x.1 0 0) ∧ (∀ i : Nat, 1 ≤ i → (i : Int) ≤ x.1 0 5 → gb 148 i < x.1 0 0) ∧ (∀ i : Nat, (i : Int) ≤ x.1 0 5 → gb 149 i < x.1 0 0 ∧ gb 150 i < x.1 0 0) ∧ FI f gb ∧ CQ f ow' gb h' ∧ KL (x.1 0 5 + 1) (x.1 0 5) x.1 gb ∧ gb 0 1 ≤ gb 0 0 ∧ CT n c h' a' t' v' e' ∧ (0 ≤ a' ∧ a' ≤ n) ∧ x.1 0 0 < gb 0 0 ∧ K3 x.1 gb) ∧
  (mi_f h' 9730 ≠ 0 → kB n c x h')
/-- what readPart, readUnit are begun with -/
def KS (n : Int) (c : Nat → Int) (f : Int → Int) (ow : Nat → Nat) (x : ft_X) (h : sm_H) : Prop :=
  CX n c h ∧ mi_f h 9730 = 0 ∧ PI ow x.1 (x.1 0 5) ∧ FI f x.1 ∧ CQ f ow x.1 h ∧ x.1 0 1 ≤ x.1 0 0 + 1 ∧ (0 ≤ x.2.1 ∧ x.2.1 ≤ n)
theorem rf_pw {g : wk_g} {u w : Int} : rf_word (rf_put g u) u w = rf_put (rf_word g u w) u := by
  funext r i
  by_cases c : r = 120
  · subst c
    rfl
  · unfold rf_word
    rw [if_neg c]
    unfold rf_put
    simp only [if_neg c, show ((0 : Nat) = 120) = False from by simp, show ((124 : Nat) = 120) = False from by simp, show ((125 : Nat) = 120) = False from by simp, show ((126 : Nat) = 120) = False from by simp, show ((147 : Nat) = 120) = False from by simp, show ((149 : Nat) = 120) = False from by simp, show ((150 : Nat) = 120) = False from by simp, show ((151 : Nat) = 120) = False from by simp, if_false]
section KPA
variable {d : Nat} {n : Int} {c : Nat → Int} {f : Int → Int} {ow : Nat → Nat} {x : ft_X} {h h2 : sm_H} {t v e : Int} {gb : wk_g}
/-- the unit is made: the rest, where it is no group -/
theorem kp62 (hK : KS n c f ow x h) (ht : CT n c h x.2.1 t v e) (hip : ip_t t v) (n40 : t ≠ 40) (hT : ∀ g2 a2, ((t = 1 ∧ so_r v = 1) → fp_R n c (rf_put gb (x.1 0 0)) e g2 a2) → (¬ (t = 1 ∧ so_r v = 1) → g2 = rf_put gb (x.1 0 0) ∧ a2 = e) → ft_T n c x (g2, a2, 0, 1, ft_p x.1)) (hTF : (t = 1 ∧ so_r v = 1) → ∀ p3, fp_N n c e p3 → ft_F n c x (1 + 16 * p3))
    (s1 : ab_Sh sx_sk h2) (s2 : ab_Fr [(7680, 9728)] h h2) (hQ : CQ f (ow_new x.1 ow) gb h2) (hP : PI (ow_new x.1 ow) gb (x.1 0 5)) (hu : pi_un gb (x.1 0 0)) (hb5 : KL (x.1 0 5 + 1) (x.1 0 5) x.1 gb) (hb3 : K3 x.1 gb) (hb0 : gb 0 0 = x.1 0 0 + 1) (hb1 : gb 0 1 = x.1 0 1) (hf : FI f gb) (hn9 : (t = 1 ∧ so_r v = 1) → gb 119 (x.1 0 0).toNat = 1) : me_E (d + 12) 59 62 [some (.inr (.inr 76)), some (.inl (x.1 0 5)), some (.inl (cs_t t v)), some (.inl (x.1 0 0)), none] [] h2 (rp_P n c f x h) := by
  obtain ⟨hx, hf0, kP, kf, kQ, kA, ⟨ka0, ka1⟩⟩ := hK
  obtain ⟨⟨p1, p2, p3, p4, p5, p6⟩, q1, q2, q3, q4, q5, q6, q7, q8⟩ := kP
  have ci := cs_i ht.1
  obtain ⟨k0, k6⟩ := ip_ne hip
  have k12 := ci.2.2.2.2.2.2.2.2.2.2 hip
  have cb := ci.2.2.2.2.2.2.2.2.2.1
  have oz : mi_in (x.1 0 5) := ⟨by omega, by omega⟩
  have os : mi_in (cs_t t v) := ⟨by omega, by omega⟩
  have ou : mi_in (x.1 0 0) := ⟨by omega, by omega⟩
  have hx2 := CX_fr hx s1 s2 (by decide)
  have ht2 := CT_fr ht hx.1 s2 (by decide)
  have f2 : mi_f h2 9730 = 0 := (me_f (c := 9730) s2 hx.1 rfl rfl).trans hf0
  have o1 : ∀ i : Nat, 1 ≤ i → (i : Int) ≤ x.1 0 5 → gb 148 i < x.1 0 0 := fun i i1 hi => by
    rw [hb5.2.2.2.2.1 i hi]
    exact (q3 i i1 hi).1.2
  have o2 : ∀ i : Nat, (i : Int) ≤ x.1 0 5 → gb 149 i < x.1 0 0 ∧ gb 150 i < x.1 0 0 := fun i hi => by
    obtain ⟨y1, y2, y3, y4, y5⟩ := hb5.2.2.2.1 i (by omega)
    rw [y3, y4]
    have := q1 i hi
    unfold pi_lev at this
    omega
  refine mt_rpD s1 oz os ou (fun h3 g1 g2 => ?_)
  have e0 := me_nil g2
  subst e0
  refine ⟨_, me_adv (d := d + 1) hx2 ht2 ka1 k0 k6 k12, fun w h4 oww hq => ?_⟩
  obtain ⟨rfl, x4, F4, en, ae, t2, v2, e2, ht4⟩ := hq
  have f4 : mi_f h4 9730 = 0 := (me_f (c := 9730) F4 s1 rfl rfl).trans f2
  have Q4 := CQ_fr hQ s1 F4 (by decide)
  have ci4 := cs_i ht4.1
  have es4 := ht4.2.1
  have FA : ab_Fr cw_W h h4 := (s2.wide (fun c hc => ab_swr_ok (by decide) hc)).trans (F4.wide (fun c hc => ab_swr_ok (by decide) hc))
  have fin : ∀ {g2 a2 t' v' e' h5 gb'}, (∀ (z : ((t = 1 ∧ so_r v = 1) → fp_R n c (rf_put gb (x.1 0 0)) e g2 a2)), True) → ft_T n c x (g2, a2, 0, 1, ft_p x.1) → g2 = rf_put gb' (x.1 0 0) → ab_Fr cw_W h h5 → mi_f h5 9730 = 0 → CX n c h5 → CT n c h5 a2 t' v' e' → (0 ≤ a2 ∧ a2 ≤ n) → CQ f (ow_new x.1 ow) gb' h5 → PI (ow_new x.1 ow) gb' (x.1 0 5) → pi_un gb' (x.1 0 0) → (∀ r, r ≠ 120 → gb' r = gb r) → FI f gb' → rp_P n c f x h (some (.inl (x.1 0 0))) h5 := fun {g2 a2 t' v' e' h5 gb'} _ y1 y2 y3 y4 y5 y6 y7 y8 y9 y10 y11 y12 => by
    refine ⟨rfl, y5.1, y3, fun _ => ⟨y5, ow_new x.1 ow, gb', a2, t', v', e', 1, ⟨_, y1, by rw [y2]; rfl⟩, y9, y10, ?_, ?_, y12, y8, ?_, ?_, y6, y7, ?_, ?_⟩, fun z => absurd y4 z⟩
    · intro i i1 hi
      rw [y11 148 (by decide)]
      exact o1 i i1 hi
    · intro i hi
      rw [y11 149 (by decide), y11 150 (by decide)]
      exact o2 i hi
    · unfold KL at hb5 ⊢
      rw [y11 0 (by decide), y11 146 (by decide), y11 147 (by decide), y11 148 (by decide), y11 149 (by decide), y11 150 (by decide), y11 151 (by decide)]
      exact hb5
    · rw [y11 0 (by decide)]; omega
    · rw [y11 0 (by decide)]; omega
    · unfold K3 at hb3 ⊢
      rw [y11 0 (by decide), y11 130 (by decide)]
      exact hb3
  refine mt_rpE x4.1 oz os ou ?_ ?_ ?_ ?_ ?_
  · intro c1 c2 h5 g1 g2
    have e0 := me_nil g2
    subst e0
    have nn : ¬ (t = 1 ∧ so_r v = 1) := fun y => c1 (ci.2.2.2.2.1.mpr y)
    exact fin (fun _ => trivial) (hT (rf_put gb (x.1 0 0)) e (fun y => absurd y nn) (fun _ => ⟨rfl, rfl⟩)) rfl FA f4 x4 ht4 ⟨by omega, en⟩ Q4 hP hu (fun _ _ => rfl) hf
  · intro c1 c2
    exact absurd (ci.2.2.2.1.mp c2) n40
  · intro b c1 c2 c3 h5 g1 g2
    have e0 := me_nil g2
    subst e0
    have yy := ci.2.2.2.2.1.mp c1
    have n43 : t2 ≠ 43 := fun y => c2 (by rw [es4]; exact (ci4.2.2.2.2.2.2.2.1 43 (by decide)).mpr y)
    exact fin (fun _ => trivial) (hT (rf_put gb (x.1 0 0)) e (fun _ => ⟨_, _, _, _, ht4.1, Or.inl ⟨n43, rfl, rfl⟩⟩) (fun y => absurd yy y)) rfl FA f4 x4 ht4 ⟨by omega, en⟩ Q4 hP hu (fun _ _ => rfl) hf
  · intro b c1 c2 c3
    omega
  · intro b c1 c2 h5 g1 g2
    have e0 := me_nil g2
    subst e0
    have yy := ci.2.2.2.2.1.mp c1
    have y43 : t2 = 43 := (ci4.2.2.2.2.2.2.2.1 43 (by decide)).mp (by rw [← es4]; exact c2)
    have k12' : cs_t t2 v2 ≠ 12 := by rw [(ci4.2.2.2.2.2.2.2.1 43 (by decide)).mpr y43]; decide
    refine ⟨_, me_adv (d := d + 1) x4 ht4 en (by omega) (by omega) k12', fun w h6 oww hq => ?_⟩
    obtain ⟨rfl, x6, F6, en6, ae6, t3, v3, e3, ht6⟩ := hq
    have f6 : mi_f h6 9730 = 0 := (me_f (c := 9730) F6 x4.1 rfl rfl).trans f4
    have Q6 := CQ_fr Q4 x4.1 F6 (by decide)
    have ci6 := cs_i ht6.1
    have es6 := ht6.2.1
    refine mt_rpF x6.1 oz os ou ?_ ?_ ?_
    · intro c3; exfalso; omega
    · intro c3 c4; exfalso; have := hP.1.1; omega
    · intro c3 c4
      refine ⟨⟨by omega, by omega⟩, fun h7 r1 r2 r3 => ?_⟩
      have x7 := CX_fr x6 r1 r3 (by decide)
      have ht7 := CT_fr ht6 x6.1 r3 (by decide)
      have f7 : mi_f h7 9730 = 0 := (me_f (c := 9730) r3 x6.1 rfl rfl).trans f6
      have F7 : ab_Fr cw_W h h7 := (FA.trans (F6.wide (fun c hc => ab_swr_ok (by decide) hc))).trans (r3.wide (fun c hc => ab_swr_ok (by decide) hc))
      have z12 : cs_t t3 v3 = 11 → t3 ≠ 0 ∧ t3 ≠ 6 ∧ cs_t t3 v3 ≠ 12 := fun y => by
        have y5 := ci6.2.2.2.2.2.1.mp y
        exact ⟨by omega, by omega, by omega⟩
      refine ⟨_, me_expect (d := d) (zm := 11) x7 ht7 en6 ⟨by decide, by decide⟩ f7 z12, fun w h8 oww hq => ?_⟩
      obtain ⟨rfl, hq⟩ := hq
      have s8 : ab_Sh sx_sk h8 := by
        rcases hq with y | y
        · exact y.2.1
        · exact y.2.1.1
      refine mt_rpG s8 oz os ou (fun h9 g1 g2 => ?_)
      have e0 := me_nil g2
      subst e0
      rw [y43] at ht4
      rcases hq with ⟨y1, y2, y3, y4, y5⟩ | ⟨y1, y2, y3, y4, y5, t4, v4, e4, ht8⟩
      · have n5 : t3 ≠ 5 := fun z => y1 (ci6.2.2.2.2.2.1.mpr z)
        refine ⟨rfl, s8, F7.trans (y5.wide (fun c hc => ab_swr_ok (by decide) hc)), fun z => by omega, fun _ => ?_⟩
        have ep : mi_f h7 9858 = mi_f h6 9858 := me_f (c := 9858) r3 x6.1 rfl rfl
        exact kB_of x6.1 y3 (y4.trans ep) (by decide) ⟨0, x, rfl, hTF yy _ ⟨_, _, _, _, _, _, ht4.1, ht6.1, n5⟩⟩
      · have y5' := ci6.2.2.2.2.2.1.mp y1
        rw [y5'] at ht6
        have ec : mi_f h6 9860 = v3 := by
          have := (ht6.2.2 (by decide) (by decide) (by have e : cs_t 5 v3 = 11 := rfl; rw [e]; decide)).1
          exact this
        have Q7 : CQ f (ow_new x.1 ow) (rf_word gb (x.1 0 0) v3) h7 := CQ_word Q6 x6.1 r3 (by rw [hn9 yy]; decide) (by rw [hn9 yy]; decide) (fun i => by rw [r2, ec])
        have Q8 := CQ_fr Q7 r1 y3 (by decide)
        have wg : ∀ r, r ≠ 120 → rf_word gb (x.1 0 0) v3 r = gb r := fun r hr => by
          funext i
          unfold rf_word
          rw [if_neg hr]
        have P7 : PI (ow_new x.1 ow) (rf_word gb (x.1 0 0) v3) (x.1 0 5) := PI_cg hP (by rw [wg 0 (by decide)]; exact ⟨rfl, rfl, rfl, rfl, rfl⟩) (by rw [wg 0 (by decide)]; exact hP.1.2.2.2.2.1) (fun r hr i => by rw [wg r (by intro z; rw [z] at hr; revert hr; decide)])
        have U7 : pi_un (rf_word gb (x.1 0 0) v3) (x.1 0 0) := by
          unfold pi_un at hu ⊢
          rw [wg 0 (by decide), wg 124 (by decide), wg 125 (by decide), wg 126 (by decide)]
          exact hu
        have I7 : FI f (rf_word gb (x.1 0 0) v3) := FI_cg hf (by rw [wg 0 (by decide)]) (by rw [wg 0 (by decide)]) (fun i => by rw [wg 114 (by decide)])
        have eu : rf_put gb (x.1 0 0) 0 0 - 1 = x.1 0 0 := by
          show gb 0 0 - 1 = _
          omega
        have f8 : mi_f h9 9730 = 0 := (me_f (c := 9730) y3 r1 rfl rfl).trans f7
        refine fin (fun _ => trivial) (hT (rf_word (rf_put gb (x.1 0 0)) (x.1 0 0) v3) e3 (fun _ => ⟨_, _, _, _, ht4.1, Or.inr ⟨rfl, v3, _, ht6.1, by rw [eu]⟩⟩) (fun y => absurd yy y)) rf_pw (F7.trans (y3.wide (fun c hc => ab_swr_ok (by decide) hc))) f8 y2 ht8 ⟨by omega, y4⟩ Q8 P7 U7 wg I7
end KPA
