/-! the class's beginRule, and a whole rule -/
theorem me_readFormF {d : Nat} {h : sm_H} {zf zo : Int} (hS : ab_Sh sx_sk h) (of : mi_in zf) (oz : mi_in zo) (hf : mi_f h 9730 ≠ 0) : me_E (d + 15) 52 0 [some (.inr (.inr 76)), some (.inl zf), some (.inl zo), none, none, none, none] [] h (fun w h' => w = none ∧ h' = h) := by
  have b58 : mi_in (mi_f h 9858) := by
    have := me_fb (c := 9858) hS rfl
    exact ⟨by omega, by omega⟩
  refine mt_rfA hS of oz ?_ (fun _ q => absurd q hf) (fun _ q => absurd q hf)
  intro b q h1 g1 g2
  have e0 := me_nil g2
  subst e0
  refine mt_rfB hS of oz fm_in0 b58 ⟨by decide, by decide⟩ fm_in1 ?_ (fun q => absurd rfl q) (fun q => absurd rfl q)
  intro c1 h3 g1 g2
  exact ⟨rfl, me_nil g2⟩
/-- a fault at a rule's name -/
def br_F (g : wk_g) (t v p f : Int) : Prop := (t ≠ 2 ∧ f = 1 + 16 * p) ∨ (t = 2 ∧ 0 ≤ g 115 v.toNat ∧ f = 2 + 16 * p) ∨ (t = 2 ∧ g 115 v.toNat < 0 ∧ g 0 3 = 10 ∧ f = 3 + 16 * p)
def br_Q (n : Int) (c : Nat → Int) (f : Int → Int) (ow : Nat → Nat) (g : wk_g) (a t v e : Int) (h : sm_H) (w : Option mi_V) (h' : sm_H) : Prop :=
  ab_Sh sx_sk h' ∧ ab_Fr cw_W h h' ∧ ∃ zf, w = some (.inl zf) ∧ mi_in zf ∧
  ((mi_f h' 9730 ≠ 0 ∧ br_F g t v (mi_f h 9858) (kF h') ∧ kb h') ∨
   (mi_f h' 9730 = 0 ∧ t = 2 ∧ g 115 v.toNat < 0 ∧ g 0 3 < 10 ∧ zf = g 0 3 ∧ CX n c h' ∧ CQ (fi_rule f g) ow (rf_rule g v (mi_f h 9858)) h' ∧ FI (fi_rule f g) (rf_rule g v (mi_f h 9858)) ∧ fi_rule f g (g 0 2) = g 0 3 ∧ e ≤ n ∧ a < e ∧ ∃ t' v' e', CT n c h' e t' v' e'))
section KRD
variable {n : Int} {c : Nat → Int} {f : Int → Int} {ow : Nat → Nat} {g : wk_g} {h : sm_H} {a t v e : Int}
theorem me_beginRule {d : Nat} (hx : CX n c h) (ht : CT n c h a t v e) (a1 : a ≤ n) (hf : mi_f h 9730 = 0) (hP : PR ow g) (hI : FI f g) (hq : CQ f ow g h) (hps : PSr g) : me_E (d + 11) 46 0 [some (.inr (.inr 76)), none] [] h (br_Q n c f ow g a t v e h) := by
  have hS := hx.1
  obtain ⟨⟨p1, p2, p3, p4, p5⟩, -⟩ := id hP
  obtain ⟨⟨c0, c1, c2, c3, c4⟩, d1, d2, d3, -⟩ := id hq
  have ci := cs_i ht.1
  have es := ht.2.1
  have kf := tk_f a1 ht.1
  have i2 := ci.2.1
  have cb := ci.2.2.2.2.2.2.2.2.2.1
  have pb := CT_p hx ht a1
  have out : ∀ h1, ab_Sh sx_sk h1 → ab_Fr [(9730, 9732)] h h1 → mi_f h1 9730 ≠ 0 → br_F g t v (mi_f h 9858) (kF h1) → kb h1 → me_E (d + 11) 46 84 [some (.inr (.inr 76)), none] [] h1 (br_Q n c f ow g a t v e h) := by
    intro h1 s1 s2 s3 s4 s5
    refine mt_brC s1 (fun _ q => absurd q s3) (fun _ q h2 g1 g2 => ?_)
    have e0 := me_nil g2
    subst e0
    exact ⟨s1, s2.wide (fun c hc => ab_swr_ok (by decide) hc), -1, rfl, ⟨by decide, by decide⟩, Or.inl ⟨s3, s4, s5⟩⟩
  refine mt_brA hS ?_ ?_
  · intro b k1 h1 g1 g2
    have e0 := me_nil g2
    subst e0
    have t2 : t = 2 := i2.mp (by omega)
    have t12 : cs_t t v ≠ 12 := by omega
    obtain ⟨f60, f57⟩ := ht.2.2 (by omega) (by omega) t12
    have v01 := kf.2.2.2.1 t2
    have fv : mi_f h1 9860 = v + 65 := by rw [f60, t2]; rfl
    have ol : mi_in (mi_f h1 9860) := ⟨by omega, by omega⟩
    refine ⟨_, me_gruleNamed (d := d + 9) (zl := mi_f h1 9860) hS ol (by omega), fun w h2 oww hq2 => ?_⟩
    obtain ⟨rfl, z, rfl, hz⟩ := hq2
    have oz : mi_in z := by rcases hz with ⟨x1, x2, -⟩ | ⟨x1, -⟩ <;> exact ⟨by omega, by omega⟩
    refine mt_brB hS oz ?_ ?_ ?_
    · intro b2 z1 z2 h3 g1 g2
      have e0 := me_nil g2
      subst e0
      have nn : g 115 v.toNat < 0 := by
        rcases hz with ⟨x1, -⟩ | ⟨-, x2⟩
        · omega
        · refine Int.not_le.mp (fun q => ?_)
          have k := d2 v.toNat (by omega) q
          refine x2 (g 115 v.toNat).toNat (by omega) ?_
          rw [k.2, fv]
          omega
      refine mt_brC hS ?_ (fun _ q => absurd hf q)
      intro b3 q h4 g1 g2
      have e0 := me_nil g2
      subst e0
      refine ⟨_, me_gaddRule (d := d + 9) (zl := mi_f h4 9860) (zp := mi_f h4 9858) hS ol ⟨by omega, by omega⟩ (by omega) (by omega), fun w h5 oww hq5 => ?_⟩
      obtain ⟨rfl, s1, s2, s3, s4, s5⟩ := hq5
      rw [fv] at s4
      obtain ⟨Q1, Q2, Q3⟩ := CQ_rule hq hps hS hP hI v01.1 (by omega) nn (by omega) s2 s3 s4 s5
      have x5 := CX_fr hx s1 s2 (by decide)
      have t5 := CT_fr ht hS s2 (by decide)
      refine mt_brD s1 ⟨by omega, by omega⟩ (fun h6 g1 g2 => ?_)
      have e0 := me_nil g2
      subst e0
      refine ⟨_, me_adv (d := d) x5 t5 a1 (by omega) (by omega) t12, fun w h7 oww hq7 => ?_⟩
      obtain ⟨rfl, x7, F7, en, ae, t7⟩ := hq7
      refine mt_brE x7.1 ⟨by omega, by omega⟩ (fun h8 g1 g2 => ?_)
      have e0 := me_nil g2
      subst e0
      have f8 : mi_f h8 9730 = 0 := ((me_f (c := 9730) F7 s1 rfl rfl).trans (me_f (c := 9730) s2 hS rfl rfl)).trans hf
      exact ⟨x7.1, (s2.wide (fun c hc => ab_swr_ok (by decide) hc)).trans (F7.wide (fun c hc => ab_swr_ok (by decide) hc)), _, rfl, ⟨by omega, by omega⟩, Or.inr ⟨f8, t2, nn, by omega, by omega, x7, CQ_fr Q1 s1 F7 (by decide), Q2, Q3, en, ae, t7⟩⟩
    · intro b2 z1 z2 h3 g1 g2 g3 g4
      refine out h3 g1 g4 (by omega) (Or.inr (Or.inr ⟨t2, ?_, by omega, by unfold kF; rw [g2, g3]⟩)) (kb_of hS g2 g3 (by decide))
      rcases hz with ⟨x1, -⟩ | ⟨-, x2⟩
      · omega
      · refine Int.not_le.mp (fun q => ?_)
        have k := d2 v.toNat (by omega) q
        refine x2 (g 115 v.toNat).toNat (by omega) ?_
        rw [k.2, fv]
        omega
    · intro z1 h3 g1 g2 g3 g4
      refine out h3 g1 g4 (by omega) (Or.inr (Or.inl ⟨t2, ?_, by unfold kF; rw [g2, g3]⟩)) (kb_of hS g2 g3 (by decide))
      rcases hz with ⟨x1, x2, x3, -⟩ | ⟨x2, -⟩
      · obtain ⟨v', y1, y2, y3⟩ := d3 z.toNat (by omega)
        have : v' = v.toNat := by omega
        rw [← this, y3]
        omega
      · exact absurd x2 z1
  · intro b k1 h1 g1 g2 g3 g4
    have t2 : t ≠ 2 := fun q => k1 (by rw [es]; exact i2.mpr q)
    exact out h1 g1 g4 (by omega) (Or.inl ⟨t2, by unfold kF; rw [g2, g3]⟩) (kb_of hS g2 g3 (by decide))
end KRD
