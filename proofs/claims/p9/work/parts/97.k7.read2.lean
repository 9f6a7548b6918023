/-! the class's read: a rule, the loop -/
theorem rf_lr {g : wk_g} {v p : Int} : rf_lvl (rf_rule g v p) 0 = rf_rule g v p := by
  funext r i
  unfold rf_lvl
  by_cases c : r = 0
  · subst c
    by_cases c5 : i = 5
    · subst c5
      rfl
    · simp only [if_true, if_neg c5]
  · rw [if_neg c]
def cr_S (n : Int) (c : Nat → Int) (g : wk_g) (a : Int) (h : sm_H) : Prop := CX n c h ∧ ∃ (f : Int → Int) (ow : Nat → Nat) (t v e : Int), PR ow g ∧ FI f g ∧ CQ f ow g h ∧ g 0 1 ≤ g 0 0 ∧ CT n c h a t v e ∧ (0 ≤ a ∧ a ≤ n)
section KRE
variable {n : Int} {c : Nat → Int} {f : Int → Int} {ow : Nat → Nat} {g : wk_g} {h h0 : sm_H} {a t v e zn zf : Int} {q2 : Option mi_V} {Q : Option mi_V → sm_H → Prop}
theorem cr_step {d : Nat} (on : mi_in zn) (oq : ∀ v, q2 = some v → mi_ok v) (br : br_Q n c f ow g a t v e h0 (some (.inl zf)) h) (hP : PR ow g) (hps : PSr g) (hA : g 0 1 ≤ g 0 0) (ht : CT n c h0 a t v e) (a0 : 0 ≤ a) (hne : ¬ (t = 0 ∧ g 0 3 ≠ 0)) (K : ∀ h' zf, mi_in zf → ab_Sh sx_sk h' → ab_Fr cw_W h h' → (mi_f h' 9730 ≠ 0 → ru_F n c (g, a) (kF h') ∧ kb h') → (mi_f h' 9730 = 0 → ∃ g' a', ru_T n c (g, a) (g', a') ∧ cr_S n c g' a' h' ∧ g' 0 3 = g 0 3 + 1) → me_E (d + 32) 14 76 [some (.inr (.inr 76)), some (.inl zn), some (.inl zf)] [] h' Q) : me_E (d + 32) 14 57 [some (.inr (.inr 76)), some (.inl zn), q2] [.inl zf] h Q := by
  obtain ⟨s1, -, zf', ez, oz, br⟩ := br
  cases ez
  refine mt_rdE s1 on oz oq (fun h1 g1 g2 => ?_)
  have e0 := me_nil g2
  subst e0
  /- a fault in the form or at its end -/
  have Bad : ∀ h', mi_f h' 9730 ≠ 0 → ab_Sh sx_sk h' → ab_Fr cw_W h1 h' → (ru_F n c (g, a) (kF h') ∧ kb h') → me_E (d + 32) 14 76 [some (.inr (.inr 76)), some (.inl zn), some (.inl zf)] [] h' Q := fun h' x1 x2 x3 x4 => K h' zf oz x2 x3 (fun _ => x4) (fun q => absurd q x1)
  have Bad2 : ∀ h', mi_f h' 9730 ≠ 0 → ab_Sh sx_sk h' → ab_Fr cw_W h1 h' → (ru_F n c (g, a) (kF h') ∧ kb h') → me_E (d + 32) 14 70 [some (.inr (.inr 76)), some (.inl zn), some (.inl zf)] [] h' Q := fun h' x1 x2 x3 x4 => by
    refine mt_rdG x2 on oz (fun h2 g1 g2 => ?_)
    have e0 := me_nil g2
    subst e0
    refine ⟨_, me_expectF (d := d + 20) (zm := 59) x2 ⟨by decide, by decide⟩ x1, fun w h3 oww hq => ?_⟩
    obtain ⟨rfl, rfl⟩ := hq
    exact Bad _ x1 x2 x3 x4
  have Bad3 : ∀ h', mi_f h' 9730 ≠ 0 → ab_Sh sx_sk h' → ab_Fr cw_W h1 h' → (ru_F n c (g, a) (kF h') ∧ kb h') → me_E (d + 32) 14 64 [some (.inr (.inr 76)), some (.inl zn), some (.inl zf)] [] h' Q := fun h' x1 x2 x3 x4 => by
    refine mt_rdF x2 on oz (fun h2 g1 g2 => ?_)
    have e0 := me_nil g2
    subst e0
    refine ⟨_, me_readFormF (d := d + 16) x2 oz fm_in0 x1, fun w h3 oww hq => ?_⟩
    obtain ⟨rfl, rfl⟩ := hq
    exact Bad2 _ x1 x2 x3 x4
  rcases br with ⟨b1, b2, b3⟩ | ⟨b1, t2, b3, b4, b5, x1, Q1, I1, b6, en, ae, t', v', e', ht'⟩
  · refine ⟨_, me_expectF (d := d + 20) (zm := 61) s1 ⟨by decide, by decide⟩ b1, fun w h3 oww hq => ?_⟩
    obtain ⟨rfl, rfl⟩ := hq
    refine Bad3 _ b1 s1 ab_Fr.refl ⟨⟨t, v, mi_f h0 9858, e, ht.1, hne, ?_⟩, b3⟩
    rcases b2 with y | y | y
    · exact Or.inl y
    · exact Or.inr (Or.inl y)
    · exact Or.inr (Or.inr (Or.inl y))
  · subst t2
    have cj := cs_i ht'.1
    have i61 := cj.2.2.2.2.2.2.2.1 61 (by decide)
    refine ⟨_, me_expect (d := d + 20) (zm := 61) x1 ht' en ⟨by decide, by decide⟩ b1 (fun q => ⟨by have := i61.mp q; omega, by have := i61.mp q; omega, by omega⟩), fun w h3 oww hq => ?_⟩
    obtain ⟨rfl, hq⟩ := hq
    rcases hq with ⟨y1, y2, y3, y4, y5⟩ | ⟨y1, x3, F3, en3, ae3, t3, v3, e3, ht3⟩
    · refine Bad3 _ (by omega) y2 (y5.wide (fun c hc => ab_swr_ok (by decide) hc)) ⟨⟨2, v, mi_f h0 9858, e, ht.1, hne, Or.inr (Or.inr (Or.inr ⟨rfl, b3, by show g 0 3 ≠ 10; omega, t', v', _, e', ht'.1, Or.inl ⟨fun q => y1 (i61.mpr q), by unfold kF; rw [y3, y4]⟩⟩))⟩, kb_of x1.1 y3 y4 (by decide)⟩
    · have e61 := i61.mp y1
      subst e61
      refine mt_rdF x3.1 on oz (fun h4 g1 g2 => ?_)
      have e0 := me_nil g2
      subst e0
      obtain ⟨g1', hg1⟩ : ∃ g1', g1' = rf_rule g v (mi_f h0 9858) := ⟨_, rfl⟩
      have P1 : PI ow g1' (-1) := by rw [hg1]; exact PI_rule hP b4
      rw [← hg1] at Q1 I1
      have z5 : g1' 0 5 = 0 := by rw [hg1]; rfl
      have z3 : g1' 0 3 = g 0 3 + 1 := by rw [hg1]; rfl
      have z2 : g1' 0 2 = g 0 2 + 1 := by rw [hg1]; rfl
      have z1 : g1' 0 1 = g 0 1 := by rw [hg1]; rfl
      have z0 : g1' 0 0 = g 0 0 := by rw [hg1]; rfl
      have z146 : g1' 146 0 = g 0 2 := by rw [hg1]; rfl
      have z130 : g1' 130 (g 0 2).toNat = 0 := by rw [hg1]; show (if (g 0 2).toNat = (g 0 2).toNat then (0 : Int) else _) = 0; rw [if_pos rfl]
      have eX : ru_x g v (mi_f h0 9858) e' = (rf_beg g1' 0, e', 1, 0, 0) := by unfold ru_x; rw [rf_lr, hg1]
      have f3 : mi_f h4 9730 = 0 := (me_f (c := 9730) F3 x1.1 rfl rfl).trans b1
      have FF3 : ab_Fr cw_W h1 h4 := F3.wide (fun c hc => ab_swr_ok (by decide) hc)
      have swn : swN g1' 0 := by
        intro q
        have e51 : g1' 151 (0 : Int).toNat = g 151 0 := by rw [hg1]; rfl
        rw [e51] at q
        rcases hps with p | ⟨p1, p2⟩
        · rw [z0]; omega
        · have : (g 0 5).toNat = 0 := by omega
          rw [this] at p2
          exact absurd p2 q
      have RF := me_readForm (n := n) (c := c) (f := fi_rule f g) (d + 31) ow g1' h4 zf e' t3 v3 e3 (by have : (4 - (0 : Int)).toNat = 4 := rfl; omega) x3 f3 P1 I1 (CQ_fr Q1 x1.1 F3 (by decide)) z5 (by show fi_rule f g (g1' 146 0) = zf; rw [z146, b6, b5]) (by show g1' 130 (g1' 146 0).toNat = 0; rw [z146]; exact z130) (by omega) ht3 (by omega) en3 swn
      refine ⟨_, RF, fun w h5 oww hq => ?_⟩
      obtain ⟨rfl, u1, u2, u3, u4⟩ := hq
      have FF5 := FF3.trans u2
      by_cases cf : mi_f h5 9730 = 0
      rotate_left
      · obtain ⟨w1, w2⟩ := u4 cf
        refine Bad2 _ cf u1 FF5 ⟨⟨2, v, mi_f h0 9858, e, ht.1, hne, Or.inr (Or.inr (Or.inr ⟨rfl, b3, by show g 0 3 ≠ 10; omega, 61, v', _, e', ht'.1, Or.inr ⟨rfl, ?_⟩⟩))⟩, w2⟩
        show ft_B n c (ru_x g v (mi_f h0 9858) e') _
        rw [eX]
        exact w1
      obtain ⟨x5, ow', g', a', zw', zp', t5, v5, e5, j, w1, w2, w3, w4, w5, w6, w7, ⟨wa0, wa1⟩, w8, w9, w10, w11, w12⟩ := u3 cf
      obtain ⟨l1, l2, l3, -⟩ := w5
      have ck := cs_i w7.1
      have i59 := ck.2.2.2.2.2.2.2.1 59 (by decide)
      refine mt_rdG u1 on oz (fun h6 g1 g2 => ?_)
      have e0 := me_nil g2
      subst e0
      refine ⟨_, me_expect (d := d + 20) (zm := 59) x5 w7 wa1 ⟨by decide, by decide⟩ cf (fun q => ⟨by have := i59.mp q; omega, by have := i59.mp q; omega, by omega⟩), fun w h7 oww hq => ?_⟩
      obtain ⟨rfl, hq⟩ := hq
      rcases hq with ⟨y1, y2, y3, y4, y5⟩ | ⟨y1, x7, F7, en7, ae7, t7, v7, e7, ht7⟩
      · refine Bad _ (by omega) y2 (FF5.trans (y5.wide (fun c hc => ab_swr_ok (by decide) hc))) ⟨⟨2, v, mi_f h0 9858, e, ht.1, hne, Or.inr (Or.inr (Or.inr ⟨rfl, b3, by show g 0 3 ≠ 10; omega, 61, v', _, e', ht'.1, Or.inr ⟨rfl, ?_⟩⟩))⟩, kb_of u1 y3 y4 (by decide)⟩
        show ft_B n c (ru_x g v (mi_f h0 9858) e') _
        rw [eX]
        refine ⟨j, _, w1, t5, v5, _, e5, w7.1, Or.inr (Or.inr (Or.inr (Or.inr ⟨w8, rfl, w9, w10, w11, fun q => ?_, fun q => y1 (i59.mpr q.1), by unfold kF; rw [y3, y4]⟩)))⟩
        have : 0 < g' 0 5 := q.2
        omega
      · have e59 := i59.mp y1
        subst e59
        have f7 : mi_f h7 9730 = 0 := (me_f (c := 9730) F7 u1 rfl rfl).trans cf
        refine K h7 zf oz x7.1 (FF5.trans (F7.wide (fun c hc => ab_swr_ok (by decide) hc))) (fun q => absurd f7 q) (fun _ => ⟨g', e5, ?_, ⟨x7, fi_rule f g, ow', t7, v7, e7, w2.r, w3, CQ_fr w4 u1 F7 (by decide), w6, ht7, ⟨by omega, en7⟩⟩, by omega⟩)
        refine ⟨v, mi_f h0 9858, e, v', _, e', (g', a', 0, zw', zp'), ht.1, b3, by show g 0 3 ≠ 10; omega, ht'.1, ?_, rfl⟩
        show ft_D n c (ru_x g v (mi_f h0 9858) e') (g', a', 0, zw', zp') e5
        rw [eX]
        exact ⟨j, w1, v5, _, w7.1, rfl, by show g' 0 5 ≤ 0; omega⟩
end KRE
