/-! the class's readItems, readForm do the same turns -/
def ri_P (n : Int) (c : Nat → Int) (f : Int → Int) (x : ft_X) (h : sm_H) (w : Option mi_V) (h' : sm_H) : Prop :=
  w = none ∧ ab_Sh sx_sk h' ∧ ab_Fr cw_W h h' ∧
  (mi_f h' 9730 = 0 → CX n c h' ∧ ∃ ow' g' a' zw' zp' t' v' e' j, ft_Tr n c j x (g', a', 0, zw', zp') ∧ PI ow' g' (x.1 0 5) ∧ FI f g' ∧ CQ f ow' g' h' ∧ KL (x.1 0 5) (x.1 0 5) x.1 g' ∧ K3 x.1 g' ∧ g' 147 (x.1 0 5).toNat = x.1 147 (x.1 0 5).toNat ∧ g' 0 1 ≤ g' 0 0 ∧ CT n c h' a' t' v' e' ∧ (0 ≤ a' ∧ a' ≤ n) ∧ ¬ ip_t t' v' ∧ ¬ ((t' = 42 ∨ t' = 63) ∧ zw' ≠ 0) ∧ ¬ (t' = 126 ∧ zp' ≠ 0)) ∧
  (mi_f h' 9730 ≠ 0 → kB n c x h')
/-- at readItems's loop, with more to come -/
def ri_H (n : Int) (c : Nat → Int) (f : Int → Int) (x : ft_X) (h0 h : sm_H) (zs zl zn : Int) : Prop :=
  ab_Fr cw_W h0 h ∧ ∃ (ow : Nat → Nat) (y : ft_X) (t v e : Int) (j : Nat), ft_Tr n c j x y ∧ KS n c f ow y h ∧ KL (x.1 0 5) (x.1 0 5) x.1 y.1 ∧ K3 x.1 y.1 ∧ y.1 147 (x.1 0 5).toNat = x.1 147 (x.1 0 5).toNat ∧ zl = y.1 150 (x.1 0 5).toNat ∧ (zs ≠ 0 ↔ y.1 151 (x.1 0 5).toNat ≠ 0) ∧ CT n c h y.2.1 t v e ∧ (y.2.2.1 ≠ 0 ∨ ip_t t v) ∧ zn ≤ y.1 0 0
theorem K3_trans {g g1 g2 : wk_g} (h : K3 g g1) (h' : K3 g1 g2) : K3 g g2 := ⟨Int.le_trans h.1 h'.1, fun y hy => (h'.2 y (Int.lt_of_lt_of_le hy h.1)).trans (h.2 y hy)⟩
section KIT
variable {n : Int} {c : Nat → Int} {f : Int → Int} {x : ft_X} {h0 : sm_H}
theorem ri_loop {d : Nat} (hd : 4 * (4 - x.1 0 5).toNat ≤ d) (k01 : 0 ≤ x.1 0 5 ∧ x.1 0 5 ≤ 4) (oa : mi_in (x.1 147 (x.1 0 5).toNat)) (HF : x.1 0 5 < 4 → rfo_S n c f (x.1 0 5 + 1)) : ∀ (N : Nat) (zm zs zl zn : Int) (h : sm_H), 62 - zn < N → 0 ≤ zn → zn ≤ 61 → mi_in zm → mi_in zs → mi_in zl → ab_Sh sx_sk h → (zm = 0 → ri_P n c f x h0 none h) → (zm ≠ 0 → ri_H n c f x h0 h zs zl zn) → me_E (d + 14) 54 11 [some (.inr (.inr 76)), some (.inl (x.1 147 (x.1 0 5).toNat)), some (.inl (x.1 0 5)), some (.inl zm), some (.inl zs), some (.inl zl), some (.inl zn)] [] h (ri_P n c f x h0) := by
  intro N
  induction N with
  | zero => intro zm zs zl zn h hN z0 z1; exfalso; omega
  | succ N ih =>
    intro zm zs zl zn h hN z0 z1 om os ol hS h1 h2
    have oz : mi_in (x.1 0 5) := ⟨by omega, by omega⟩
    have on : mi_in zn := ⟨by omega, by omega⟩
    refine mt_riB hS oa oz om os ol on ?_ ?_ ?_
    · intro c1 h3 g1 g2
      have e0 := me_nil g2
      subst e0
      exact h1 c1
    · intro c1 c2
      obtain ⟨F0, ow, y, t, v, e, j, y1, y2, y3, y4, y5, y6, y7, y8, y9, y10⟩ := h2 c1
      have := y2.2.2.1.1.1
      omega
    intro c1 c2 h3 g1 g2
    have e0 := me_nil g2
    subst e0
    obtain ⟨F0, ow, y, t, v, e, j, y1, y2, y3, y4, y5, y6, y7, y8, y9, y10⟩ := h2 c1
    have k5 : y.1 0 5 = x.1 0 5 := y3.1
    have RU := me_readUnit (D := d + 13) (by rw [k5]; omega) y2 (by rw [k5]; exact HF) y8 y9
    rw [k5, y5, ← y6] at RU
    refine ⟨_, RU, fun w h4 oww hq => ?_⟩
    obtain ⟨⟨z, rfl⟩, s1, s2, s3, s4⟩ := hq
    have oz4 : mi_in z := oww (.inl z) rfl
    have F4 : ab_Fr cw_W h0 h4 := F0.trans s2
    /- with a fault: out -/
    have out : mi_f h4 9730 ≠ 0 → me_E (d + 14) 54 63 [some (.inr (.inr 76)), some (.inl (x.1 147 (x.1 0 5).toNat)), some (.inl (x.1 0 5)), some (.inl zm), some (.inl 0), some (.inl z), some (.inl zn)] [] h4 (ri_P n c f x h0) := fun cf => by
      refine mt_riD s1 oa oz om fm_in0 oz4 on ?_ (fun q => absurd rfl q) (fun q => absurd rfl q) (fun q => absurd rfl q)
      intro _ h5 g1 g2
      have e0 := me_nil g2
      subst e0
      refine mt_riE s1 oa oz om fm_in0 oz4 on ?_ (fun _ q => absurd q cf) (fun _ _ q => absurd q cf) (fun _ _ q => absurd q cf) (fun _ _ q => absurd q cf)
      intro b q
      refine ⟨⟨by omega, by omega⟩, fun h6 g1 g2 => ?_⟩
      have e0 := me_nil g2
      subst e0
      exact ih 0 0 z (zn + 1) h6 (by omega) (by omega) (by omega) fm_in0 fm_in0 oz4 s1 (fun _ => ⟨rfl, s1, F4, fun q => absurd q cf, fun q => kB_pre y1 (s4 q)⟩) (fun q => absurd rfl q)
    by_cases cf : mi_f h4 9730 = 0
    rotate_left
    · refine mt_riC s1 oa oz om os ol on oz4 ?_ ?_ (fun _ _ _ q => absurd q cf) (fun _ _ _ q => absurd q cf)
      · intro q h5 g1 g2
        have e0 := me_nil g2
        subst e0
        exact out cf
      · intro b q q2 h5 g1 g2
        have e0 := me_nil g2
        subst e0
        exact out cf
    obtain ⟨x4, ow', g', a', zw', t', v', e', j', w0, w1, w2, w3, w4, w5, w6, w7, w8, w9, w10, w11, w12, ⟨wa0, wa1⟩, w13, w14⟩ := s3 cf
    rw [k5] at w0 w2 w5 w7 w8 w9 w10
    have ez : z = g' 150 (x.1 0 5).toNat := by
      injection w0 with q
      injection q
    have ci := cs_i w12.1
    have es := w12.2.1
    have i126 := ci.2.2.2.2.2.2.2.1 126 (by decide)
    obtain ⟨jj, J⟩ := ft_app w1 j x y1
    have KX := KL_trans y3 w5 (Int.le_refl _)
    have K3X := K3_trans y4 w6
    have g5 : g' 0 5 = x.1 0 5 := KX.1
    have K7 : g' 147 (x.1 0 5).toNat = x.1 147 (x.1 0 5).toNat := w7.trans y5
    have zpv : ft_p y.1 = if zs = 0 then 1 else 0 := by
      unfold ft_p
      rw [k5]
      by_cases cz : zs = 0
      · rw [if_pos cz, if_pos (Classical.byContradiction (fun q => y7.mpr q cz))]
      · rw [if_neg cz, if_neg (y7.mp cz)]
    have b150 := (w2.2.1 (x.1 0 5).toNat (by omega)).2.2.1
    have bU := w2.1.1
    /- on without a pair -/
    have go : ¬ (t' = 126 ∧ ft_p y.1 ≠ 0) → me_E (d + 14) 54 63 [some (.inr (.inr 76)), some (.inl (x.1 147 (x.1 0 5).toNat)), some (.inl (x.1 0 5)), some (.inl zm), some (.inl 0), some (.inl z), some (.inl zn)] [] h4 (ri_P n c f x h0) := fun np => by
      refine mt_riD s1 oa oz om fm_in0 oz4 on ?_ (fun q => absurd rfl q) (fun q => absurd rfl q) (fun q => absurd rfl q)
      intro _ h5 g1 g2
      have e0 := me_nil g2
      subst e0
      have stop : ¬ ip_t t' v' → ∀ h6, ab_Sh sx_sk h6 → ab_Fr [] h5 h6 → me_E (d + 14) 54 11 [some (.inr (.inr 76)), some (.inl (x.1 147 (x.1 0 5).toNat)), some (.inl (x.1 0 5)), some (.inl 0), some (.inl 0), some (.inl z), some (.inl (zn + 1))] [] h6 (ri_P n c f x h0) := fun nip h6 g1 g2 => by
        have e0 := me_nil g2
        subst e0
        exact ih 0 0 z (zn + 1) h6 (by omega) (by omega) (by omega) fm_in0 fm_in0 oz4 s1 (fun _ => ⟨rfl, s1, F4, fun _ => ⟨x4, ow', g', a', zw', ft_p y.1, t', v', e', jj, J, w2, w3, w4, KX, K3X, K7, w11, w12, ⟨wa0, wa1⟩, nip, w13, np⟩, fun q => absurd cf q⟩) (fun q => absurd rfl q)
      refine mt_riE s1 oa oz om fm_in0 oz4 on (fun _ q => absurd cf q) (fun _ _ q => absurd rfl q) ?_ ?_ ?_
      · intro b b2 q1 q2 q3
        exact ⟨⟨by omega, by omega⟩, stop (fun q => by have := ci.1.mpr q; omega)⟩
      · intro b b2 q1 q2 q3 q4
        exact ⟨⟨by omega, by omega⟩, stop (fun q => by have := ci.1.mpr q; omega)⟩
      · intro b b2 q1 q2 q3 q4
        refine ⟨⟨by omega, by omega⟩, fun h6 g1 g2 => ?_⟩
        have e0 := me_nil g2
        subst e0
        have ip : ip_t t' v' := ci.1.mp (by omega)
        refine ih 1 0 z (zn + 1) h6 (by omega) (by omega) (by omega) fm_in1 fm_in0 oz4 s1 (fun q => absurd q (by decide)) (fun _ => ⟨F4, ow', (g', a', 0, zw', ft_p y.1), t', v', e', jj, J, ⟨x4, cf, by show PI ow' g' (g' 0 5); rw [g5]; exact w2, w3, w4, by show g' 0 1 ≤ g' 0 0 + 1; omega, ⟨wa0, wa1⟩⟩, KX, K3X, K7, ez, ⟨fun q => absurd rfl q, fun q => absurd w8 q⟩, w12, Or.inr ip, by show zn + 1 ≤ g' 0 0; omega⟩)
    refine mt_riC s1 oa oz om os ol on oz4 ?_ (fun _ _ q => absurd cf q) ?_ ?_
    · intro q h5 g1 g2
      have e0 := me_nil g2
      subst e0
      exact go (fun q2 => by rw [zpv, if_neg q] at q2; exact q2.2 rfl)
    · intro b b2 q1 q2 q3 h5 g1 g2
      have e0 := me_nil g2
      subst e0
      exact go (fun q => q3 (by rw [es]; exact i126.mpr q.1))
    · intro b b2 q1 q2 q3 h5 g1 g2
      have e0 := me_nil g2
      subst e0
      have t126 := i126.mp (by rw [← es]; exact q3)
      have zp1 : ft_p y.1 ≠ 0 := by rw [zpv, if_pos q1]; decide
      obtain ⟨l9, l50⟩ := w9 zp1
      refine mt_riD s1 oa oz om fm_in1 oz4 on (fun q => absurd q (by decide)) ?_ ?_ ?_
      · intro _ q; exfalso; omega
      · intro _ q q4; exfalso; omega
      intro _ r1 r2
      refine ⟨⟨by omega, by omega⟩, fun h6 v1 v2 v3 => ?_⟩
      have x6 := CX_fr x4 v1 v3 (by decide)
      have ht6 := CT_fr w12 s1 v3 (by decide)
      have PSy : PSx y := fun _ => by
        rw [k5]
        exact Classical.byContradiction (fun q => y7.mpr q q1)
      have z151 : g' 151 (g' 0 5).toNat = 0 := PS_Tr _ y PSy w1 rfl
      have Q6 : CQ f ow' (rf_swap g') h6 := CQ_swap w4 s1 (by rw [g5]; exact w2) v3 (by rw [g5]; exact l9) z151 (fun i => by rw [v2 i, ez, g5, l50])
      have c12 : cs_t t' v' ≠ 12 := by have := i126.mpr t126; omega
      refine ⟨_, me_adv (d := d + 3) x6 ht6 wa1 (by omega) (by omega) c12, fun w h7 oww hq => ?_⟩
      obtain ⟨rfl, x7, F7, en7, ae7, t7, v7, e7, ht7⟩ := hq
      have Q7 := CQ_fr Q6 v1 F7 (by decide)
      have f7 : mi_f h7 9730 = 0 := ((me_f (c := 9730) F7 v1 rfl rfl).trans (me_f (c := 9730) v3 s1 rfl rfl)).trans cf
      have F7' : ab_Fr cw_W h0 h7 := (F4.trans (v3.wide (fun c hc => ab_swr_ok (by decide) hc))).trans (F7.wide (fun c hc => ab_swr_ok (by decide) hc))
      have TS : ft_T n c (g', a', 0, zw', ft_p y.1) (rf_swap g', e', 1, 0, 0) := ⟨_, _, _, _, w12.1, Or.inr ⟨fun q => by unfold ip_t at q; omega, rfl, Or.inr (Or.inl ⟨t126, zp1, rfl⟩)⟩⟩
      have PS := PI_swap (g := g') (by rw [g5]; exact w2) (by rw [g5]; exact l9) (by rw [g5]; exact l50)
      have s151 : rf_swap g' 151 (x.1 0 5).toNat ≠ 0 := by
        show (if (x.1 0 5).toNat = (g' 0 5).toNat then 1 else g' 151 (x.1 0 5).toNat) ≠ 0
        rw [g5, if_pos rfl]
        decide
      have KS2 : KL (x.1 0 5) (x.1 0 5) x.1 (rf_swap g') := by
        obtain ⟨a1, a2, a3, a4, a5, a6⟩ := KX
        refine ⟨a1, a2, a3, fun i hi => ?_, a5, a6⟩
        obtain ⟨i1, i2, i3, i4, i5⟩ := a4 i hi
        refine ⟨i1, i2, i3, i4, ?_⟩
        show (if i = (g' 0 5).toNat then 1 else g' 151 i) = _
        rw [if_neg (by omega)]
        exact i5
      refine mt_riE x7.1 oa oz om fm_in1 oz4 on (fun _ q => absurd f7 q) ?_ (fun _ _ _ q => absurd q (by decide)) (fun _ _ _ q => absurd q (by decide)) (fun _ _ _ q => absurd q (by decide))
      intro b _ _
      refine ⟨⟨by omega, by omega⟩, fun h8 g1 g2 => ?_⟩
      have e0 := me_nil g2
      subst e0
      refine ih 1 1 z (zn + 1) h8 (by omega) (by omega) (by omega) fm_in1 fm_in1 oz4 x7.1 (fun q => absurd q (by decide)) (fun _ => ⟨F7', ow', (rf_swap g', e', 1, 0, 0), t7, v7, e7, jj + 1, ft_snoc jj x J TS, ⟨x7, f7, PS, FI_cg w3 rfl rfl (fun _ => rfl), Q7, by show g' 0 1 ≤ g' 0 0 + 1; omega, ⟨by show 0 ≤ e'; omega, en7⟩⟩, KS2, K3X, K7, ez, ⟨fun _ => s151, fun _ => by decide⟩, ht7, Or.inl (by show (1 : Int) ≠ 0; decide), by show zn + 1 ≤ g' 0 0; omega⟩)
theorem me_readItems {D : Nat} {ow : Nat → Nat} {h : sm_H} {t v e : Int} (hD : 14 + 4 * (4 - x.1 0 5).toNat ≤ D) (hK : KS n c f ow x h) (HF : x.1 0 5 < 4 → rfo_S n c f (x.1 0 5 + 1)) (ht : CT n c h x.2.1 t v e) (hz : x.2.2.1 ≠ 0) (h150 : x.1 150 (x.1 0 5).toNat = -1) (h151 : x.1 151 (x.1 0 5).toNat = 0) : me_E D 54 0 [some (.inr (.inr 76)), some (.inl (x.1 147 (x.1 0 5).toNat)), some (.inl (x.1 0 5)), none, none, none, none] [] h (ri_P n c f x h) := by
  obtain ⟨d, rfl⟩ : ∃ d, D = d + 14 := ⟨D - 14, by omega⟩
  obtain ⟨hx, hf0, kP, kf, kQ, kA, ⟨ka0, ka1⟩⟩ := id hK
  obtain ⟨⟨p1, p2, p3, p4, p5, p6⟩, q1, -⟩ := id kP
  obtain ⟨l1, -⟩ := q1 (x.1 0 5).toNat (by omega)
  have oa : mi_in (x.1 147 (x.1 0 5).toNat) := ⟨by omega, by omega⟩
  refine mt_riA hx.1 oa ⟨by omega, by omega⟩ (fun h1 g1 g2 => ?_)
  have e0 := me_nil g2
  subst e0
  exact ri_loop (by omega) p6 oa HF 64 1 0 (-1) 0 h1 (by decide) (by decide) (by decide) fm_in1 fm_in0 ⟨by decide, by decide⟩ hx.1 (fun q => absurd q (by decide)) (fun _ => ⟨ab_Fr.refl, ow, x, t, v, e, 0, rfl, hK, KL_refl, ⟨Int.le_refl _, fun _ _ => rfl⟩, rfl, h150.symm, ⟨fun q => absurd rfl q, fun q => absurd h151 q⟩, ht, Or.inl hz, p1.1⟩)
end KIT
