/-! the class's readPart: a group; joined -/
/-- readForm at level k -/
def rfo_Q (n : Int) (c : Nat → Int) (f : Int → Int) (k : Int) (g : wk_g) (a : Int) (h : sm_H) (w : Option mi_V) (h' : sm_H) : Prop :=
  w = none ∧ ab_Sh sx_sk h' ∧ ab_Fr cw_W h h' ∧
  (mi_f h' 9730 = 0 → CX n c h' ∧ ∃ ow' g' a' zw' zp' t' v' e' j, ft_Tr n c j (rf_beg g 0, a, 1, 0, 0) (g', a', 0, zw', zp') ∧ PI ow' g' k ∧ FI f g' ∧ CQ f ow' g' h' ∧ KL k k g g' ∧ g' 0 1 ≤ g' 0 0 ∧ CT n c h' a' t' v' e' ∧ (0 ≤ a' ∧ a' ≤ n) ∧ ¬ ip_t t' v' ∧ ¬ ((t' = 42 ∨ t' = 63) ∧ zw' ≠ 0) ∧ ¬ (t' = 126 ∧ zp' ≠ 0) ∧ t' ≠ 124 ∧ K3x k g g') ∧
  (mi_f h' 9730 ≠ 0 → kB n c (rf_beg g 0, a, 1, 0, 0) h')
def rfo_S (n : Int) (c : Nat → Int) (f : Int → Int) (k : Int) : Prop := ∀ (D : Nat) (ow : Nat → Nat) (g : wk_g) (h : sm_H) (zf a t v e : Int), 15 + 4 * (4 - k).toNat ≤ D → CX n c h → mi_f h 9730 = 0 → PI ow g (k - 1) → FI f g → CQ f ow g h → g 0 5 = k → f (g 146 k.toNat) = zf → g 130 (g 146 k.toNat).toNat = 0 → g 0 1 ≤ g 0 0 → CT n c h a t v e → 0 ≤ a → a ≤ n → swN g k → me_E D 52 0 [some (.inr (.inr 76)), some (.inl zf), some (.inl k), none, none, none, none] [] h (rfo_Q n c f k g a h)
section KPB
variable {n : Int} {c : Nat → Int} {f : Int → Int} {ow : Nat → Nat} {x : ft_X} {h : sm_H} {t v e : Int}
theorem kp69g {d : Nat} {h1 h2 h4 : sm_H} {t2 v2 e2 : Int} (hd : 4 * (4 - x.1 0 5).toNat ≤ d) (hK : KS n c f ow x h1) (HF : rfo_S n c f (x.1 0 5 + 1)) (ht : CT n c h1 x.2.1 40 v e) (hN : ¬ rp_N x.1 40 v) (s1 : ab_Sh sx_sk h2) (s2 : ab_Fr gp_W h1 h2) (hR : gp_R h1 h2 10 0 (mi_f h1 9858)) (x4 : CX n c h4) (F4 : ab_Fr ca_W h2 h4) (en : e ≤ n) (ae : x.2.1 < e) (ht4 : CT n c h4 e t2 v2 e2) (f4 : mi_f h4 9730 = 0) : me_E (d + 12) 59 69 [some (.inr (.inr 76)), some (.inl (x.1 0 5)), some (.inl 10), some (.inl (x.1 0 0)), none] [] h4 (rp_P n c f x h1) := by
  obtain ⟨hx, hf0, kP, kf, kQ, kA, ⟨ka0, ka1⟩⟩ := id hK
  obtain ⟨⟨p1, p2, p3, p4, p5, p6⟩, q1, q2, q3, q4, q5, q6, q7, q8⟩ := id kP
  obtain ⟨⟨c0, c1, c2, c3, c4⟩, d1, d2, d3, d4, d5, d6, d7, d8, d9, dw⟩ := id kQ
  obtain ⟨r0, r68, r69, r70, r71, r72, r73, r74⟩ := hR
  have U60 : x.1 0 0 < 60 := by
    have : x.1 0 0 ≠ 60 := fun y => hN (Or.inl y)
    omega
  have k4 : x.1 0 5 < 4 := by
    have : x.1 0 5 ≠ 4 := fun y => hN (Or.inr (Or.inl ⟨rfl, y⟩))
    omega
  have oz : mi_in (x.1 0 5) := ⟨by omega, by omega⟩
  have ou : mi_in (x.1 0 0) := ⟨by omega, by omega⟩
  have o10 : mi_in 10 := ⟨by decide, by decide⟩
  have ip40 : ip_t 40 v := Or.inr (Or.inr (Or.inr (Or.inr rfl)))
  have e85 : mi_f h4 7685 = mi_f h1 7685 := (me_f (c := 7685) F4 s1 rfl rfl).trans (me_f (c := 7685) s2 hx.1 rfl rfl)
  refine mt_rpE x4.1 oz o10 ou (fun _ y => absurd rfl y) ?_ (fun _ y => absurd y (by decide)) (fun _ y => absurd y (by decide)) (fun _ y => absurd y (by decide))
  intro _ _ h5 g1 g2
  have e0 := me_nil g2
  subst e0
  refine ⟨_, me_gaddGroup (d := d + 10) x4.1 (by omega) (by omega), fun w h6 oww hq => ?_⟩
  obtain ⟨rfl, u1, u2, u3⟩ := hq
  have oz2 : mi_in (10 + mi_f h5 7685) := ⟨by omega, by omega⟩
  refine mt_rpH (zz := 10 + mi_f h5 7685) u1 oz o10 ou oz2 ?_ ?_ ?_
  · intro y; exfalso; omega
  · intro y y2; exfalso; omega
  intro y y2
  refine ⟨⟨⟨by omega, by omega⟩, ⟨by omega, by omega⟩⟩, fun h7 v1 v2 v3 => ?_⟩
  /- the state when the group's form begins -/
  have F7a : ab_Fr cu_W h1 h7 := (((s2.wide (fun c hc => ab_swr_ok (by decide) hc)).trans (F4.wide (fun c hc => ab_swr_ok (by decide) hc))).trans (u2.wide (fun c hc => ab_swr_ok (by decide) hc))).trans (v3.wide (fun c hc => ab_swr_ok (by decide) hc))
  have F7 : ab_Fr cw_W h1 h7 := F7a.wide (fun c hc => ab_swr_ok (by decide) hc)
  have F57 : ab_Fr [(7685, 7686), (8832, 8833)] h5 h7 := (u2.wide (fun c hc => ab_swr_ok (by decide) hc)).trans (v3.wide (fun c hc => ab_swr_ok (by decide) hc))
  have x7 := CX_fr x4 v1 F57 (by decide)
  have ht7 := CT_fr ht4 x4.1 F57 (by decide)
  have f7 : mi_f h7 9730 = 0 := (me_f (c := 9730) F57 x4.1 rfl rfl).trans f4
  have st : ∀ k, (mx_isA sx_sk k || mx_isB sx_sk k) = true → ab_in ca_W (k * 128) = false → ab_in [(7685, 7686), (8832, 8833)] (k * 128) = false → ∀ i, mi_a h7 k i = mi_a h2 k i := fun k a1 a2 a3 i => (me_a (k := k) F57 x4.1 a1 a3).trans (me_a (k := k) F4 s1 a1 a2)
  have zf : 10 + mi_f h5 7685 = f (x.1 0 2) := by
    rw [kf.2.1 (x.1 0 2) (Int.le_refl _)]
    omega
  have R69 : ∀ i, mi_a h7 69 i = if i = (mi_f h1 7690).toNat then f (x.1 0 2) else mi_a h1 69 i := fun i => by
    rw [v2, c0]
    by_cases ci : i = (x.1 0 0).toNat
    · rw [if_pos ci, if_pos ci, zf]
    · rw [if_neg ci, if_neg ci, me_a (k := 69) u2 x4.1 rfl rfl, me_a (k := 69) F4 s1 rfl rfl, r69, c0, if_neg ci]
  obtain ⟨Q7, I7⟩ := CQ_open (p := mi_f h1 9858) kQ hx.1 kP kf U60 F7a (by rw [me_f (c := 7685) v3 u1 rfl rfl, u3, e85]) (by rw [me_f (c := 7690) F57 x4.1 rfl rfl, me_f (c := 7690) F4 s1 rfl rfl, r0]) (by rw [me_f (c := 7698) F57 x4.1 rfl rfl, me_f (c := 7698) F4 s1 rfl rfl, me_f (c := 7698) s2 hx.1 rfl rfl]) (fun i => by rw [st 75 rfl rfl rfl, me_a (k := 75) s2 hx.1 rfl rfl]) (fun i => by rw [st 68 rfl rfl rfl, r68]) R69 (fun i => by rw [st 70 rfl rfl rfl, r70]) (fun i => by rw [st 71 rfl rfl rfl, r71]) (fun i => by rw [st 72 rfl rfl rfl, r72]) (fun i hi => by rw [st 73 rfl rfl rfl, r73, if_neg hi]) (fun i hi => (q1 i hi).2.1.2) (fun i => by rw [st 74 rfl rfl rfl, r74])
  obtain ⟨PU, UU⟩ := PI_unit (s := 10) (w := 0) (p := mi_f h1 9858) kP U60
  have P7 := PI_open (g := rf_unit x.1 10 0 (mi_f h1 9858)) (u := x.1 0 0) PU UU k4 (by show x.1 0 2 < x.1 0 0 + 1 + x.1 0 3; omega) (fun i i1 hi => (q3 i i1 hi).1.2) (fun i hi => by have := q1 i hi; unfold pi_lev at this; exact ⟨this.2.1.2, this.2.2.1.2⟩)
  obtain ⟨g3, hg3⟩ : ∃ g3, g3 = rf_o2 (rf_new (rf_o1 (rf_unit x.1 10 0 (mi_f h1 9858)) (x.1 0 0))) (x.1 0 0) (x.1 0 2) := ⟨_, rfl⟩
  have swn : swN g3 (x.1 0 5 + 1) := by
    intro _
    have e0 : g3 0 0 = x.1 0 0 + 1 := by rw [hg3]; rfl
    have e48 : g3 148 (x.1 0 5 + 1).toNat = x.1 0 0 := by
      rw [hg3]
      show (if (x.1 0 5 + 1).toNat = (x.1 0 5 + 1).toNat then x.1 0 0 else x.1 148 (x.1 0 5 + 1).toNat) = _
      rw [if_pos rfl]
    omega
  have P7' : PI (ow_new x.1 ow) g3 (x.1 0 5 + 1 - 1) := by
    rw [hg3, Int.add_sub_cancel]
    exact P7
  rw [← hg3] at Q7 I7
  have K5 : g3 0 5 = x.1 0 5 + 1 := by rw [hg3]; rfl
  have K3 : g3 0 3 = x.1 0 3 := by rw [hg3]; rfl
  have K0 : g3 0 0 = x.1 0 0 + 1 := by rw [hg3]; rfl
  have K2 : g3 0 2 = x.1 0 2 + 1 := by rw [hg3]; rfl
  have K1 : g3 0 1 = x.1 0 1 := by rw [hg3]; rfl
  have a146 : ∀ i, g3 146 i = if i = (x.1 0 5 + 1).toNat then x.1 0 2 else x.1 146 i := fun i => by rw [hg3]; rfl
  have a148 : ∀ i, g3 148 i = if i = (x.1 0 5 + 1).toNat then x.1 0 0 else x.1 148 i := fun i => by rw [hg3]; rfl
  have a130 : ∀ i, g3 130 i = if i = (x.1 0 2).toNat then 0 else x.1 130 i := fun i => by rw [hg3]; rfl
  have aO : ∀ i, g3 147 i = x.1 147 i ∧ g3 149 i = x.1 149 i ∧ g3 150 i = x.1 150 i ∧ g3 151 i = x.1 151 i := fun i => by rw [hg3]; exact ⟨rfl, rfl, rfl, rfl⟩
  have T0 : ft_T n c x (rf_beg g3 0, e, 1, 0, 0) := ⟨_, _, _, _, ht.1, Or.inl ⟨ip40, hN, _, Or.inl ⟨rfl, rfl⟩, Or.inl ⟨rfl, by rw [hg3]⟩⟩⟩
  clear hg3
  have e146 : g3 146 (x.1 0 5 + 1).toNat = x.1 0 2 := by rw [a146, if_pos rfl]
  refine ⟨_, HF (d + 11) _ g3 h7 _ e _ _ _ (by omega) x7 f7 P7' I7 Q7 K5 (by rw [e146]; exact zf.symm) (by rw [e146, a130, if_pos rfl]) (by omega) ht7 (by omega) en swn, fun w h8 oww hq => ?_⟩
  obtain ⟨rfl, w1, w2, w3, w4⟩ := hq
  have F8 : ab_Fr cw_W h1 h8 := F7.trans w2
  refine mt_rpI w1 oz o10 ou oz2 (fun h9 g1 g2 => ?_)
  have e0 := me_nil g2
  subst e0
  have fin : ∀ {h10 h11 : sm_H}, ab_Sh sx_sk h10 → ab_Fr [] h10 h11 → rp_P n c f x h1 (some (.inl (x.1 0 0))) h10 → rp_P n c f x h1 (some (.inl (x.1 0 0))) h11 := fun {h10 h11} _ z1 z2 => by
    have e0 := me_nil z1
    rw [e0]
    exact z2
  by_cases cf : mi_f h9 9730 = 0
  · obtain ⟨x9, ow', g', a', zw', zp', t', v', e', j, y1, y2, y3, y4, y5, y6, y7, ⟨ya0, ya1⟩, y8, y9, y10, y11, y12⟩ := w3 cf
    have ci := cs_i y7.1
    have k41 := ci.2.2.2.2.2.2.2.1 41 (by decide)
    refine ⟨_, me_expect (d := d) (zm := 41) x9 y7 ya1 ⟨by decide, by decide⟩ cf (fun z => by have := k41.mp z; exact ⟨by omega, by omega, by omega⟩), fun w h10 oww hq => ?_⟩
    obtain ⟨rfl, hq⟩ := hq
    have s10 : ab_Sh sx_sk h10 := by
      rcases hq with z | z
      · exact z.2.1
      · exact z.2.1.1
    refine mt_rpJ s10 oz o10 ou oz2 (fun h11 g1 g2 => fin s10 g2 ?_)
    obtain ⟨l1, l2, l3, l4, l5, l6⟩ := y5
    rcases hq with ⟨z1, z2, z3, z4, z5⟩ | ⟨z1, z2, z3, z4, z5, t4, v4, e4, z6⟩
    · refine ⟨rfl, s10, F8.trans (z5.wide (fun c hc => ab_swr_ok (by decide) hc)), fun q => by omega, fun _ => ?_⟩
      refine kB_pre (j := 1) ⟨_, T0, rfl⟩ (kB_of x9.1 z3 z4 (by decide) ⟨j, _, y1, _, _, _, _, y7.1, Or.inr (Or.inr (Or.inr (Or.inr ⟨y8, rfl, y9, y10, y11, fun q => z1 (k41.mpr q.1), fun q => ?_, rfl⟩)))⟩)
      have : g' 0 5 ≤ 0 := q.2
      omega
    · have t41 := k41.mp z1
      subst t41
      have u5 : g' 148 (g' 0 5).toNat = x.1 0 0 := by
        rw [l1, K5, l5 _ (by omega), a148, if_pos rfl]
      have k5' : g' 0 5 = x.1 0 5 + 1 := l1.trans K5
      have PL := PI_lvl (ow := ow') (g := g') (by rw [k5']; exact y2) (by omega)
      rw [u5] at PL
      obtain ⟨PL1, PL2, PL3, PL4⟩ := PL
      have ek : g' 0 5 - 1 = x.1 0 5 := by omega
      rw [ek] at PL1 PL2 PL3 PL4
      have TC : ft_T n c (g', a', 0, zw', zp') (rf_put (rf_lvl g' (x.1 0 5)) (x.1 0 0), e', 0, 1, ft_p (rf_lvl g' (x.1 0 5))) := ⟨_, _, _, _, y7.1, Or.inr ⟨y8, rfl, Or.inr (Or.inr (Or.inr ⟨rfl, by show 0 < g' 0 5; omega, by show _ = (rf_put (rf_lvl g' (g' 0 5 - 1)) (g' 148 (g' 0 5).toNat), e', 0, 1, ft_p (rf_lvl g' (g' 0 5 - 1))); rw [u5, ek]⟩))⟩⟩
      have ep : ft_p (rf_lvl g' (x.1 0 5)) = ft_p x.1 := by
        show (if g' 151 (x.1 0 5).toNat = 0 then 1 else 0) = (if x.1 151 (x.1 0 5).toNat = 0 then 1 else 0)
        rw [(l4 (x.1 0 5).toNat (by omega)).2.2.2.2, (aO _).2.2.2]
      rw [ep] at TC
      refine ⟨rfl, s10, F8.trans (z3.wide (fun c hc => ab_swr_ok (by decide) hc)), fun _ => ⟨z2, ow', rf_lvl g' (x.1 0 5), e', t4, v4, e4, 1 + (j + 1), ?_, PL1, PL2, PL3, PL4, FI_cg y3 rfl rfl (fun _ => rfl), ?_, ⟨rfl, l2.trans K3, ?_, fun i hi => ?_, fun i hi => ?_, ?_⟩, ?_, z6, ⟨by omega, z4⟩, ?_, ?_⟩, fun q => ?_⟩
      · obtain ⟨i, h3⟩ := ft_app (ft_snoc j _ y1 TC) 1 x ⟨_, T0, rfl⟩
        rw [Nat.add_comm]
        exact ⟨_, T0, ft_snoc j _ y1 TC⟩
      · obtain ⟨d0, d1, d2, d3, d4, d5, d6, d7, d8, d9, dw⟩ := CQ_fr y4 x9.1 z3 (by decide)
        have z151 : g' 151 (g' 0 5).toNat = 0 := PS_Tr j _ (fun q => absurd q (show (1 : Int) ≠ 0 from by decide)) y1 rfl
        have dv := sW_lvl dw (by omega) z151
        rw [ek] at dv
        exact ⟨d0, d1, d2, d3, d4, d5, d6, d7, d8, d9, dv⟩
      · show x.1 0 0 ≤ g' 0 0
        omega
      · obtain ⟨i1, i2, i3, i4, i5⟩ := l4 i (by omega)
        show g' 146 i = _ ∧ g' 147 i = _ ∧ g' 149 i = _ ∧ g' 150 i = _ ∧ g' 151 i = _
        obtain ⟨j1, j2, j3, j4⟩ := aO i
        rw [i1, i2, i3, i4, i5, j1, j2, j3, j4, a146, if_neg (by omega)]
        exact ⟨rfl, rfl, rfl, rfl, rfl⟩
      · show g' 148 i = _
        rw [l5 i (by omega), a148, if_neg (by omega)]
      · show g' 146 (x.1 0 5).toNat = _
        rw [(l4 (x.1 0 5).toNat (by omega)).1, a146, if_neg (by omega)]
      · show g' 0 1 ≤ g' 0 0
        exact y6
      · show x.1 0 0 < g' 0 0
        omega
      · have K2 : g3 0 2 = x.1 0 2 + 1 := K2
        refine ⟨by show x.1 0 2 ≤ g' 0 2; have := y12.1; omega, fun y hy => ?_⟩
        show g' 130 y = _
        rw [y12.2 y (by omega) (by rw [e146]; omega), a130, if_neg (by omega)]
      · have : mi_f h10 9730 = 0 := (me_f (c := 9730) z3 x9.1 rfl rfl).trans cf
        exact absurd this q
  · refine ⟨_, me_expectF (d := d) (zm := 41) w1 ⟨by decide, by decide⟩ cf, fun w h10 oww hq => ?_⟩
    obtain ⟨rfl, rfl⟩ := hq
    refine mt_rpJ w1 oz o10 ou oz2 (fun h11 g1 g2 => fin w1 g2 ?_)
    exact ⟨rfl, w1, F8, fun q => absurd q cf, fun q => kB_pre (j := 1) ⟨_, T0, rfl⟩ (w4 q)⟩
theorem me_readPart {D : Nat} (hD : 12 + 4 * (4 - x.1 0 5).toNat ≤ D) (hK : KS n c f ow x h) (HF : x.1 0 5 < 4 → rfo_S n c f (x.1 0 5 + 1)) (ht : CT n c h x.2.1 t v e) (hip : ip_t t v) (hN : ¬ rp_N x.1 t v) : me_E D 59 0 [some (.inr (.inr 76)), some (.inl (x.1 0 5)), none, none, none] [] h (rp_P n c f x h) := by
  obtain ⟨d, rfl⟩ : ∃ d, D = d + 12 := ⟨D - 12, by omega⟩
  obtain ⟨hx, hf0, kP, kf, kQ, kA, ⟨ka0, ka1⟩⟩ := id hK
  obtain ⟨⟨p1, p2, p3, p4, p5, p6⟩, q1, q2, q3, q4, q5, q6, q7, q8⟩ := id kP
  obtain ⟨⟨c0, c1, c2, c3, c4⟩, d1, d2, d3, d4, d5, d6, d7, d8, d9, dw⟩ := id kQ
  have ci := cs_i ht.1
  obtain ⟨k0, k6⟩ := ip_ne hip
  have k12 := ci.2.2.2.2.2.2.2.2.2.2 hip
  have cb := ci.2.2.2.2.2.2.2.2.2.1
  have es := ht.2.1
  obtain ⟨ec, -⟩ := ht.2.2 k0 k6 k12
  have kk := tk_f ka1 ht.1
  have U60 : x.1 0 0 < 60 := by
    have : x.1 0 0 ≠ 60 := fun y => hN (Or.inl y)
    omega
  have oz : mi_in (x.1 0 5) := ⟨by omega, by omega⟩
  have os : mi_in (cs_t t v) := ⟨by omega, by omega⟩
  have ou : mi_in (x.1 0 0) := ⟨by omega, by omega⟩
  have b60 := me_fb (c := 9860) hx.1 rfl
  have b58 := CT_p hx ht ka1
  refine mt_rpA hx.1 oz (fun h1 g1 g2 => ?_)
  have e0 := me_nil g2
  subst e0
  refine ⟨_, me_gaddPart (d := d + 10) hx.1 ⟨by omega, by omega⟩ ⟨by omega, by omega⟩ ⟨by omega, by omega⟩ (by omega) (by omega), fun w h2 oww hq => ?_⟩
  obtain ⟨rfl, s1, s2, r0, r68, r69, r70, r71, r72, r73, r74⟩ := hq
  rw [es] at r68 ⊢
  rw [c0] at r68 r69 r70 r71 r72 r73 ⊢
  have S2 : ab_Fr [(7680, 9728)] h1 h2 := s2.wide (fun c hc => ab_swr_ok (by decide) hc)
  refine mt_rpB (zz := x.1 0 0) s1 oz os ou ?_ ?_
  · intro n8 h3 g1 g2
    have e0 := me_nil g2
    subst e0
    by_cases c40 : t = 40
    rotate_left
    · /- a word or a use -/
      have t12 : t = 1 ∨ t = 2 := by
        have n34 : ¬ (t = 3 ∨ t = 4) := fun y => n8 (ci.2.2.1.mpr y)
        unfold ip_t at hip
        omega
      have s9 : cs_t t v = pu_s t v := ci.2.2.2.2.2.2.2.2.1 hip
      have n10 : cs_t t v ≠ 10 := fun y => c40 (ci.2.2.2.1.mp y)
      have hv : mi_f h1 9860 = if cs_t t v = 9 then pu_w t v + 65 else pu_w t v := by
        rw [ec]
        rcases t12 with y | y
        · have : cs_t t v ≠ 9 := fun z => by have := ci.2.1.mp z; omega
          rw [if_neg this, y]
          rfl
        · rw [if_pos (ci.2.1.mpr y), y]
          rfl
      have hw9 : cs_t t v = 9 → 0 ≤ pu_w t v ∧ pu_w t v < 26 := fun y => by
        have y2 := ci.2.1.mp y
        have := kk.2.2.2.1 y2
        unfold pu_w
        rw [if_pos y2]
        omega
      have Q3 := CQ_unit (gl := x.1) (s := cs_t t v) (w := pu_w t v) (p := mi_f h1 9858) (zv := mi_f h1 9860) kQ hx.1 kP U60 (fun _ _ _ => rfl) (fun _ _ => rfl) (s2.wide (fun c hc => ab_swr_ok (by decide) hc)) (me_f (c := 7685) s2 hx.1 rfl rfl) r0 ((me_f (c := 7698) s2 hx.1 rfl rfl).trans c3) (fun l hl => by rw [me_a (k := 75) s2 hx.1 rfl rfl]; exact d8 l hl) (by rw [c0]; exact r68) (by rw [c0]; exact r69) (by rw [c0]; exact r70) (by rw [c0]; exact r71) (by rw [c0]; exact r72) (fun i hi => by rw [c0] at hi; rw [r73, if_neg hi]) hv n10 hw9 (fun i hi => (q1 i hi).2.1.2) (fun i => by first | exact r74 i | (rw [c0]; exact r74 i))
      obtain ⟨P3, U3⟩ := PI_unit (s := cs_t t v) (w := pu_w t v) (p := mi_f h1 9858) kP U60
      have rR : rp_R x.1 t v (mi_f h1 9858) (rf_put (rf_unit x.1 (cs_t t v) (pu_w t v) (mi_f h1 9858)) (x.1 0 0)) := Or.inr (Or.inr ⟨t12, by rw [s9]⟩)
      refine kp62 (gb := rf_unit x.1 (cs_t t v) (pu_w t v) (mi_f h1 9858)) hK ht hip c40 (fun g2 a2 y1 y2 => ⟨_, _, _, _, ht.1, Or.inl ⟨hip, hN, _, rR, Or.inr ⟨c40, g2, a2, y1, y2, rfl⟩⟩⟩) (fun y p3 y2 => ⟨_, _, _, _, ht.1, Or.inr (Or.inl ⟨hip, hN, y, p3, y2, rfl⟩)⟩) s1 S2 Q3 P3 U3 ⟨rfl, rfl, ?_, fun _ _ => ⟨rfl, rfl, rfl, rfl, rfl⟩, fun _ _ => rfl, rfl⟩ ⟨Int.le_refl _, fun _ _ => rfl⟩ rfl rfl (FI_cg kf rfl rfl (fun _ => rfl)) (fun y => ?_)
      · show x.1 0 0 ≤ x.1 0 0 + 1
        omega
      · show (if (x.1 0 0).toNat = (x.1 0 0).toNat then cs_t t v else x.1 119 (x.1 0 0).toNat) = 1
        rw [if_pos rfl]
        exact ci.2.2.2.2.1.mpr y
    · /- a group -/
      subst c40
      have k4 : x.1 0 5 < 4 := by
        have : x.1 0 5 ≠ 4 := fun y => hN (Or.inr (Or.inl ⟨rfl, y⟩))
        omega
      have HF := HF k4
      have cs10 : cs_t 40 v = 10 := rfl
      have hx2 := CX_fr hx s1 s2 (by decide)
      have ht2 := CT_fr ht hx.1 s2 (by decide)
      have f2 : mi_f h3 9730 = 0 := (me_f (c := 9730) s2 hx.1 rfl rfl).trans hf0
      refine mt_rpD s1 oz os ou (fun h3' g1 g2 => ?_)
      have e0 := me_nil g2
      subst e0
      refine ⟨_, me_adv (d := d + 1) hx2 ht2 ka1 k0 k6 k12, fun w h4 oww hq => ?_⟩
      obtain ⟨rfl, x4, F4, en, ae, t2, v2, e2, ht4⟩ := hq
      have f4 : mi_f h4 9730 = 0 := (me_f (c := 9730) F4 s1 rfl rfl).trans f2
      have ec0 : mi_f h1 9860 = 0 := ec
      rw [cs10] at r68
      rw [ec0] at r69
      exact kp69g (by omega) hK HF ht hN s1 s2 ⟨r0, by rw [c0]; exact r68, by rw [c0]; exact r69, by rw [c0]; exact r70, by rw [c0]; exact r71, by rw [c0]; exact r72, by rw [c0]; exact r73, by rw [c0] at r74 ⊢; exact r74⟩ x4 F4 en ae ht4 f4
  · intro y8 h3 g1 g2
    have e0 := me_nil g2
    subst e0
    have t34 := ci.2.2.1.mp y8
    have el : mi_f h1 9860 = lc_t t v := by
      rw [ec]
      rcases t34 with y | y
      · rw [y]; rfl
      · rw [y]; rfl
    have e60 : mi_f h3 9860 = mi_f h1 9860 := me_f (c := 9860) s2 hx.1 rfl rfl
    have e98 : mi_f h3 7698 = mi_f h1 7698 := me_f (c := 7698) s2 hx.1 rfl rfl
    have e75 : ∀ i, mi_a h3 75 i = mi_a h1 75 i := fun i => me_a (k := 75) s2 hx.1 rfl rfl
    have key : (∀ j : Nat, (j : Int) < mi_f h3 7698 → mi_a h3 75 j ≠ mi_f h3 9860) → mi_f h3 7698 < 20 := fun y => by
      have : ¬ (x.1 0 4 = 20) := fun y20 => hN (Or.inr (Or.inr ⟨t34, fun j hj => by
        rw [← d8 j hj, ← el, ← e75, ← e60]
        exact y j (by omega), y20⟩))
      omega
    refine ⟨_, me_gaddLiteral (d := d + 9) s1 ⟨by omega, by omega⟩ (by omega) (by omega) key, fun w h4 oww hq => ?_⟩
    obtain ⟨u1, u2, z, rfl, hz⟩ := hq
    have z20 : 0 ≤ z ∧ z < 20 := by
      rcases hz with y | y
      · omega
      · have := key (y.2.1)
        omega
    have S4 : ab_Fr [(7680, 9728)] h1 h4 := S2.trans (u2.wide (fun c hc => ab_swr_ok (by decide) hc))
    refine mt_rpC (zz := z) (zq := x.1 0 0) u1 oz os ou ⟨by omega, by omega⟩ ou ?_ ?_ ?_
    · intro y; exfalso; omega
    · intro y y2; exfalso; omega
    · intro y y2
      refine ⟨⟨by omega, by omega⟩, fun h5 v1 v2 v3 => ?_⟩
      have S5 : ab_Fr [(7680, 9728)] h1 h5 := S4.trans (v3.wide (fun c hc => ab_swr_ok (by decide) hc))
      have F5 : ab_Fr cu_W h1 h5 := ((s2.wide (fun c hc => ab_swr_ok (by decide) hc)).trans (u2.wide (fun c hc => ab_swr_ok (by decide) hc))).trans (v3.wide (fun c hc => ab_swr_ok (by decide) hc))
      have st : ∀ k, (mx_isA sx_sk k || mx_isB sx_sk k) = true → ab_in [(7698, 7699), (9600, 9601)] (k * 128) = false → ab_in [(8832, 8833)] (k * 128) = false → ∀ i, mi_a h5 k i = mi_a h3 k i := fun k a1 a2 a3 i => (me_a (k := k) v3 u1 a1 a3).trans (me_a (k := k) u2 s1 a1 a2)
      have R69 : ∀ i, mi_a h5 69 i = if i = (x.1 0 0).toNat then z else mi_a h1 69 i := fun i => by
        rw [v2]
        by_cases ci : i = (x.1 0 0).toNat
        · rw [if_pos ci, if_pos ci]
        · rw [if_neg ci, if_neg ci, me_a (k := 69) u2 s1 rfl rfl, r69, if_neg ci]
      have e85 : mi_f h5 7685 = mi_f h1 7685 := ((me_f (c := 7685) v3 u1 rfl rfl).trans (me_f (c := 7685) u2 s1 rfl rfl)).trans (me_f (c := 7685) s2 hx.1 rfl rfl)
      have e90 : mi_f h5 7690 = mi_f h1 7690 + 1 := ((me_f (c := 7690) v3 u1 rfl rfl).trans (me_f (c := 7690) u2 s1 rfl rfl)).trans r0
      have e98' : mi_f h5 7698 = mi_f h4 7698 := me_f (c := 7698) v3 u1 rfl rfl
      have e75' : ∀ i, mi_a h5 75 i = mi_a h4 75 i := fun i => me_a (k := 75) v3 u1 rfl rfl
      have cs8 : cs_t t v = 8 := y8
      have n40 : t ≠ 40 := by omega
      obtain ⟨gl, hl, gr, g0, gP, l98, l75, gf⟩ : ∃ gl, rl_R x.1 (lc_t t v) z gl ∧ (∀ r, r ≠ 0 → r ≠ 117 → gl r = x.1 r) ∧ (∀ i, i ≠ 4 → gl 0 i = x.1 0 i) ∧ PI ow gl (x.1 0 5) ∧ mi_f h5 7698 = gl 0 4 ∧ (∀ l : Nat, (l : Int) < gl 0 4 → mi_a h5 75 l = gl 117 l) ∧ FI f gl := by
        rcases hz with ⟨w1, w2, w3, w4, w5⟩ | ⟨w1, w2, w3, w4⟩
        · refine ⟨x.1, Or.inl ⟨w1, by omega, ?_, fun j hj => ?_, rfl⟩, fun _ _ _ => rfl, fun _ _ => rfl, kP, ?_, fun l hl => ?_, kf⟩
          · rw [← d8 z.toNat (by omega), ← el, ← e60, ← e75]; exact w3
          · rw [← d8 j (by omega), ← el, ← e60, ← e75]; exact w4 j hj
          · rw [e98', w5, e98, c3]
          · rw [e75', w5, e75]; exact d8 l hl
        · have L20 : x.1 0 4 < 20 := by have := key w2; omega
          have gg : ∀ r, r ≠ 0 → r ≠ 117 → rf_lit x.1 (lc_t t v) r = x.1 r := fun r hr0 hr1 => by
            funext i
            unfold rf_lit
            rw [if_neg hr0, if_neg hr1]
          refine ⟨rf_lit x.1 (lc_t t v), Or.inr ⟨fun j hj => ?_, L20, by omega, rfl⟩, gg, fun i hi => ?_, ?_, ?_, fun l hl => ?_, ?_⟩
          · rw [← d8 j hj, ← el, ← e60, ← e75]; exact w2 j (by omega)
          · show (if i = 4 then x.1 0 4 + 1 else x.1 0 i) = _
            rw [if_neg hi]
          · exact PI_cg kP ⟨rfl, rfl, rfl, rfl, rfl⟩ (by show 0 ≤ x.1 0 4 + 1 ∧ x.1 0 4 + 1 ≤ 20; omega) (fun r hr i => by rw [gg r (by intro q; rw [q] at hr; revert hr; decide) (by intro q; rw [q] at hr; revert hr; decide)])
          · rw [e98', w3]
            show _ = x.1 0 4 + 1
            omega
          · have hl : (l : Int) < x.1 0 4 + 1 := hl
            rw [e75', w4]
            show _ = (if l = (x.1 0 4).toNat then lc_t t v else x.1 117 l)
            have ee : mi_f h3 7698 = x.1 0 4 := e98.trans c3
            rw [ee]
            by_cases cl : l = (x.1 0 4).toNat
            · rw [if_pos cl, if_pos cl, e60, el]
            · rw [if_neg cl, if_neg cl, e75]; exact d8 l (by omega)
          · exact FI_cg kf rfl rfl (fun i => by rw [gg 114 (by decide) (by decide)])
      have gU : gl 0 0 = x.1 0 0 := g0 0 (by decide)
      have Q5 := CQ_unit (gl := gl) (s := cs_t t v) (w := z) (p := mi_f h1 9858) (zv := z) kQ hx.1 kP U60 gr g0 F5 e85 e90 l98 l75 (by rw [c0]; exact fun i => by rw [st 68 rfl rfl rfl]; exact r68 i) (by rw [c0]; exact R69) (by rw [c0]; exact fun i => by rw [st 70 rfl rfl rfl]; exact r70 i) (by rw [c0]; exact fun i => by rw [st 71 rfl rfl rfl]; exact r71 i) (by rw [c0]; exact fun i => by rw [st 72 rfl rfl rfl]; exact r72 i) (fun i hi => by rw [c0] at hi; rw [st 73 rfl rfl rfl, r73, if_neg hi]) (by rw [if_neg (by omega)]) (by omega) (fun q => by omega) (fun i hi => (q1 i hi).2.1.2) (fun i => by rw [st 74 rfl rfl rfl]; first | exact r74 i | (rw [c0]; exact r74 i))
      have PU := PI_unit (s := cs_t t v) (w := z) (p := mi_f h1 9858) gP (by omega)
      rw [gU] at PU
      have eow : ow_new gl ow = ow_new x.1 ow := by
        unfold ow_new
        rw [gU]
      rw [eow] at PU
      obtain ⟨P5, U5⟩ := PU
      have rR : rp_R x.1 t v (mi_f h1 9858) (rf_put (rf_unit gl (cs_t t v) z (mi_f h1 9858)) (x.1 0 0)) := Or.inr (Or.inl ⟨t34, z, gl, hl, by rw [cs8]⟩)
      have rw_ : ∀ r i, r ≠ 0 → r ≠ 117 → r ∉ [119, 120, 121, 122, 124, 125] → rf_unit gl (cs_t t v) z (mi_f h1 9858) r i = x.1 r i := fun r i a1 a2 a3 => by
        simp only [List.mem_cons, List.not_mem_nil, or_false, not_or] at a3
        unfold rf_unit
        rw [if_neg a1, if_neg a3.1, if_neg a3.2.1, if_neg a3.2.2.1, if_neg a3.2.2.2.1, if_neg a3.2.2.2.2.1, if_neg a3.2.2.2.2.2, gr r a1 a2]
      refine kp62 (gb := rf_unit gl (cs_t t v) z (mi_f h1 9858)) hK ht hip n40 (fun g2 a2 y1 y2 => ⟨_, _, _, _, ht.1, Or.inl ⟨hip, hN, _, rR, Or.inr ⟨n40, g2, a2, y1, y2, rfl⟩⟩⟩) (fun y p3 y2 => ⟨_, _, _, _, ht.1, Or.inr (Or.inl ⟨hip, hN, y, p3, y2, rfl⟩)⟩) v1 S5 Q5 P5 U5 ⟨?_, ?_, ?_, fun i _ => ?_, fun i _ => ?_, ?_⟩ ⟨?_, fun y _ => ?_⟩ ?_ ?_ (FI_cg gf rfl rfl (fun _ => rfl)) (fun y => ?_)
      · show gl 0 5 = _
        exact g0 5 (by decide)
      · show gl 0 3 = _
        exact g0 3 (by decide)
      · show x.1 0 0 ≤ gl 0 0 + 1
        omega
      · exact ⟨rw_ 146 i (by decide) (by decide) (by decide), rw_ 147 i (by decide) (by decide) (by decide), rw_ 149 i (by decide) (by decide) (by decide), rw_ 150 i (by decide) (by decide) (by decide), rw_ 151 i (by decide) (by decide) (by decide)⟩
      · exact rw_ 148 i (by decide) (by decide) (by decide)
      · exact rw_ 146 _ (by decide) (by decide) (by decide)
      · show x.1 0 2 ≤ gl 0 2
        rw [g0 2 (by decide)]
        exact Int.le_refl _
      · exact rw_ 130 y (by decide) (by decide) (by decide)
      · show gl 0 0 + 1 = _
        omega
      · show gl 0 1 = _
        exact g0 1 (by decide)
      · have := ci.2.2.2.2.1.mpr y
        omega
end KPB
