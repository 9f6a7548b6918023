/-! the class's readPart: a group; joined -/
/-- readForm at level k -/
def rfo_Q (n : Int) (c : Nat → Int) (f : Int → Int) (k : Int) (g : wk_g) (a : Int) (h : sm_H) (w : Option mi_V) (h' : sm_H) : Prop :=
  w = none ∧ ab_Sh sx_sk h' ∧ ab_Fr cw_W h h' ∧
  (mi_f h' 9730 = 0 → CX n c h' ∧ ∃ ow' g' a' zw' zp' t' v' e' j, ft_Tr n c j (rf_beg g 0, a, 1, 0, 0) (g', a', 0, zw', zp') ∧ PI ow' g' k ∧ FI f g' ∧ CQ f ow' g' h' ∧ KL k k g g' ∧ g' 0 1 ≤ g' 0 0 ∧ CT n c h' a' t' v' e' ∧ (0 ≤ a' ∧ a' ≤ n) ∧ ¬ ip_t t' v' ∧ ¬ ((t' = 42 ∨ t' = 63) ∧ zw' ≠ 0) ∧ ¬ (t' = 126 ∧ zp' ≠ 0) ∧ t' ≠ 124 ∧ K3x k g g') ∧
  (mi_f h' 9730 ≠ 0 → kB n c (rf_beg g 0, a, 1, 0, 0) h')
def rfo_S (n : Int) (c : Nat → Int) (f : Int → Int) (k : Int) : Prop := ∀ (D : Nat) (ow : Nat → Nat) (g : wk_g) (h : sm_H) (zf a t v e : Int), 15 + 4 * (4 - k).toNat ≤ D → CX n c h → mi_f h 9730 = 0 → PI ow g (k - 1) → FI f g → CQ f ow g h → g 0 5 = k → f (g 146 k.toNat) = zf → g 130 (g 146 k.toNat).toNat = 0 → g 0 1 ≤ g 0 0 → CT n c h a t v e → 0 ≤ a → a ≤ n → swN g k → me_E D 52 0 [some (.inr (.inr 76)), some (.inl zf), some (.inl k), none, none, none, none] [] h (rfo_Q n c f k g a h)
section KPB
variable {n : Int} {c : Nat → Int} {f : Int → Int} {ow : Nat → Nat} {x : ft_X} {h : sm_H} {t v e : Int}
theorem kp69g {d : Nat} {h1 h2 h4 : sm_H} {t2 v2 e2 : Int} (hd : 4 * (4 - x.1 0 5).toNat ≤ d) (hK : KS n c f ow x h1) (HF : rfo_S n c f (x.1 0 5 + 1)) (ht : CT n c h1 x.2.1 40 v e) (hN : ¬ rp_N x.1 40 v) (s1 : ab_Sh sx_sk h2) (s2 : ab_Fr gp_W h1 h2) (hR : gp_R h1 h2 10 0 (mi_f h1 9858)) (x4 : CX n c h4) (F4 : ab_Fr ca_W h2 h4) (en : e ≤ n) (ae : x.2.1 < e) (ht4 : CT n c h4 e t2 v2 e2) (f4 : mi_f h4 9730 = 0) : me_E (d + 12) 59 69 [some (.inr (.inr 76)), some (.inl (x.1 0 5)), some (.inl 10), some (.inl (x.1 0 0)), none] [] h4 (rp_P n c f x h1) := by
  obtain ⟨hx, hf0, kP, kf, kQ, kA, ⟨ka0, ka1⟩⟩ := id hK
  obtain ⟨⟨p1, p2, p3, p4, p5, p6⟩, q1, q2, q3, q4, q5, q6, q7, q8⟩ := id kP
  obtain ⟨⟨c0, c1, c2, c3, c4⟩, d1, d2, d3, d4, d5, d6, d7, d8, d9, dw⟩ := id kQ
  obtain ⟨r0, r68, r69, r70, r71, r72, r73, r74⟩ := hR
  have U60 : x.1 0 0 < 60 := by
    have : x.1 0 0 ≠ 60 := fun y => hN (Or.inl y)
    omega
  have k4 : x.1 0 5 < 4 := by
    have : x.1 0 5 ≠ 4 := fun y => hN (Or.inr (Or.inl ⟨rfl, y⟩))
    omega
  have oz : mi_in (x.1 0 5) := ⟨by omega, by omega⟩
  have ou : mi_in (x.1 0 0) := ⟨by omega, by omega⟩
  have o10 : mi_in 10 := ⟨by decide, by decide⟩
  have ip40 : ip_t 40 v := Or.inr (Or.inr (Or.inr (Or.inr rfl)))
  have e85 : mi_f h4 7685 = mi_f h1 7685 := (me_f (c := 7685) F4 s1 rfl rfl).trans (me_f (c := 7685) s2 hx.1 rfl rfl)
  refine mt_rpE x4.1 oz o10 ou (fun _ y => absurd rfl y) ?_ (fun _ y => absurd y (by decide)) (fun _ y => absurd y (by decide)) (fun _ y => absurd y (by decide))
  intro _ _ h5 g1 g2
  have e0 := me_nil g2
  subst e0
  refine ⟨_, me_gaddGroup (d := d + 10) x4.1 (by omega) (by omega), fun w h6 oww hq => ?_⟩
  obtain ⟨rfl, u1, u2, u3⟩ := hq
  have oz2 : mi_in (10 + mi_f h5 7685) := ⟨by omega, by omega⟩
  refine mt_rpH (zz := 10 + mi_f h5 7685) u1 oz o10 ou oz2 ?_ ?_ ?_
  · intro y; exfalso; omega
  · intro y y2; exfalso; omega
  intro y y2
  refine ⟨⟨⟨by omega, by omega⟩, ⟨by omega, by omega⟩⟩, fun h7 v1 v2 v3 => ?_⟩
  /- the state when the group's form begins -/
  have F7a : ab_Fr cu_W h1 h7 := (((s2.wide (fun c hc => ab_swr_ok (by decide) hc)).trans (F4.wide (fun c hc => ab_swr_ok (by decide) hc))).trans (u2.wide (fun c hc => ab_swr_ok (by decide) hc))).trans (v3.wide (fun c hc => ab_swr_ok (by decide) hc))
  have F7 : ab_Fr cw_W h1 h7 := F7a.wide (fun c hc => ab_swr_ok (by decide) hc)
  have F57 : ab_Fr [(7685, 7686), (8832, 8833)] h5 h7 := (u2.wide (fun c hc => ab_swr_ok (by decide) hc)).trans (v3.wide (fun c hc => ab_swr_ok (by decide) hc))
  have x7 := CX_fr x4 v1 F57 (by decide)
  have ht7 := CT_fr ht4 x4.1 F57 (by decide)
  have f7 : mi_f h7 9730 = 0 := (me_f (c := 9730) F57 x4.1 rfl rfl).trans f4
  have st : ∀ k, (mx_isA sx_sk k || mx_isB sx_sk k) = true → ab_in ca_W (k * 128) = false → ab_in [(7685, 7686), (8832, 8833)] (k * 128) = false → ∀ i, mi_a h7 k i = mi_a h2 k i := fun k a1 a2 a3 i => (me_a (k := k) F57 x4.1 a1 a3).trans (me_a (k := k) F4 s1 a1 a2)
  have zf : 10 + mi_f h5 7685 = f (x.1 0 2) := by
    rw [kf.2.1 (x.1 0 2) (Int.le_refl _)]
    omega
  have R69 : ∀ i, mi_a h7 69 i = if i = (mi_f h1 7690).toNat then f (x.1 0 2) else mi_a h1 69 i := fun i => by
    rw [v2, c0]
    by_cases ci : i = (x.1 0 0).toNat
    · rw [if_pos ci, if_pos ci, zf]
    · rw [if_neg ci, if_neg ci, me_a (k := 69) u2 x4.1 rfl rfl, me_a (k := 69) F4 s1 rfl rfl, r69, c0, if_neg ci]
  obtain ⟨Q7, I7⟩ := CQ_open (p := mi_f h1 9858) kQ hx.1 kP kf U60 F7a (by rw [me_f (c := 7685) v3 u1 rfl rfl, u3, e85]) (by rw [me_f (c := 7690) F57 x4.1 rfl rfl, me_f (c := 7690) F4 s1 rfl rfl, r0]) (by rw [me_f (c := 7698) F57 x4.1 rfl rfl, me_f (c := 7698) F4 s1 rfl rfl, me_f (c := 7698) s2 hx.1 rfl rfl]) (fun i => by rw [st 75 rfl rfl rfl, me_a (k := 75) s2 hx.1 rfl rfl]) (fun i => by rw [st 68 rfl rfl rfl, r68]) R69 (fun i => by rw [st 70 rfl rfl rfl, r70]) (fun i => by rw [st 71 rfl rfl rfl, r71]) (fun i => by rw [st 72 rfl rfl rfl, r72]) (fun i hi => by rw [st 73 rfl rfl rfl, r73, if_neg hi]) (fun i hi => (q1 i hi).2.1.2) (fun i => by rw [st 74 rfl rfl rfl, r74])
  obtain ⟨PU, UU⟩ := PI_unit (s := 10) (w := 0) (p := mi_f h1 9858) kP U60
  have P7 := PI_open (g := rf_unit x.1 10 0 (mi_f h1 9858)) (u := x.1 0 0) PU UU k4 (by show x.1 0 2 < x.1 0 0 + 1 + x.1 0 3; omega) (fun i i1 hi => (q3 i i1 hi).1.2) (fun i hi => by have := q1 i hi; unfold pi_lev at this; exact ⟨this.2.1.2, this.2.2.1.2⟩)
  obtain ⟨g3, hg3⟩ : ∃ g3, g3 = rf_o2 (rf_new (rf_o1 (rf_unit x.1 10 0 (mi_f h1 9858)) (x.1 0 0))) (x.1 0 0) (x.1 0 2) := ⟨_, rfl⟩
  have swn : swN g3 (x.1 0 5 + 1) := by
    intro _
    have e0 : g3 0 0 = x.1 0 0 + 1 := by rw [hg3]; rfl
    have e48 : g3 148 (x.1 0 5 + 1).toNat = x.1 0 0 := by
      rw [hg3]
      show (if (x.1 0 5 + 1).toNat = (x.1 0 5 + 1).toNat then x.1 0 0 else x.1 148 (x.1 0 5 + 1).toNat) = _
      rw [if_pos rfl]
    omega
  have P7' : PI (ow_new x.1 ow) g3 (x.1 0 5 + 1 - 1) := by
    rw [hg3, Int.add_sub_cancel]
    exact P7
  rw [← hg3] at Q7 I7
  have K5 : g3 0 5 = x.1 0 5 + 1 := by rw [hg3]; rfl
  have K3 : g3 0 3 = x.1 0 3 := by rw [hg3]; rfl
  have K0 : g3 0 0 = x.1 0 0 + 1 := by rw [hg3]; rfl
  have K2 : g3 0 2 = x.1 0 2 + 1 := by rw [hg3]; rfl
  have K1 : g3 0 1 = x.1 0 1 := by rw [hg3]; rfl
  have a146 : ∀ i, g3 146 i = if i = (x.1 0 5 + 1).toNat then x.1 0 2 else x.1 146 i := fun i => by rw [hg3]; rfl
  have a148 : ∀ i, g3 148 i = if i = (x.1 0 5 + 1).toNat then x.1 0 0 else x.1 148 i := fun i => by rw [hg3]; rfl
  have a130 : ∀ i, g3 130 i = if i = (x.1 0 2).toNat then 0 else x.1 130 i := fun i => by rw [hg3]; rfl
  have aO : ∀ i, g3 147 i = x.1 147 i ∧ g3 149 i = x.1 149 i ∧ g3 150 i = x.1 150 i ∧ g3 151 i = x.1 151 i := fun i => by rw [hg3]; exact ⟨rfl, rfl, rfl, rfl⟩
  have T0 : ft_T n c x (rf_beg g3 0, e, 1, 0, 0) := ⟨_, _, _, _, ht.1, Or.inl ⟨ip40, hN, _, Or.inl ⟨rfl, rfl⟩, Or.inl ⟨rfl, by rw [hg3]⟩⟩⟩
  clear hg3
  have e146 : g3 146 (x.1 0 5 + 1).toNat = x.1 0 2 := by rw [a146, if_pos rfl]
  refine ⟨_, HF (d + 11) _ g3 h7 _ e _ _ _ (by omega) x7 f7 P7' I7 Q7 K5 (by rw [e146]; exact zf.symm) (by rw [e146, a130, if_pos rfl]) (by omega) ht7 (by omega) en swn, fun w h8 oww hq => ?_⟩
  obtain ⟨rfl, w1, w2, w3, w4⟩ := hq
  have F8 : ab_Fr cw_W h1 h8 := F7.trans w2
  refine mt_rpI w1 oz o10 ou oz2 (fun h9 g1 g2 => ?_)
  have e0 := me_nil g2
  subst e0
  have fin : ∀ {h10 h11 : sm_H}, ab_Sh sx_sk h10 → ab_Fr [] h10 h11 → rp_P n c f x h1 (some (.inl (x.1 0 0))) h10 → rp_P n c f x h1 (some (.inl (x.1 0 0))) h11 := fun {h10 h11} _ z1 z2 => by
    have e0 := me_nil z1
    rw [e0]
    exact z2
  by_cases cf : mi_f h9 9730 = 0
  · obtain ⟨x9, ow', g', a', zw', zp', t', v', e', j, y1, y2, y3, y4, y5, y6, y7, ⟨ya0, ya1⟩, y8, y9, y10, y11, y12⟩ := w3 cf
    have ci := cs_i y7.1
    have k41 := ci.2.2.2.2.2.2.2.1 41 (by decide)
    refine ⟨_, me_expect (d := d) (zm := 41) x9 y7 ya1 ⟨by decide, by decide⟩ cf (fun z => by have := k41.mp z; exact ⟨by omega, by omega, by omega⟩), fun w h10 oww hq => ?_⟩
    obtain ⟨rfl, hq⟩ := hq
    have s10 : ab_Sh sx_sk h10 := by
      rcases hq with z | z
      · exact z.2.1
      · exact z.2.1.1
    refine mt_rpJ s10 oz o10 ou oz2 (fun h11 g1 g2 => fin s10 g2 ?_)
    obtain ⟨l1, l2, l3, l4, l5, l6⟩ := y5
    rcases hq with ⟨z1, z2, z3, z4, z5⟩ | ⟨z1, z2, z3, z4, z5, t4, v4, e4, z6⟩
    · refine ⟨rfl, s10, F8.trans (z5.wide (fun c hc => ab_swr_ok (by decide) hc)), fun q => by omega, fun _ => ?_⟩
      refine kB_pre (j := 1) ⟨_, T0, rfl⟩ (kB_of x9.1 z3 z4 (by decide) ⟨j, _, y1, _, _, _, _, y7.1, Or.inr (Or.inr (Or.inr (Or.inr ⟨y8, rfl, y9, y10, y11, fun q => z1 (k41.mpr q.1), fun q => ?_, rfl⟩)))⟩)
      have : g' 0 5 ≤ 0 := q.2
      omega
    · have t41 := k41.mp z1
      subst t41
      have u5 : g' 148 (g' 0 5).toNat = x.1 0 0 := by
        rw [l1, K5, l5 _ (by omega), a148, if_pos rfl]
      have k5' : g' 0 5 = x.1 0 5 + 1 := l1.trans K5
      have PL := PI_lvl (ow := ow') (g := g') (by rw [k5']; exact y2) (by omega)
      rw [u5] at PL
      obtain ⟨PL1, PL2, PL3, PL4⟩ := PL
      have ek : g' 0 5 - 1 = x.1 0 5 := by omega
      rw [ek] at PL1 PL2 PL3 PL4
      have TC : ft_T n c (g', a', 0, zw', zp') (rf_put (rf_lvl g' (x.1 0 5)) (x.1 0 0), e', 0, 1, ft_p (rf_lvl g' (x.1 0 5))) := ⟨_, _, _, _, y7.1, Or.inr ⟨y8, rfl, Or.inr (Or.inr (Or.inr ⟨rfl, by show 0 < g' 0 5; omega, by show _ = (rf_put (rf_lvl g' (g' 0 5 - 1)) (g' 148 (g' 0 5).toNat), e', 0, 1, ft_p (rf_lvl g' (g' 0 5 - 1))); rw [u5, ek]⟩))⟩⟩
      have ep : ft_p (rf_lvl g' (x.1 0 5)) = ft_p x.1 := by
        show (if g' 151 (x.1 0 5).toNat = 0 then 1 else 0) = (if x.1 151 (x.1 0 5).toNat = 0 then 1 else 0)
        rw [(l4 (x.1 0 5).toNat (by omega)).2.2.2.2, (aO _).2.2.2]
      rw [ep] at TC
      refine ⟨rfl, s10, F8.trans (z3.wide (fun c hc => ab_swr_ok (by decide) hc)), fun _ => ⟨z2, ow', rf_lvl g' (x.1 0 5), e', t4, v4, e4, 1 + (j + 1), ?_, PL1, PL2, PL3, PL4, FI_cg y3 rfl rfl (fun _ => rfl), ?_, ⟨rfl, l2.trans K3, ?_, fun i hi => ?_, fun i hi => ?_, ?_⟩, ?_, z6, ⟨by omega, z4⟩, ?_, ?_⟩, fun q => ?_⟩
      · obtain ⟨i, h3⟩ := ft_app (ft_snoc j _ y1 TC) 1 x ⟨_, T0, rfl⟩
        rw [Nat.add_comm]
        exact ⟨_, T0, ft_snoc j _ y1 TC⟩
      · obtain ⟨d0, d1, d2, d3, d4, d5, d6, d7, d8, d9, dw⟩ := CQ_fr y4 x9.1 z3 (by decide)
        have z151 : g' 151 (g' 0 5).toNat = 0 := PS_Tr j _ (fun q => absurd q (show (1 : Int) ≠ 0 from by decide)) y1 rfl
        have dv := sW_lvl dw (by omega) z151
        rw [ek] at dv
        exact ⟨d0, d1, d2, d3, d4, d5, d6, d7, d8, d9, dv⟩
      · show x.1 0 0 ≤ g' 0 0
        omega
      · obtain ⟨i1, i2, i3, i4, i5⟩ := l4 i (by omega)
        show g' 146 i = _ ∧ g' 147 i = _ ∧ g' 149 i = _ ∧ g' 150 i = _ ∧ g' 151 i = _
        obtain ⟨j1, j2, j3, j4⟩ := aO i
        rw [i1, i2, i3, i4, i5, j1, j2, j3, j4, a146, if_neg (by omega)]
        exact ⟨rfl, rfl, rfl, rfl, rfl⟩
      · show g' 148 i = _
        rw [l5 i (by omega), a148, if_neg (by omega)]
      · show g' 146 (x.1 0 5).toNat = _
        rw [(l4 (x.1 0 5).toNat (by omega)).1, a146, if_neg (by omega)]
      · show g' 0 1 ≤ g' 0 0
        exact y6
      · show x.1 0 0 < g' 0 0
        omega
      · have K2 : g3 0 2 = x.1 0 2 + 1 := K2
        refine ⟨by show x.1 0 2 ≤ g' 0 2; have := y12.1; omega, fun y hy => ?_⟩
        show g' 130 y = _
        rw [y12.2 y (by omega) (by rw [e146]; omega), a130, if_neg (by omega)]
      · have : mi_f h10 9730 = 0 := (me_f (c := 9730) z3 x9.1 rfl rfl).trans cf
        exact absurd this q
  · refine ⟨_, me_expectF (d := d) (zm := 41) w1 ⟨by decide, by decide⟩ cf, fun w h10 oww hq => ?_⟩
    obtain ⟨rfl, rfl⟩ := hq
    refine mt_rpJ w1 oz o10 ou oz2 (fun h11 g1 g2 => fin w1 g2 ?_)
    exact ⟨rfl, w1, F8, fun q => absurd q cf, fun q => kB_pre (j := 1) ⟨_, T0, rfl⟩ (w4 q)⟩
theorem me_readPart {D : Nat} (hD : 12 + 4 * (4 - x.1 0 5).toNat ≤ D) (hK : KS n c f ow x h) (HF : x.1 0 5 < 4 → rfo_S n c f (x.1 0 5 + 1)) (ht : CT n c h x.2.1 t v e) (hip : ip_t t v) (hN : ¬ rp_N x.1 t v) : me_E D 59 0 [some (.inr (.inr 76)), some (.inl (x.1 0 5)), none, none, none] [] h (rp_P n c f x h) := by
  obtain ⟨d, rfl⟩ : ∃ d, D = d + 12 := ⟨D - 12, by omega⟩
  obtain ⟨hx, hf0, kP, kf, kQ, kA, ⟨ka0, ka1⟩⟩ := id hK
  obtain ⟨⟨p1, p2, p3, p4, p5, p6⟩, q1, q2, q3, q4, q5, q6, q7, q8⟩ := id kP
  obtain ⟨⟨c0, c1, c2, c3, c4⟩, d1, d2, d3, d4, d5, d6, d7, d8, d9, dw⟩ := id kQ
  have ci := cs_i ht.1
  obtain ⟨k0, k6⟩ := ip_ne hip
  have k12 := ci.2.2.2.2.2.2.2.2.2.2 hip
  have cb := ci.2.2.2.2.2.2.2.2.2.1
  have es := ht.2.1
  obtain ⟨ec, -⟩ := ht.2.2 k0 k6 k12
  have kk := tk_f ka1 ht.1
  have U60 : x.1 0 0 < 60 := by
    have : x.1 0 0 ≠ 60 := fun y => hN (Or.inl y)
    omega
  have oz : mi_in (x.1 0 5) := ⟨by omega, by omega⟩
  have os : mi_in (cs_t t v) := ⟨by omega, by omega⟩
  have ou : mi_in (x.1 0 0) := ⟨by omega, by omega⟩
  have b60 := me_fb (c := 9860) hx.1 rfl
  have b58 := CT_p hx ht ka1
  refine mt_rpA hx.1 oz (fun h1 g1 g2 => ?_)
  have e0 := me_nil g2
  subst e0
  refine ⟨_, me_gaddPart (d := d + 10) hx.1 ⟨by omega, by omega⟩ ⟨by omega, by omega⟩ ⟨by omega, by omega⟩ (by omega) (by omega), fun w h2 oww hq => ?_⟩
  obtain ⟨rfl, s1, s2, r0, r68, r69, r70, r71, r72, r73, r74⟩ := hq
  rw [es] at r68 ⊢
  rw [c0] at r68 r69 r70 r71 r72 r73 ⊢
  have S2 : ab_Fr [(7680, 9728)] h1 h2 := s2.wide (fun c hc => ab_swr_ok (by decide) hc)
  refine mt_rpB (zz := x.1 0 0) s1 oz os ou ?_ ?_
  · intro n8 h3 g1 g2
    have e0 := me_nil g2
    subst e0
    by_cases c40 : t = 40
    rotate_left
    · /- a word or a use -/
      have t12 : t = 1 ∨ t = 2 := by
        have n34 : ¬ (t = 3 ∨ t = 4) := fun y => n8 (ci.2.2.1.mpr y)
        unfold ip_t at hip
        omega
      have s9 : cs_t t v = pu_s t v := ci.2.2.2.2.2.2.2.2.1 hip
      have n10 : cs_t t v ≠ 10 := fun y => c40 (ci.2.2.2.1.mp y)
      have hv : mi_f h1 9860 = if cs_t t v = 9 then pu_w t v + 65 else pu_w t v := by
        rw [ec]
        rcases t12 with y | y
        · have : cs_t t v ≠ 9 := fun z => by have := ci.2.1.mp z; omega
          rw [if_neg this, y]
          rfl
        · rw [if_pos (ci.2.1.mpr y), y]
          rfl
      have hw9 : cs_t t v = 9 → 0 ≤ pu_w t v ∧ pu_w t v < 26 := fun y => by
        have y2 := ci.2.1.mp y
        have := kk.2.2.2.1 y2
        unfold pu_w
        rw [if_pos y2]
        omega
      have Q3 := CQ_unit (gl := x.1) (s := cs_t t v) (w := pu_w t v) (p := mi_f h1 9858) (zv := mi_f h1 9860) kQ hx.1 kP U60 (fun _ _ _ => rfl) (fun _ _ => rfl) (s2.wide (fun c hc => ab_swr_ok (by decide) hc)) (me_f (c := 7685) s2 hx.1 rfl rfl) r0 ((me_f (c := 7698) s2 hx.1 rfl rfl).trans c3) (fun l hl => by rw [me_a (k := 75) s2 hx.1 rfl rfl]; exact d8 l hl) (by rw [c0]; exact r68) (by rw [c0]; exact r69) (by rw [c0]; exact r70) (by rw [c0]; exact r71) (by rw [c0]; exact r72) (fun i hi => by rw [c0] at hi; rw [r73, if_neg hi]) hv n10 hw9 (fun i hi => (q1 i hi).2.1.2) (fun i => by first | exact r74 i | (rw [c0]; exact r74 i))
      obtain ⟨P3, U3⟩ := PI_unit (s := cs_t t v) (w := pu_w t v) (p := mi_f h1 9858) kP U60
      have rR : rp_R x.1 t v (mi_f h1 9858) (rf_put (rf_unit x.1 (cs_t t v) (pu_w t v) (mi_f h1 9858)) (x.1 0 0)) := Or.inr (Or.inr ⟨t12, by rw [s9]⟩)
      refine kp62 (gb := rf_unit x.1 (cs_t t v) (pu_w t v) (mi_f h1 9858)) hK ht hip c40 (fun g2 a2 y1 y2 => ⟨_, _, _, _, ht.1, Or.inl ⟨hip, hN, _, rR, Or.inr ⟨c40, g2, a2, y1, y2, rfl⟩⟩⟩) (fun y p3 y2 => ⟨_, _, _, _, ht.1, Or.inr (Or.inl ⟨hip, hN, y, p3, y2, rfl⟩)⟩) s1 S2 Q3 P3 U3 ⟨rfl, rfl, ?_, fun _ _ => ⟨rfl, rfl, rfl, rfl, rfl⟩, fun _ _ => rfl, rfl⟩ ⟨Int.le_refl _, fun _ _ => rfl⟩ rfl rfl (FI_cg kf rfl rfl (fun _ => rfl)) (fun y => ?_)
      · show x.1 0 0 ≤ x.1 0 0 + 1
        omega
      · show (if (x.1 0 0).toNat = (x.1 0 0).toNat then cs_t t v else x.1 119 (x.1 0 0).toNat) = 1
        rw [if_pos rfl]
        exact ci.2.2.2.2.1.mpr y
    · /- a group -/
      subst c40
      have k4 : x.1 0 5 < 4 := by
        have : x.1 0 5 ≠ 4 := fun y => hN (Or.inr (Or.inl ⟨rfl, y⟩))
        omega
      have HF := HF k4
      have cs10 : cs_t 40 v = 10 := rfl
      have hx2 := CX_fr hx s1 s2 (by decide)
      have ht2 := CT_fr ht hx.1 s2 (by decide)
      have f2 : mi_f h3 9730 = 0 := (me_f (c := 9730) s2 hx.1 rfl rfl).trans hf0
      refine mt_rpD s1 oz os ou (fun h3' g1 g2 => ?_)
      have e0 := me_nil g2
      subst e0
      refine ⟨_, me_adv (d := d + 1) hx2 ht2 ka1 k0 k6 k12, fun w h4 oww hq => ?_⟩
      obtain ⟨rfl, x4, F4, en, ae, t2, v2, e2, ht4⟩ := hq
      have f4 : mi_f h4 9730 = 0 := (me_f (c := 9730) F4 s1 rfl rfl).trans f2
      have ec0 : mi_f h1 9860 = 0 := ec
      rw [cs10] at r68
      rw [ec0] at r69
      exact kp69g (by omega) hK HF ht hN s1 s2 ⟨r0, by rw [c0]; exact r68, by rw [c0]; exact r69, by rw [c0]; exact r70, by rw [c0]; exact r71, by rw [c0]; exact r72, by rw [c0]; exact r73, by rw [c0] at r74 ⊢; exact r74⟩ x4 F4 en ae ht4 f4
  · intro y8 h3 g1 g2
    have e0 := me_nil g2
    subst e0
    have t34 := ci.2.2.1.mp y8
    have el : mi_f h1 9860 = lc_t t v := by
      rw [ec]
      rcases t34 with y | y
      · rw [y]; rfl
      · rw [y]; rfl
    have e60 : mi_f h3 9860 = mi_f h1 9860 := me_f (c := 9860) s2 hx.1 rfl rfl
    have e98 : mi_f h3 7698 = mi_f h1 7698 := me_f (c := 7698) s2 hx.1 rfl rfl
    have e75 : ∀ i, mi_a h3 75 i = mi_a h1 75 i := fun i => me_a (k := 75) s2 hx.1 rfl rfl
    have key : (∀ j : Nat, (j : Int) < mi_f h3 7698 → mi_a h3 75 j ≠ mi_f h3 9860) → mi_f h3 7698 < 20 := fun y => by
      have : ¬ (x.1 0 4 = 20) := fun y20 => hN (Or.inr (Or.inr ⟨t34, fun j hj => by
        rw [← d8 j hj, ← el, ← e75, ← e60]
        exact y j (by omega), y20⟩))
      omega
    refine ⟨_, me_gaddLiteral (d := d + 9) s1 ⟨by omega, by omega⟩ (by omega) (by omega) key, fun w h4 oww hq => ?_⟩
    obtain ⟨u1, u2, z, rfl, hz⟩ := hq
    have z20 : 0 ≤ z ∧ z < 20 := by
      rcases hz with y | y
      · omega
      · have := key (y.2.1)
        omega
    have S4 : ab_Fr [(7680, 9728)] h1 h4 := S2.trans (u2.wide (fun c hc => ab_swr_ok (by decide) hc))
    refine mt_rpC (zz := z) (zq := x.1 0 0) u1 oz os ou ⟨by omega, by omega⟩ ou ?_ ?_ ?_
    · intro y; exfalso; omega
    · intro y y2; exfalso; omega
    · intro y y2
      refine ⟨⟨by omega, by omega⟩, fun h5 v1 v2 v3 => ?_⟩
      have S5 : ab_Fr [(7680, 9728)] h1 h5 := S4.trans (v3.wide (fun c hc => ab_swr_ok (by decide) hc))
      have F5 : ab_Fr cu_W h1 h5 := ((s2.wide (fun c hc => ab_swr_ok (by decide) hc)).trans (u2.wide (fun c hc => ab_swr_ok (by decide) hc))).trans (v3.wide (fun c hc => ab_swr_ok (by decide) hc))
      have st : ∀ k, (mx_isA sx_sk k || mx_isB sx_sk k) = true → ab_in [(7698, 7699), (9600, 9601)] (k * 128) = false → ab_in [(8832, 8833)] (k * 128) = false → ∀ i, mi_a h5 k i = mi_a h3 k i := fun k a1 a2 a3 i => (me_a (k := k) v3 u1 a1 a3).trans (me_a (k := k) u2 s1 a1 a2)
      have R69 : ∀ i, mi_a h5 69 i = if i = (x.1 0 0).toNat then z else mi_a h1 69 i := fun i => by
        rw [v2]
        by_cases ci : i = (x.1 0 0).toNat
        · rw [if_pos ci, if_pos ci]
        · rw [if_neg ci, if_neg ci, me_a (k := 69) u2 s1 rfl rfl, r69, if_neg ci]
      have e85 : mi_f h5 7685 = mi_f h1 7685 := ((me_f (c := 7685) v3 u1 rfl rfl).trans (me_f (c := 7685) u2 s1 rfl rfl)).trans (me_f (c := 7685) s2 hx.1 rfl rfl)
      have e90 : mi_f h5 7690 = mi_f h1 7690 + 1 := ((me_f (c := 7690) v3 u1 rfl rfl).trans (me_f (c := 7690) u2 s1 rfl rfl)).trans r0
      have e98' : mi_f h5 7698 = mi_f h4 7698 := me_f (c := 7698) v3 u1 rfl rfl
      have e75' : ∀ i, mi_a h5 75 i = mi_a h4 75 i := fun i => me_a (k := 75) v3 u1 rfl rfl
      have cs8 : cs_t t v = 8 := y8
      have n40 : t ≠ 40 := by omega
      obtain ⟨gl, hl, gr, g0, gP, l98, l75, gf⟩ : ∃ gl, rl_R x.1 (lc_t t v) z gl ∧ (∀ r, r ≠ 0 → r ≠ 117 → gl r = x.1 r) ∧ (∀ i, i ≠ 4 → gl 0 i = x.1 0 i) ∧ PI ow gl (x.1 0 5) ∧ mi_f h5 7698 = gl 0 4 ∧ (∀ l : Nat, (l : Int) < gl 0 4 → mi_a h5 75 l = gl 117 l) ∧ FI f gl := by
        rcases hz with ⟨w1, w2, w3, w4, w5⟩ | ⟨w1, w2, w3, w4⟩
        · refine ⟨x.1, Or.inl ⟨w1, by omega, ?_, fun j hj => ?_, rfl⟩, fun _ _ _ => rfl, fun _ _ => rfl, kP, ?_, fun l hl => ?_, kf⟩
          · rw [← d8 z.toNat (by omega), ← el, ← e60, ← e75]; exact w3
          · rw [← d8 j (by omega), ← el, ← e60, ← e75]; exact w4 j hj
          · rw [e98', w5, e98, c3]
          · rw [e75', w5, e75]; exact d8 l hl
        · have L20 : x.1 0 4 < 20 := by have := key w2; omega
          have gg : ∀ r, r ≠ 0 → r ≠ 117 → rf_lit x.1 (lc_t t v) r = x.1 r := fun r hr0 hr1 => by
            funext i
            unfold rf_lit
            rw [if_neg hr0, if_neg hr1]
          refine ⟨rf_lit x.1 (lc_t t v), Or.inr ⟨fun j hj => ?_, L20, by omega, rfl⟩, gg, fun i hi => ?_, ?_, ?_, fun l hl => ?_, ?_⟩
          · rw [← d8 j hj, ← el, ← e60, ← e75]; exact w2 j (by omega)
          · show (if i = 4 then x.1 0 4 + 1 else x.1 0 i) = _
            rw [if_neg hi]
          · exact PI_cg kP ⟨rfl, rfl, rfl, rfl, rfl⟩ (by show 0 ≤ x.1 0 4 + 1 ∧ x.1 0 4 + 1 ≤ 20; omega) (fun r hr i => by rw [gg r (by intro q; rw [q] at hr; revert hr; decide) (by intro q; rw [q] at hr; revert hr; decide)])
          · rw [e98', w3]
            show _ = x.1 0 4 + 1
            omega
          · have hl : (l : Int) < x.1 0 4 + 1 := hl
            rw [e75', w4]
            show _ = (if l = (x.1 0 4).toNat then lc_t t v else x.1 117 l)
            have ee : mi_f h3 7698 = x.1 0 4 := e98.trans c3
            rw [ee]
            by_cases cl : l = (x.1 0 4).toNat
            · rw [if_pos cl, if_pos cl, e60, el]
            · rw [if_neg cl, if_neg cl, e75]; exact d8 l (by omega)
          · exact FI_cg kf rfl rfl (fun i => by rw [gg 114 (by decide) (by decide)])
      have gU : gl 0 0 = x.1 0 0 := g0 0 (by decide)
      have Q5 := CQ_unit (gl := gl) (s := cs_t t v) (w := z) (p := mi_f h1 9858) (zv := z) kQ hx.1 kP U60 gr g0 F5 e85 e90 l98 l75 (by rw [c0]; exact fun i => by rw [st 68 rfl rfl rfl]; exact r68 i) (by rw [c0]; exact R69) (by rw [c0]; exact fun i => by rw [st 70 rfl rfl rfl]; exact r70 i) (by rw [c0]; exact fun i => by rw [st 71 rfl rfl rfl]; exact r71 i) (by rw [c0]; exact fun i => by rw [st 72 rfl rfl rfl]; exact r72 i) (fun i hi => by rw [c0] at hi; rw [st 73 rfl rfl rfl, r73, if_neg hi]) (by rw [if_neg (by omega)]) (by omega) (fun q => by omega) (fun i hi => (q1 i hi).2.1.2) (fun i => by rw [st 74 rfl rfl rfl]; first | exact r74 i | (rw [c0]; exact r74 i))
      have PU := PI_unit (s := cs_t t v) (w := z) (p := mi_f h1 9858) gP (by omega)
      rw [gU] at PU
      have eow : ow_new gl ow = ow_new x.1 ow := by
        unfold ow_new
        rw [gU]
      rw [eow] at PU
      obtain ⟨P5, U5⟩ := PU
      have rR : rp_R x.1 t v (mi_f h1 9858) (rf_put (rf_unit gl (cs_t t v) z (mi_f h1 9858)) (x.1 0 0)) := Or.inr (Or.inl ⟨t34, z, gl, hl, by rw [cs8]⟩)
      have rw_ : ∀ r i, r ≠ 0 → r ≠ 117 → r ∉ [119, 120, 121, 122, 124, 125] → rf_unit gl (cs_t t v) z (mi_f h1 9858) r i = x.1 r i := fun r i a1 a2 a3 => by
        simp only [List.mem_cons, List.not_mem_nil, or_false, not_or] at a3
        unfold rf_unit
        rw [if_neg a1, if_neg a3.1, if_neg a3.2.1, if_neg a3.2.2.1, if_neg a3.2.2.2.1, if_neg a3.2.2.2.2.1, if_neg a3.2.2.2.2.2, gr r a1 a2]
      refine kp62 (gb := rf_unit gl (cs_t t v) z (mi_f h1 9858)) hK ht hip n40 (fun g2 a2 y1 y2 => ⟨_, _, _, _, ht.1, Or.inl ⟨hip, hN, _, rR, Or.inr ⟨n40, g2, a2, y1, y2, rfl⟩⟩⟩) (fun y p3 y2 => ⟨_, _, _, _, ht.1, Or.inr (Or.inl ⟨hip, hN, y, p3, y2, rfl⟩)⟩) v1 S5 Q5 P5 U5 ⟨?_, ?_, ?_, fun i _ => ?_, fun i _ => ?_, ?_⟩ ⟨?_, fun y _ => ?_⟩ ?_ ?_ (FI_cg gf rfl rfl (fun _ => rfl)) (fun y => ?_)
      · show gl 0 5 = _
        exact g0 5 (by decide)
      · show gl 0 3 = _
        exact g0 3 (by decide)
      · show x.1 0 0 ≤ gl 0 0 + 1
        omega
      · exact ⟨rw_ 146 i (by decide) (by decide) (by decide), rw_ 147 i (by decide) (by decide) (by decide), rw_ 149 i (by decide) (by decide) (by decide), rw_ 150 i (by decide) (by decide) (by decide), rw_ 151 i (by decide) (by decide) (by decide)⟩
      · exact rw_ 148 i (by decide) (by decide) (by decide)
      · exact rw_ 146 _ (by decide) (by decide) (by decide)
      · show x.1 0 2 ≤ gl 0 2
        rw [g0 2 (by decide)]
        exact Int.le_refl _
      · exact rw_ 130 y (by decide) (by decide) (by decide)
      · show gl 0 0 + 1 = _
        omega
      · show gl 0 1 = _
        exact g0 1 (by decide)
      · have := ci.2.2.2.2.1.mpr y
        omega
end KPB
/-! the class's readUnit does the same turns -/
def ru_P (n : Int) (c : Nat → Int) (f : Int → Int) (x : ft_X) (h : sm_H) (w : Option mi_V) (h' : sm_H) : Prop :=
  (∃ z, w = some (.inl z)) ∧ ab_Sh sx_sk h' ∧ ab_Fr cw_W h h' ∧
  (mi_f h' 9730 = 0 → CX n c h' ∧ ∃ ow' g' a' zw' t' v' e' j, w = some (.inl (g' 150 (x.1 0 5).toNat)) ∧ ft_Tr n c j x (g', a', 0, zw', ft_p x.1) ∧ PI ow' g' (x.1 0 5) ∧ FI f g' ∧ CQ f ow' g' h' ∧ KL (x.1 0 5) (x.1 0 5) x.1 g' ∧ K3 x.1 g' ∧ g' 147 (x.1 0 5).toNat = x.1 147 (x.1 0 5).toNat ∧ g' 151 (x.1 0 5).toNat = 0 ∧ (ft_p x.1 ≠ 0 → 0 ≤ g' 149 (x.1 0 5).toNat ∧ g' 150 (x.1 0 5).toNat = g' 149 (x.1 0 5).toNat) ∧ 0 ≤ g' 150 (x.1 0 5).toNat ∧ g' 0 1 ≤ g' 0 0 ∧ CT n c h' a' t' v' e' ∧ (0 ≤ a' ∧ a' ≤ n) ∧ ¬ ((t' = 42 ∨ t' = 63) ∧ zw' ≠ 0) ∧ x.1 0 0 < g' 0 0) ∧
  (mi_f h' 9730 ≠ 0 → kB n c x h')
section KUN
variable {n : Int} {c : Nat → Int} {f : Int → Int} {ow : Nat → Nat} {x : ft_X} {h : sm_H} {t v e : Int}
theorem me_readUnit {D : Nat} (hD : 13 + 4 * (4 - x.1 0 5).toNat ≤ D) (hK : KS n c f ow x h) (HF : x.1 0 5 < 4 → rfo_S n c f (x.1 0 5 + 1)) (ht : CT n c h x.2.1 t v e) (hz : x.2.2.1 ≠ 0 ∨ ip_t t v) : me_E D 55 0 [some (.inr (.inr 76)), some (.inl (x.1 147 (x.1 0 5).toNat)), some (.inl (x.1 150 (x.1 0 5).toNat)), some (.inl (x.1 0 5)), none] [] h (ru_P n c f x h) := by
  obtain ⟨d, rfl⟩ : ∃ d, D = d + 13 := ⟨D - 13, by omega⟩
  obtain ⟨hx, hf0, kP, kf, kQ, kA, ⟨ka0, ka1⟩⟩ := id hK
  obtain ⟨⟨p1, p2, p3, p4, p5, p6⟩, q1, q2, q3, q4, q5, q6, q7, q8⟩ := id kP
  have ci := cs_i ht.1
  have es := ht.2.1
  have b58 := CT_p hx ht ka1
  obtain ⟨l1, l2, l3, l4, l5, l6⟩ := q1 (x.1 0 5).toNat (by omega)
  have oz : mi_in (x.1 0 5) := ⟨by omega, by omega⟩
  have oa : mi_in (x.1 147 (x.1 0 5).toNat) := ⟨by omega, by omega⟩
  have ob : mi_in (x.1 150 (x.1 0 5).toNat) := ⟨by omega, by omega⟩
  have bl : ¬ ip_t t v → ∀ h1, ab_Sh sx_sk h1 → mi_f h1 9730 = (1 : Int) → mi_f h1 9731 = mi_f h 9858 → ab_Fr [(9730, 9732)] h h1 → ru_P n c f x h (some (.inl (-1))) h1 := fun nip h1 g1 g2 g3 g4 => by
    refine ⟨⟨_, rfl⟩, g1, g4.wide (fun c hc => ab_swr_ok (by decide) hc), fun y => by omega, fun _ => ?_⟩
    exact kB_of hx.1 g2 g3 (by decide) ⟨0, x, rfl, _, _, _, _, ht.1, Or.inr (Or.inr (Or.inl ⟨nip, hz.resolve_right nip, rfl⟩))⟩
  refine mt_ruA hx.1 oa ob oz ?_ ?_ ?_
  · intro b c1
    exact bl (fun y => by have := ci.1.mpr y; omega)
  · intro b c1 c2
    exact bl (fun y => by have := ci.1.mpr y; omega)
  intro b c1 c2 h1 g1 g2
  have e0 := me_nil g2
  subst e0
  have hip : ip_t t v := ci.1.mp (by omega)
  refine ⟨_, me_otm (d := d + 10) hx ht kQ kP hip rfl, fun w h2 oww hq => ?_⟩
  obtain ⟨rfl, z, rfl, z01, hzN⟩ := hq
  refine mt_ruB (zz := z) hx.1 oa ob oz ⟨by omega, by omega⟩ ?_ ?_
  rotate_left
  · intro c3 h3 g1 g2 g3 g4
    refine ⟨⟨_, rfl⟩, g1, g4.wide (fun c hc => ab_swr_ok (by decide) hc), fun y => by omega, fun _ => ?_⟩
    exact kB_of hx.1 g2 g3 (by decide) ⟨0, x, rfl, _, _, _, _, ht.1, Or.inl ⟨hip, hzN.mp (by omega), rfl⟩⟩
  intro c3 h3 g1 g2
  have e0 := me_nil g2
  subst e0
  have hN : ¬ rp_N x.1 t v := fun y => by have := hzN.mpr y; omega
  refine ⟨_, me_readPart (D := d + 12) (by omega) hK HF ht hip hN, fun w h4 oww hq => ?_⟩
  obtain ⟨rfl, s1, s2, s3, s4⟩ := hq
  have ou : mi_in (x.1 0 0) := ⟨by omega, by omega⟩
  refine mt_ruC (zz := x.1 0 0) s1 oa ob oz ou (fun h5 g1 g2 => ?_)
  have e0 := me_nil g2
  subst e0
  have U60 : x.1 0 0 < 60 := by
    have : x.1 0 0 ≠ 60 := fun y => hN (Or.inl y)
    omega
  refine ⟨_, me_gattach (d := d + 11) s1 ou l1.1 (by omega) (by omega) (by omega), fun w h6 oww hq => ?_⟩
  obtain ⟨rfl, u1, u2, u3, u4⟩ := hq
  have F6 : ab_Fr cw_W h3 h6 := s2.trans (u2.wide (fun c hc => ab_swr_ok (by decide) hc))
  have e30 : mi_f h6 9730 = mi_f h5 9730 := me_f (c := 9730) u2 s1 rfl rfl
  have e31 : mi_f h6 9731 = mi_f h5 9731 := me_f (c := 9731) u2 s1 rfl rfl
  by_cases cf : mi_f h5 9730 = 0
  rotate_left
  · refine mt_ruD u1 oa ob oz ou ?_ ?_ ?_ ?_ ?_ ?_ ?_ ?_
    · intro b y h7 g1 g2
      have e0 := me_nil g2
      subst e0
      refine ⟨⟨_, rfl⟩, u1, F6, fun q => absurd q y, fun _ => ?_⟩
      exact kB_eq e30 e31 (s4 cf)
    all_goals
      intro b b2 y
      exact absurd (e30.symm.trans y) cf
  obtain ⟨x5, ow', gb, a', t', v', e', j, y1, y2, y3, y4, y5, y6, y7, y8, y9, y10, ⟨ya0, ya1⟩, y11, y12⟩ := s3 cf
  obtain ⟨r1, r2, r3, r4, r5, r6⟩ := y8
  obtain ⟨w1, w2, w3, w4, w5⟩ := r4 (x.1 0 5).toNat (by omega)
  have PP := PI_put (g := gb) (by rw [r1]; exact y2) y3 (by rw [r1]; exact y4) (by rw [r1]; exact y5)
  rw [r1] at PP
  have QQ : CQ f (ow_put gb ow' (x.1 0 0)) (rf_put gb (x.1 0 0)) h6 := CQ_put (g := gb) y7 s1 (by rw [r1]; exact y2) y3 u2 (by rw [r1, w4, w2]; exact u3) (by rw [r1, w4]; exact u4)
  have x6 := CX_fr x5 u1 u2 (by decide)
  have ht6 := CT_fr y10 s1 u2 (by decide)
  have f6 : mi_f h6 9730 = 0 := e30.trans cf
  obtain ⟨g1, hg1⟩ : ∃ g1, g1 = rf_put gb (x.1 0 0) := ⟨_, rfl⟩
  rw [← hg1] at PP QQ y1
  have a0 : ∀ i, g1 0 i = gb 0 i := fun i => by rw [hg1]; rfl
  have a149 : g1 149 (x.1 0 5).toNat = if x.1 151 (x.1 0 5).toNat = 0 then x.1 0 0 else x.1 149 (x.1 0 5).toNat := by
    rw [hg1]
    show (if gb 151 (gb 0 5).toNat = 0 ∧ (x.1 0 5).toNat = (gb 0 5).toNat then x.1 0 0 else gb 149 (x.1 0 5).toNat) = _
    rw [r1, w5, w3]
    by_cases cc : x.1 151 (x.1 0 5).toNat = 0
    · rw [if_pos ⟨cc, rfl⟩, if_pos cc]
    · rw [if_neg (fun q => cc q.1), if_neg cc]
  have a150 : g1 150 (x.1 0 5).toNat = x.1 0 0 := by
    rw [hg1]
    show (if (x.1 0 5).toNat = (gb 0 5).toNat then x.1 0 0 else gb 150 (x.1 0 5).toNat) = _
    rw [r1, if_pos rfl]
  have a151 : g1 151 (x.1 0 5).toNat = 0 := by
    rw [hg1]
    show (if (x.1 0 5).toNat = (gb 0 5).toNat then 0 else gb 151 (x.1 0 5).toNat) = _
    rw [r1, if_pos rfl]
  have a147 : ∀ i, g1 147 i = gb 147 i := fun i => by rw [hg1]; rfl
  have a130 : ∀ i, g1 130 i = gb 130 i := fun i => by rw [hg1]; rfl
  have a114 : ∀ i, g1 114 i = gb 114 i := fun i => by rw [hg1]; rfl
  have KK : KL (x.1 0 5) (x.1 0 5) x.1 g1 := by
    refine ⟨(a0 5).trans r1, (a0 3).trans r2, by rw [a0]; exact r3, fun i hi => ?_, fun i hi => ?_, ?_⟩
    · obtain ⟨i1, i2, i3, i4, i5⟩ := r4 i (by omega)
      rw [hg1]
      show gb 146 i = _ ∧ gb 147 i = _ ∧ (if gb 151 (gb 0 5).toNat = 0 ∧ i = (gb 0 5).toNat then x.1 0 0 else gb 149 i) = _ ∧ (if i = (gb 0 5).toNat then x.1 0 0 else gb 150 i) = _ ∧ (if i = (gb 0 5).toNat then 0 else gb 151 i) = _
      rw [if_neg (fun q => by omega), if_neg (by omega), if_neg (by omega)]
      exact ⟨i1, i2, i3, i4, i5⟩
    · rw [hg1]
      exact r5 i hi
    · rw [hg1]
      exact r6
  have I1 : FI f g1 := FI_cg y6 (a0 2) (a0 3) a114
  have hp : ft_p x.1 ≠ 0 → 0 ≤ g1 149 (x.1 0 5).toNat ∧ g1 150 (x.1 0 5).toNat = g1 149 (x.1 0 5).toNat := fun q => by
    unfold ft_p at q
    by_cases cc : x.1 151 (x.1 0 5).toNat = 0
    · rw [a149, a150, if_pos cc]
      omega
    · rw [if_neg cc] at q
      exact absurd rfl q
  have K31 : K3 x.1 g1 := ⟨by rw [a0]; exact y12.1, fun y hy => by rw [a130]; exact y12.2 y hy⟩
  clear hg1
  have ci6 := cs_i ht6.1
  have es6 := ht6.2.1
  have i42 := ci6.2.2.2.2.2.2.2.1 42 (by decide)
  have i63 := ci6.2.2.2.2.2.2.2.1 63 (by decide)
  /- it is repeated -/
  have wr : ∀ {h7 : sm_H} {zr : Int}, (t' = 42 ∨ t' = 63) → (zr = if t' = 42 then 1 else 2) → ab_Sh sx_sk h7 → (∀ i, mi_a h7 72 i = if i = (x.1 0 0).toNat then zr + 4 else mi_a h6 72 i) → (∀ i, mi_a h7 73 i = if i = (x.1 0 0).toNat then mi_f h6 9858 else mi_a h6 73 i) → ab_Fr [(9216, 9217), (9344, 9345)] h6 h7 → ∃ Q1, me_E (d + 12) 18 0 (mi_entry 2 [.inr (.inr 77)]) [] h7 Q1 ∧ ∀ w h2, (∀ x, w = some x → mi_ok x) → Q1 w h2 → me_E (d + 13) 55 151 [some (.inr (.inr 76)), some (.inl (x.1 147 (x.1 0 5).toNat)), some (.inl (x.1 150 (x.1 0 5).toNat)), some (.inl (x.1 0 5)), some (.inl (x.1 0 0))] (mi_back w []) h2 (ru_P n c f x h3) := fun {h7 zr} ct cz v1 v2 v3 v4 => by
    have x7 := CX_fr x6 v1 v4 (by decide)
    have ht7 := CT_fr ht6 u1 v4 (by decide)
    have zr0 : zr ≠ 0 := by
      rw [cz]
      split <;> decide
    have Q7 := CQ_wrap (u := x.1 0 0) (w := zr) (p := mi_f h6 9858) QQ u1 v4 zr0 v2 v3
    have c12 : cs_t t' v' ≠ 12 := by
      rcases ct with q | q
      · have := i42.mpr q; omega
      · have := i63.mpr q; omega
    refine ⟨_, me_adv (d := d + 2) x7 ht7 ya1 (by omega) (by omega) c12, fun w h8 oww hq => ?_⟩
    obtain ⟨rfl, x8, F8, en8, ae8, t8, v8, e8, ht8⟩ := hq
    have Q8 := CQ_fr Q7 v1 F8 (by decide)
    have f8 : mi_f h8 9730 = 0 := ((me_f (c := 9730) F8 v1 rfl rfl).trans (me_f (c := 9730) v4 u1 rfl rfl)).trans f6
    refine mt_ruE x8.1 oa ob oz ou (fun h9 g1' g2' => ?_)
    have e0 := me_nil g2'
    subst e0
    obtain ⟨g2, hg2⟩ : ∃ g2, g2 = rf_wrap g1 (x.1 0 0) zr (mi_f h6 9858) := ⟨_, rfl⟩
    have b : ∀ r, r ≠ 122 → r ≠ 123 → g2 r = g1 r := fun r hr1 hr2 => by
      rw [hg2]
      funext i
      unfold rf_wrap
      rw [if_neg hr1, if_neg hr2]
    have TW : ft_T n c (g1, a', 0, 1, ft_p x.1) (g2, e', 0, 0, ft_p x.1) := by
      refine ⟨_, _, _, _, ht6.1, Or.inr ⟨fun q => by unfold ip_t at q; omega, rfl, Or.inl ⟨ct, by show (1 : Int) ≠ 0; decide, ?_⟩⟩⟩
      show _ = (rf_wrap g1 (g1 150 (g1 0 5).toNat) (if t' = 42 then 1 else 2) (mi_f h6 9858), e', 0, 0, ft_p x.1)
      rw [hg2, a0, r1, a150, cz]
    rw [← hg2] at Q8
    clear hg2
    refine ⟨⟨_, rfl⟩, x8.1, (F6.trans (v4.wide (fun c hc => ab_swr_ok (by decide) hc))).trans (F8.wide (fun c hc => ab_swr_ok (by decide) hc)), fun _ => ⟨x8, ow_put gb ow' (x.1 0 0), g2, e', 0, t8, v8, e8, j + 1, ?_, ft_snoc j x y1 TW, ?_, ?_, Q8, ?_, ?_, ?_, ?_, ?_, ?_, ?_, ht8, ⟨by omega, en8⟩, fun q => q.2 rfl, ?_⟩, fun q => absurd f8 q⟩
    · rw [b 150 (by decide) (by decide), a150]
    · exact PI_cg PP (by rw [b 0 (by decide) (by decide)]; exact ⟨rfl, rfl, rfl, rfl, rfl⟩) (by rw [b 0 (by decide) (by decide)]; exact PP.1.2.2.2.2.1) (fun r hr i => by rw [b r (by intro q; rw [q] at hr; revert hr; decide) (by intro q; rw [q] at hr; revert hr; decide)])
    · exact FI_cg I1 (by rw [b 0 (by decide) (by decide)]) (by rw [b 0 (by decide) (by decide)]) (fun i => by rw [b 114 (by decide) (by decide)])
    · unfold KL at KK ⊢
      rw [b 0 (by decide) (by decide), b 146 (by decide) (by decide), b 147 (by decide) (by decide), b 148 (by decide) (by decide), b 149 (by decide) (by decide), b 150 (by decide) (by decide), b 151 (by decide) (by decide)]
      exact KK
    · unfold K3 at K31 ⊢
      rw [b 0 (by decide) (by decide), b 130 (by decide) (by decide)]
      exact K31
    · rw [b 147 (by decide) (by decide), a147, w2]
    · rw [b 151 (by decide) (by decide), a151]
    · rw [b 149 (by decide) (by decide), b 150 (by decide) (by decide)]; exact hp
    · rw [b 150 (by decide) (by decide), a150]; omega
    · rw [b 0 (by decide) (by decide), a0, a0]; exact y9
    · rw [b 0 (by decide) (by decide), a0]; exact y11
  refine mt_ruD u1 oa ob oz ou ?_ ?_ ?_ ?_ ?_ ?_ ?_ ?_
  · intro b y; exact absurd f6 y
  · intro b b2 z1 z2 z3; exfalso; omega
  · intro b b2 z1 z2 z3 z4; exfalso; omega
  · intro b b2 z1 z2 z3 z4
    have t42 := i42.mp (by omega)
    exact ⟨⟨by omega, by omega⟩, fun h7 v1 v2 v3 v4 => wr (zr := 1) (Or.inl t42) (by rw [if_pos t42]) v1 v2 v3 v4⟩
  · intro b b2 z1 z2 z3 h7 g1' g2'
    have e0 := me_nil g2'
    subst e0
    refine ⟨⟨_, rfl⟩, u1, F6, fun _ => ⟨x6, ow_put gb ow' (x.1 0 0), g1, a', 1, t', v', e', j, by rw [a150], y1, PP, I1, QQ, KK, K31, by rw [a147, w2], a151, hp, by rw [a150]; omega, by rw [a0, a0]; exact y9, ht6, ⟨ya0, ya1⟩, fun q => ?_, by rw [a0]; exact y11⟩, fun q => absurd f6 q⟩
    rcases q.1 with q | q
    · have := i42.mpr q; omega
    · have := i63.mpr q; omega
  · intro b b2 z1 z2 z3 z4; exfalso; omega
  · intro b b2 z1 z2 z3 z4 z5; exfalso; omega
  · intro b b2 z1 z2 z3 z4 z5
    have t63 := i63.mp (by omega)
    have n42 : t' ≠ 42 := by omega
    exact ⟨⟨by omega, by omega⟩, fun h7 v1 v2 v3 v4 => wr (zr := 2) (Or.inr t63) (by rw [if_neg n42]) v1 v2 v3 v4⟩
end KUN
/-! the class's readItems, readForm do the same turns -/
def ri_P (n : Int) (c : Nat → Int) (f : Int → Int) (x : ft_X) (h : sm_H) (w : Option mi_V) (h' : sm_H) : Prop :=
  w = none ∧ ab_Sh sx_sk h' ∧ ab_Fr cw_W h h' ∧
  (mi_f h' 9730 = 0 → CX n c h' ∧ ∃ ow' g' a' zw' zp' t' v' e' j, ft_Tr n c j x (g', a', 0, zw', zp') ∧ PI ow' g' (x.1 0 5) ∧ FI f g' ∧ CQ f ow' g' h' ∧ KL (x.1 0 5) (x.1 0 5) x.1 g' ∧ K3 x.1 g' ∧ g' 147 (x.1 0 5).toNat = x.1 147 (x.1 0 5).toNat ∧ g' 0 1 ≤ g' 0 0 ∧ CT n c h' a' t' v' e' ∧ (0 ≤ a' ∧ a' ≤ n) ∧ ¬ ip_t t' v' ∧ ¬ ((t' = 42 ∨ t' = 63) ∧ zw' ≠ 0) ∧ ¬ (t' = 126 ∧ zp' ≠ 0)) ∧
  (mi_f h' 9730 ≠ 0 → kB n c x h')
/-- at readItems's loop, with more to come -/
def ri_H (n : Int) (c : Nat → Int) (f : Int → Int) (x : ft_X) (h0 h : sm_H) (zs zl zn : Int) : Prop :=
  ab_Fr cw_W h0 h ∧ ∃ (ow : Nat → Nat) (y : ft_X) (t v e : Int) (j : Nat), ft_Tr n c j x y ∧ KS n c f ow y h ∧ KL (x.1 0 5) (x.1 0 5) x.1 y.1 ∧ K3 x.1 y.1 ∧ y.1 147 (x.1 0 5).toNat = x.1 147 (x.1 0 5).toNat ∧ zl = y.1 150 (x.1 0 5).toNat ∧ (zs ≠ 0 ↔ y.1 151 (x.1 0 5).toNat ≠ 0) ∧ CT n c h y.2.1 t v e ∧ (y.2.2.1 ≠ 0 ∨ ip_t t v) ∧ zn ≤ y.1 0 0
theorem K3_trans {g g1 g2 : wk_g} (h : K3 g g1) (h' : K3 g1 g2) : K3 g g2 := ⟨Int.le_trans h.1 h'.1, fun y hy => (h'.2 y (Int.lt_of_lt_of_le hy h.1)).trans (h.2 y hy)⟩
section KIT
variable {n : Int} {c : Nat → Int} {f : Int → Int} {x : ft_X} {h0 : sm_H}
theorem ri_loop {d : Nat} (hd : 4 * (4 - x.1 0 5).toNat ≤ d) (k01 : 0 ≤ x.1 0 5 ∧ x.1 0 5 ≤ 4) (oa : mi_in (x.1 147 (x.1 0 5).toNat)) (HF : x.1 0 5 < 4 → rfo_S n c f (x.1 0 5 + 1)) : ∀ (N : Nat) (zm zs zl zn : Int) (h : sm_H), 62 - zn < N → 0 ≤ zn → zn ≤ 61 → mi_in zm → mi_in zs → mi_in zl → ab_Sh sx_sk h → (zm = 0 → ri_P n c f x h0 none h) → (zm ≠ 0 → ri_H n c f x h0 h zs zl zn) → me_E (d + 14) 54 11 [some (.inr (.inr 76)), some (.inl (x.1 147 (x.1 0 5).toNat)), some (.inl (x.1 0 5)), some (.inl zm), some (.inl zs), some (.inl zl), some (.inl zn)] [] h (ri_P n c f x h0) := by
  intro N
  induction N with
  | zero => intro zm zs zl zn h hN z0 z1; exfalso; omega
  | succ N ih =>
    intro zm zs zl zn h hN z0 z1 om os ol hS h1 h2
    have oz : mi_in (x.1 0 5) := ⟨by omega, by omega⟩
    have on : mi_in zn := ⟨by omega, by omega⟩
    refine mt_riB hS oa oz om os ol on ?_ ?_ ?_
    · intro c1 h3 g1 g2
      have e0 := me_nil g2
      subst e0
      exact h1 c1
    · intro c1 c2
      obtain ⟨F0, ow, y, t, v, e, j, y1, y2, y3, y4, y5, y6, y7, y8, y9, y10⟩ := h2 c1
      have := y2.2.2.1.1.1
      omega
    intro c1 c2 h3 g1 g2
    have e0 := me_nil g2
    subst e0
    obtain ⟨F0, ow, y, t, v, e, j, y1, y2, y3, y4, y5, y6, y7, y8, y9, y10⟩ := h2 c1
    have k5 : y.1 0 5 = x.1 0 5 := y3.1
    have RU := me_readUnit (D := d + 13) (by rw [k5]; omega) y2 (by rw [k5]; exact HF) y8 y9
    rw [k5, y5, ← y6] at RU
    refine ⟨_, RU, fun w h4 oww hq => ?_⟩
    obtain ⟨⟨z, rfl⟩, s1, s2, s3, s4⟩ := hq
    have oz4 : mi_in z := oww (.inl z) rfl
    have F4 : ab_Fr cw_W h0 h4 := F0.trans s2
    /- with a fault: out -/
    have out : mi_f h4 9730 ≠ 0 → me_E (d + 14) 54 63 [some (.inr (.inr 76)), some (.inl (x.1 147 (x.1 0 5).toNat)), some (.inl (x.1 0 5)), some (.inl zm), some (.inl 0), some (.inl z), some (.inl zn)] [] h4 (ri_P n c f x h0) := fun cf => by
      refine mt_riD s1 oa oz om fm_in0 oz4 on ?_ (fun q => absurd rfl q) (fun q => absurd rfl q) (fun q => absurd rfl q)
      intro _ h5 g1 g2
      have e0 := me_nil g2
      subst e0
      refine mt_riE s1 oa oz om fm_in0 oz4 on ?_ (fun _ q => absurd q cf) (fun _ _ q => absurd q cf) (fun _ _ q => absurd q cf) (fun _ _ q => absurd q cf)
      intro b q
      refine ⟨⟨by omega, by omega⟩, fun h6 g1 g2 => ?_⟩
      have e0 := me_nil g2
      subst e0
      exact ih 0 0 z (zn + 1) h6 (by omega) (by omega) (by omega) fm_in0 fm_in0 oz4 s1 (fun _ => ⟨rfl, s1, F4, fun q => absurd q cf, fun q => kB_pre y1 (s4 q)⟩) (fun q => absurd rfl q)
    by_cases cf : mi_f h4 9730 = 0
    rotate_left
    · refine mt_riC s1 oa oz om os ol on oz4 ?_ ?_ (fun _ _ _ q => absurd q cf) (fun _ _ _ q => absurd q cf)
      · intro q h5 g1 g2
        have e0 := me_nil g2
        subst e0
        exact out cf
      · intro b q q2 h5 g1 g2
        have e0 := me_nil g2
        subst e0
        exact out cf
    obtain ⟨x4, ow', g', a', zw', t', v', e', j', w0, w1, w2, w3, w4, w5, w6, w7, w8, w9, w10, w11, w12, ⟨wa0, wa1⟩, w13, w14⟩ := s3 cf
    rw [k5] at w0 w2 w5 w7 w8 w9 w10
    have ez : z = g' 150 (x.1 0 5).toNat := by
      injection w0 with q
      injection q
    have ci := cs_i w12.1
    have es := w12.2.1
    have i126 := ci.2.2.2.2.2.2.2.1 126 (by decide)
    obtain ⟨jj, J⟩ := ft_app w1 j x y1
    have KX := KL_trans y3 w5 (Int.le_refl _)
    have K3X := K3_trans y4 w6
    have g5 : g' 0 5 = x.1 0 5 := KX.1
    have K7 : g' 147 (x.1 0 5).toNat = x.1 147 (x.1 0 5).toNat := w7.trans y5
    have zpv : ft_p y.1 = if zs = 0 then 1 else 0 := by
      unfold ft_p
      rw [k5]
      by_cases cz : zs = 0
      · rw [if_pos cz, if_pos (Classical.byContradiction (fun q => y7.mpr q cz))]
      · rw [if_neg cz, if_neg (y7.mp cz)]
    have b150 := (w2.2.1 (x.1 0 5).toNat (by omega)).2.2.1
    have bU := w2.1.1
    /- on without a pair -/
    have go : ¬ (t' = 126 ∧ ft_p y.1 ≠ 0) → me_E (d + 14) 54 63 [some (.inr (.inr 76)), some (.inl (x.1 147 (x.1 0 5).toNat)), some (.inl (x.1 0 5)), some (.inl zm), some (.inl 0), some (.inl z), some (.inl zn)] [] h4 (ri_P n c f x h0) := fun np => by
      refine mt_riD s1 oa oz om fm_in0 oz4 on ?_ (fun q => absurd rfl q) (fun q => absurd rfl q) (fun q => absurd rfl q)
      intro _ h5 g1 g2
      have e0 := me_nil g2
      subst e0
      have stop : ¬ ip_t t' v' → ∀ h6, ab_Sh sx_sk h6 → ab_Fr [] h5 h6 → me_E (d + 14) 54 11 [some (.inr (.inr 76)), some (.inl (x.1 147 (x.1 0 5).toNat)), some (.inl (x.1 0 5)), some (.inl 0), some (.inl 0), some (.inl z), some (.inl (zn + 1))] [] h6 (ri_P n c f x h0) := fun nip h6 g1 g2 => by
        have e0 := me_nil g2
        subst e0
        exact ih 0 0 z (zn + 1) h6 (by omega) (by omega) (by omega) fm_in0 fm_in0 oz4 s1 (fun _ => ⟨rfl, s1, F4, fun _ => ⟨x4, ow', g', a', zw', ft_p y.1, t', v', e', jj, J, w2, w3, w4, KX, K3X, K7, w11, w12, ⟨wa0, wa1⟩, nip, w13, np⟩, fun q => absurd cf q⟩) (fun q => absurd rfl q)
      refine mt_riE s1 oa oz om fm_in0 oz4 on (fun _ q => absurd cf q) (fun _ _ q => absurd rfl q) ?_ ?_ ?_
      · intro b b2 q1 q2 q3
        exact ⟨⟨by omega, by omega⟩, stop (fun q => by have := ci.1.mpr q; omega)⟩
      · intro b b2 q1 q2 q3 q4
        exact ⟨⟨by omega, by omega⟩, stop (fun q => by have := ci.1.mpr q; omega)⟩
      · intro b b2 q1 q2 q3 q4
        refine ⟨⟨by omega, by omega⟩, fun h6 g1 g2 => ?_⟩
        have e0 := me_nil g2
        subst e0
        have ip : ip_t t' v' := ci.1.mp (by omega)
        refine ih 1 0 z (zn + 1) h6 (by omega) (by omega) (by omega) fm_in1 fm_in0 oz4 s1 (fun q => absurd q (by decide)) (fun _ => ⟨F4, ow', (g', a', 0, zw', ft_p y.1), t', v', e', jj, J, ⟨x4, cf, by show PI ow' g' (g' 0 5); rw [g5]; exact w2, w3, w4, by show g' 0 1 ≤ g' 0 0 + 1; omega, ⟨wa0, wa1⟩⟩, KX, K3X, K7, ez, ⟨fun q => absurd rfl q, fun q => absurd w8 q⟩, w12, Or.inr ip, by show zn + 1 ≤ g' 0 0; omega⟩)
    refine mt_riC s1 oa oz om os ol on oz4 ?_ (fun _ _ q => absurd cf q) ?_ ?_
    · intro q h5 g1 g2
      have e0 := me_nil g2
      subst e0
      exact go (fun q2 => by rw [zpv, if_neg q] at q2; exact q2.2 rfl)
    · intro b b2 q1 q2 q3 h5 g1 g2
      have e0 := me_nil g2
      subst e0
      exact go (fun q => q3 (by rw [es]; exact i126.mpr q.1))
    · intro b b2 q1 q2 q3 h5 g1 g2
      have e0 := me_nil g2
      subst e0
      have t126 := i126.mp (by rw [← es]; exact q3)
      have zp1 : ft_p y.1 ≠ 0 := by rw [zpv, if_pos q1]; decide
      obtain ⟨l9, l50⟩ := w9 zp1
      refine mt_riD s1 oa oz om fm_in1 oz4 on (fun q => absurd q (by decide)) ?_ ?_ ?_
      · intro _ q; exfalso; omega
      · intro _ q q4; exfalso; omega
      intro _ r1 r2
      refine ⟨⟨by omega, by omega⟩, fun h6 v1 v2 v3 => ?_⟩
      have x6 := CX_fr x4 v1 v3 (by decide)
      have ht6 := CT_fr w12 s1 v3 (by decide)
      have PSy : PSx y := fun _ => by
        rw [k5]
        exact Classical.byContradiction (fun q => y7.mpr q q1)
      have z151 : g' 151 (g' 0 5).toNat = 0 := PS_Tr _ y PSy w1 rfl
      have Q6 : CQ f ow' (rf_swap g') h6 := CQ_swap w4 s1 (by rw [g5]; exact w2) v3 (by rw [g5]; exact l9) z151 (fun i => by rw [v2 i, ez, g5, l50])
      have c12 : cs_t t' v' ≠ 12 := by have := i126.mpr t126; omega
      refine ⟨_, me_adv (d := d + 3) x6 ht6 wa1 (by omega) (by omega) c12, fun w h7 oww hq => ?_⟩
      obtain ⟨rfl, x7, F7, en7, ae7, t7, v7, e7, ht7⟩ := hq
      have Q7 := CQ_fr Q6 v1 F7 (by decide)
      have f7 : mi_f h7 9730 = 0 := ((me_f (c := 9730) F7 v1 rfl rfl).trans (me_f (c := 9730) v3 s1 rfl rfl)).trans cf
      have F7' : ab_Fr cw_W h0 h7 := (F4.trans (v3.wide (fun c hc => ab_swr_ok (by decide) hc))).trans (F7.wide (fun c hc => ab_swr_ok (by decide) hc))
      have TS : ft_T n c (g', a', 0, zw', ft_p y.1) (rf_swap g', e', 1, 0, 0) := ⟨_, _, _, _, w12.1, Or.inr ⟨fun q => by unfold ip_t at q; omega, rfl, Or.inr (Or.inl ⟨t126, zp1, rfl⟩)⟩⟩
      have PS := PI_swap (g := g') (by rw [g5]; exact w2) (by rw [g5]; exact l9) (by rw [g5]; exact l50)
      have s151 : rf_swap g' 151 (x.1 0 5).toNat ≠ 0 := by
        show (if (x.1 0 5).toNat = (g' 0 5).toNat then 1 else g' 151 (x.1 0 5).toNat) ≠ 0
        rw [g5, if_pos rfl]
        decide
      have KS2 : KL (x.1 0 5) (x.1 0 5) x.1 (rf_swap g') := by
        obtain ⟨a1, a2, a3, a4, a5, a6⟩ := KX
        refine ⟨a1, a2, a3, fun i hi => ?_, a5, a6⟩
        obtain ⟨i1, i2, i3, i4, i5⟩ := a4 i hi
        refine ⟨i1, i2, i3, i4, ?_⟩
        show (if i = (g' 0 5).toNat then 1 else g' 151 i) = _
        rw [if_neg (by omega)]
        exact i5
      refine mt_riE x7.1 oa oz om fm_in1 oz4 on (fun _ q => absurd f7 q) ?_ (fun _ _ _ q => absurd q (by decide)) (fun _ _ _ q => absurd q (by decide)) (fun _ _ _ q => absurd q (by decide))
      intro b _ _
      refine ⟨⟨by omega, by omega⟩, fun h8 g1 g2 => ?_⟩
      have e0 := me_nil g2
      subst e0
      refine ih 1 1 z (zn + 1) h8 (by omega) (by omega) (by omega) fm_in1 fm_in1 oz4 x7.1 (fun q => absurd q (by decide)) (fun _ => ⟨F7', ow', (rf_swap g', e', 1, 0, 0), t7, v7, e7, jj + 1, ft_snoc jj x J TS, ⟨x7, f7, PS, FI_cg w3 rfl rfl (fun _ => rfl), Q7, by show g' 0 1 ≤ g' 0 0 + 1; omega, ⟨by show 0 ≤ e'; omega, en7⟩⟩, KS2, K3X, K7, ez, ⟨fun _ => s151, fun _ => by decide⟩, ht7, Or.inl (by show (1 : Int) ≠ 0; decide), by show zn + 1 ≤ g' 0 0; omega⟩)
theorem me_readItems {D : Nat} {ow : Nat → Nat} {h : sm_H} {t v e : Int} (hD : 14 + 4 * (4 - x.1 0 5).toNat ≤ D) (hK : KS n c f ow x h) (HF : x.1 0 5 < 4 → rfo_S n c f (x.1 0 5 + 1)) (ht : CT n c h x.2.1 t v e) (hz : x.2.2.1 ≠ 0) (h150 : x.1 150 (x.1 0 5).toNat = -1) (h151 : x.1 151 (x.1 0 5).toNat = 0) : me_E D 54 0 [some (.inr (.inr 76)), some (.inl (x.1 147 (x.1 0 5).toNat)), some (.inl (x.1 0 5)), none, none, none, none] [] h (ri_P n c f x h) := by
  obtain ⟨d, rfl⟩ : ∃ d, D = d + 14 := ⟨D - 14, by omega⟩
  obtain ⟨hx, hf0, kP, kf, kQ, kA, ⟨ka0, ka1⟩⟩ := id hK
  obtain ⟨⟨p1, p2, p3, p4, p5, p6⟩, q1, -⟩ := id kP
  obtain ⟨l1, -⟩ := q1 (x.1 0 5).toNat (by omega)
  have oa : mi_in (x.1 147 (x.1 0 5).toNat) := ⟨by omega, by omega⟩
  refine mt_riA hx.1 oa ⟨by omega, by omega⟩ (fun h1 g1 g2 => ?_)
  have e0 := me_nil g2
  subst e0
  exact ri_loop (by omega) p6 oa HF 64 1 0 (-1) 0 h1 (by decide) (by decide) (by decide) fm_in1 fm_in0 ⟨by decide, by decide⟩ hx.1 (fun q => absurd q (by decide)) (fun _ => ⟨ab_Fr.refl, ow, x, t, v, e, 0, rfl, hK, KL_refl, ⟨Int.le_refl _, fun _ _ => rfl⟩, rfl, h150.symm, ⟨fun q => absurd rfl q, fun q => absurd h151 q⟩, ht, Or.inl hz, p1.1⟩)
end KIT
/-! the class's readForm does the same turns, at every level -/
/-- at readForm's loop, before an alternative is begun -/
def rf_H (n : Int) (c : Nat → Int) (f : Int → Int) (k : Int) (g : wk_g) (a : Int) (h0 h : sm_H) (zf zb zl zn : Int) : Prop :=
  ab_Fr cw_W h0 h ∧ CX n c h ∧ mi_f h 9730 = 0 ∧ ∃ (ow : Nat → Nat) (gp : wk_g) (p a1 zw zp t v e m : Int) (j : Nat), ft_Tr n c j (rf_beg g 0, a, 1, 0, 0) (rf_beg gp p, a1, 1, zw, zp) ∧ PI ow gp m ∧ k - 1 ≤ m ∧ FI f gp ∧ CQ f ow gp h ∧ gp 0 5 = k ∧ KL k k g gp ∧ K3x k g gp ∧ f (gp 146 k.toNat) = zf ∧ gp 130 (gp 146 k.toNat).toNat = zn - 1 ∧ (zl = if zn = 1 then -1 else gp 147 k.toNat) ∧ (zn ≠ 1 → 0 ≤ gp 147 k.toNat ∧ gp 147 k.toNat < gp 0 1) ∧ (p ≠ 0 → zb = p) ∧ gp 0 1 ≤ gp 0 0 ∧ CT n c h a1 t v e ∧ (0 ≤ a1 ∧ a1 ≤ n) ∧ swN gp k
section KFO
variable {n : Int} {c : Nat → Int} {f : Int → Int} {k : Int} {g : wk_g} {a : Int} {h0 : sm_H}
theorem rf_loop {d : Nat} {zf : Int} (hd : 4 * (4 - k).toNat ≤ d) (k01 : 0 ≤ k ∧ k ≤ 4) (of : mi_in zf) (HF : k < 4 → rfo_S n c f (k + 1)) : ∀ (N : Nat) (zm zb zl zn : Int) (h : sm_H), 8 - zn < N → 1 ≤ zn → zn ≤ 7 → mi_in zm → mi_in zb → mi_in zl → ab_Sh sx_sk h → ((zm = 0 ∨ 6 < zn) → rfo_Q n c f k g a h0 none h) → (zm ≠ 0 → zn ≤ 6 → rf_H n c f k g a h0 h zf zb zl zn) → me_E (d + 15) 52 33 [some (.inr (.inr 76)), some (.inl zf), some (.inl k), some (.inl zm), some (.inl zb), some (.inl zl), some (.inl zn)] [] h (rfo_Q n c f k g a h0) := by
  intro N
  induction N with
  | zero => intro zm zb zl zn h hN z0 z1; exfalso; omega
  | succ N ih =>
    intro zm zb zl zn h hN z0 z1 om ob ol hS h1 h2
    have oz : mi_in k := ⟨by omega, by omega⟩
    have on : mi_in zn := ⟨by omega, by omega⟩
    refine mt_rfB hS of oz om ob ol on ?_ ?_ ?_
    · intro c1 h3 g1 g2
      have e0 := me_nil g2
      subst e0
      exact h1 (Or.inl c1)
    · intro c1 c2 h3 g1 g2
      have e0 := me_nil g2
      subst e0
      exact h1 (Or.inr c2)
    intro c1 c2 h3 g1 g2
    have e0 := me_nil g2
    subst e0
    obtain ⟨F0, hx, hf0, ow, gp, p, a1, zw, zp, t, v, e, m, j, y1, y2, y3, y4, y5, y6, y7, y7x, y8, y9, y10, y11, y12, y13, y14, ⟨y15, y16⟩, y17⟩ := h2 c1 c2
    obtain ⟨⟨p1, p2, p3, p4, p5, p6⟩, q1, q2, -⟩ := id y2
    have f01 := q2 k.toNat (by omega)
    have fb := y4.2.2.2 _ f01.1 f01.2
    rw [y8] at fb
    have e86 := y5.1.2.1
    have e64 : mi_a h3 64 zf.toNat = zn - 1 := by
      have q := (y5.2.2.2.2.1 (gp 146 k.toNat).toNat (by omega)).2
      rw [Int.toNat_of_nonneg f01.1, y8, y9] at q
      exact q
    refine ⟨_, me_gaddAlternative (d := d + 13) (zf := zf) (zb := zl) (zp := zb) hS ob (by omega) (by omega) (by omega) (by omega) (by rw [y10]; split <;> omega) (by rw [y10]; split <;> omega) (by omega) (by omega), fun w h4 oww hq => ?_⟩
    obtain ⟨rfl, s1, s2, s3⟩ := hq
    have eb : zl = if gp 130 (gp 146 (gp 0 5).toNat).toNat = 0 then -1 else gp 147 (gp 0 5).toNat := by
      rw [y6, y9, y10]
      by_cases cz : zn = 1
      · rw [if_pos cz, if_pos (by omega)]
      · rw [if_neg cz, if_neg (by omega)]
    have Q4 : CQ f ow (rf_beg gp p) h4 := CQ_beg (zb := zl) (zp := zb) y5 hS y2 y4 s2 (by rw [y6, y8]; exact s3) eb (by rw [y6, y9]; exact fun q => (y11 (by omega)).1) y12 (by rw [y6]; exact y17)
    have P4 := PI_beg (p := p) y2 (by omega) (by rw [y6, y9]; omega)
    rw [y6] at P4
    have x4 := CX_fr hx s1 s2 (by decide)
    have ht4 := CT_fr y14 hS s2 (by decide)
    have f4 : mi_f h4 9730 = 0 := (me_f (c := 9730) s2 hS rfl rfl).trans hf0
    have F4 : ab_Fr cw_W h0 h4 := F0.trans (s2.wide (fun c hc => ab_swr_ok (by decide) hc))
    /- the alternative's rows -/
    obtain ⟨g4, hg4⟩ : ∃ g4, g4 = rf_beg gp p := ⟨_, rfl⟩
    rw [← hg4] at Q4 P4 y1
    have b05 : g4 0 5 = k := by rw [hg4]; exact y6
    have b03 : g4 0 3 = gp 0 3 := by rw [hg4]; rfl
    have b02 : g4 0 2 = gp 0 2 := by rw [hg4]; rfl
    have b00 : g4 0 0 = gp 0 0 := by rw [hg4]; rfl
    have b01 : g4 0 1 = gp 0 1 + 1 := by rw [hg4]; rfl
    have b114 : ∀ i, g4 114 i = gp 114 i := fun i => by rw [hg4]; rfl
    have b146 : ∀ i, g4 146 i = gp 146 i := fun i => by rw [hg4]; rfl
    have b148 : ∀ i, g4 148 i = gp 148 i := fun i => by rw [hg4]; rfl
    have b147 : ∀ i, g4 147 i = if i = k.toNat then gp 0 1 else gp 147 i := fun i => by rw [hg4, ← y6]; rfl
    have b149 : ∀ i, g4 149 i = if i = k.toNat then -1 else gp 149 i := fun i => by rw [hg4, ← y6]; rfl
    have b150 : ∀ i, g4 150 i = if i = k.toNat then -1 else gp 150 i := fun i => by rw [hg4, ← y6]; rfl
    have b151 : ∀ i, g4 151 i = if i = k.toNat then 0 else gp 151 i := fun i => by rw [hg4, ← y6]; rfl
    have b130 : ∀ i, g4 130 i = if i = (gp 146 k.toNat).toNat then gp 130 i + 1 else gp 130 i := fun i => by rw [hg4, ← y6]; rfl
    clear hg4
    have I4 : FI f g4 := FI_cg y4 b02 b03 b114
    have KB : KL k k gp g4 := by
      refine ⟨b05.trans y6.symm, b03, by omega, fun i hi => ?_, fun i hi => b148 i, b146 _⟩
      rw [b146, b147, b149, b150, b151, if_neg (by omega), if_neg (by omega), if_neg (by omega), if_neg (by omega)]
      exact ⟨rfl, rfl, rfl, rfl, rfl⟩
    have c130 : g4 130 (g4 146 k.toNat).toNat = zn := by rw [b146, b130, if_pos rfl, y9]; omega
    refine mt_rfC (zz := mi_f h3 7686) s1 of oz om ob ol on ⟨by omega, by omega⟩ (fun h5 g1 g2 => ?_)
    have e0 := me_nil g2
    subst e0
    have a147 : g4 147 k.toNat = mi_f h3 7686 := by rw [b147, if_pos rfl]; exact e86.symm
    have RI := me_readItems (x := (g4, a1, 1, zw, zp)) (D := d + 14) (by show 14 + 4 * (4 - g4 0 5).toNat ≤ _; rw [b05]; omega) (ow := ow) (h := h5) (t := t) (v := v) (e := e) (n := n) (c := c) (f := f) ⟨x4, f4, by show PI ow g4 (g4 0 5); rw [b05]; exact P4, I4, Q4, by show g4 0 1 ≤ g4 0 0 + 1; omega, ⟨y15, y16⟩⟩ (by show g4 0 5 < 4 → rfo_S n c f (g4 0 5 + 1); rw [b05]; exact HF) ht4 (by show (1 : Int) ≠ 0; decide) (by show g4 150 (g4 0 5).toNat = -1; rw [b05, b150, if_pos rfl]) (by show g4 151 (g4 0 5).toNat = 0; rw [b05, b151, if_pos rfl])
    have RI : me_E (d + 14) 54 0 [some (.inr (.inr 76)), some (.inl (g4 147 (g4 0 5).toNat)), some (.inl (g4 0 5)), none, none, none, none] [] h5 (ri_P n c f (g4, a1, 1, zw, zp) h5) := RI
    rw [b05, a147] at RI
    refine ⟨_, RI, fun w h6 oww hq => ?_⟩
    obtain ⟨rfl, u1, u2, u3, u4⟩ := hq
    have F6 : ab_Fr cw_W h0 h6 := F4.trans u2
    have oA : mi_in (mi_f h3 7686) := ⟨by omega, by omega⟩
    have b58 : mi_in (mi_f h6 9858) := by
      have := me_fb (c := 9858) u1 rfl
      exact ⟨by omega, by omega⟩
    by_cases cf : mi_f h6 9730 = 0
    rotate_left
    · refine mt_rfD u1 of oz om ob oA on ?_ (fun _ _ q => absurd q cf) (fun _ _ q => absurd q cf) (fun _ _ q => absurd q cf)
      intro b q
      refine ⟨⟨by omega, by omega⟩, fun h7 g1 g2 => ?_⟩
      have e0 := me_nil g2
      subst e0
      exact ih 0 _ _ (zn + 1) h7 (by omega) (by omega) (by omega) fm_in0 b58 oA u1 (fun _ => ⟨rfl, u1, F6, fun q => absurd q cf, fun q => kB_pre y1 (u4 q)⟩) (fun q => absurd rfl q)
    obtain ⟨x6, ow', g', a', zw', zp', t', v', e', j', w1, w2, w3, w4, w5, w6, w7, w8, w9, ⟨wa0, wa1⟩, w10, w11, w12⟩ := u3 cf
    have w2 : PI ow' g' (g4 0 5) := w2
    have w5 : KL (g4 0 5) (g4 0 5) g4 g' := w5
    have w6 : K3 g4 g' := w6
    have w7 : g' 147 (g4 0 5).toNat = g4 147 (g4 0 5).toNat := w7
    rw [b05] at w2 w5 w7
    have ci := cs_i w9.1
    have es := w9.2.1
    have i124 := ci.2.2.2.2.2.2.2.1 124 (by decide)
    obtain ⟨jj, J⟩ := ft_app w1 j _ y1
    have KX := KL_trans (KL_trans y7 KB (Int.le_refl _)) w5 (Int.le_refl _)
    have g5 : g' 0 5 = k := by rw [w5.1]; exact b05
    have g146 : g' 146 k.toNat = gp 146 k.toNat := by rw [w5.2.2.2.2.2, b146]
    have c130' : g' 130 (g' 146 k.toNat).toNat = zn := by
      rw [g146, w6.2 _ (by omega), ← b146]
      exact c130
    have g1k := y7.2.2.2.2.2
    have K3X : K3x k g g' := by
      refine ⟨Int.le_trans (Int.le_trans y7x.1 (by omega)) w6.1, fun y hy hne => ?_⟩
      have h02 := y7x.1
      rw [w6.2 y (by omega), b130, if_neg (by omega), y7x.2 y hy hne]
    have b147' := (w2.2.1 k.toNat (by omega)).1
    refine mt_rfD u1 of oz om ob oA on (fun _ q => absurd cf q) ?_ ?_ ?_
    · intro b b2 q1 q2
      refine ⟨⟨by omega, by omega⟩, fun h7 g1 g2 => ?_⟩
      have e0 := me_nil g2
      subst e0
      exact ih 0 _ _ (zn + 1) h7 (by omega) (by omega) (by omega) fm_in0 b58 oA u1 (fun _ => ⟨rfl, u1, F6, fun _ => ⟨x6, ow', g', a', zw', zp', t', v', e', jj, J, w2, w3, w4, KX, w8, w9, ⟨wa0, wa1⟩, w10, w11, w12, fun q => q2 (by rw [es]; exact i124.mpr q), K3X⟩, fun q => absurd cf q⟩) (fun q => absurd rfl q)
    · intro b b2 q1 q2 q3 h7 g1 g2
      have e0 := me_nil g2
      subst e0
      have t124 := i124.mp (by rw [← es]; exact q2)
      have c12 : cs_t t' v' ≠ 12 := by have := i124.mpr t124; omega
      refine ⟨_, me_adv (d := d + 4) x6 w9 wa1 (by omega) (by omega) c12, fun w h8 oww hq => ?_⟩
      obtain ⟨rfl, x8, F8, en8, ae8, t8, v8, e8, ht8⟩ := hq
      have f8 : mi_f h8 9730 = 0 := (me_f (c := 9730) F8 u1 rfl rfl).trans cf
      refine mt_rfE x8.1 of oz fm_in1 b58 oA on ⟨⟨by omega, by omega⟩, fun h9 g1 g2 => ?_⟩
      have e0 := me_nil g2
      subst e0
      have z151 : g' 151 (g' 0 5).toNat = 0 := PS_Tr jj _ (fun q => absurd q (show (1 : Int) ≠ 0 from by decide)) J rfl
      have TB : ft_T n c (g', a', 0, zw', zp') (rf_beg g' (mi_f h7 9858), e', 1, zw', zp') := ⟨_, _, _, _, w9.1, Or.inr ⟨w10, rfl, Or.inr (Or.inr (Or.inl ⟨t124, by show g' 130 (g' 146 (g' 0 5).toNat).toNat ≠ 6; rw [g5, c130']; exact q3, rfl⟩))⟩⟩
      refine ih 1 _ _ (zn + 1) h9 (by omega) (by omega) (by omega) fm_in1 b58 oA x8.1 (fun q => q.elim (fun q => absurd q (by decide)) (fun q => absurd (Int.le_antisymm c2 (Int.lt_add_one_iff.mp q)) q3)) (fun _ _ => ⟨F6.trans (F8.wide (fun c hc => ab_swr_ok (by decide) hc)), x8, f8, ow', g', mi_f h7 9858, e', zw', zp', t8, v8, e8, k, jj + 1, ft_snoc jj _ J TB, w2, by omega, w3, CQ_fr w4 u1 F8 (by decide), g5, KX, K3X, by rw [g146]; exact y8, by omega, ?_, fun _ => b147', fun _ => rfl, w8, ht8, ⟨by omega, en8⟩, fun q => absurd (by rw [← g5]; exact z151) q⟩)
      rw [if_neg (by omega), w7, a147]
    · intro b b2 q1 q2 q3
      refine ⟨⟨by omega, by omega⟩, fun h7 v1 v2 v3 v4 => ?_⟩
      have t124 := i124.mp (by rw [← es]; exact q2)
      refine ih 1 _ _ (zn + 1) h7 (by omega) (by omega) (by omega) fm_in1 b58 oA v1 (fun _ => ⟨rfl, v1, F6.trans (v4.wide (fun c hc => ab_swr_ok (by decide) hc)), fun q => by omega, fun _ => ?_⟩) (fun _ q => by omega)
      exact kB_of u1 v2 v3 (by decide) ⟨jj, _, J, _, _, _, _, w9.1, Or.inr (Or.inr (Or.inr (Or.inl ⟨w10, rfl, t124, by show g' 130 (g' 146 (g' 0 5).toNat).toNat = 6; rw [g5, c130']; exact q3, rfl⟩)))⟩
theorem me_readForm1 (k01 : 0 ≤ k ∧ k ≤ 4) (HF : k < 4 → rfo_S n c f (k + 1)) : rfo_S n c f k := by
  intro D ow g h zf a t v e hD hx hf0 hP hf hQ h5 hzf h130 hA ht a0 a1 hsn
  obtain ⟨d, rfl⟩ : ∃ d, D = d + 15 := ⟨D - 15, by omega⟩
  obtain ⟨⟨p1, p2, p3, p4, p5, p6⟩, q1, q2, -⟩ := id hP
  have f01 := q2 k.toNat (by omega)
  have fb := hf.2.2.2 _ f01.1 f01.2
  rw [hzf] at fb
  have of : mi_in zf := ⟨by omega, by omega⟩
  have b58 : mi_in (mi_f h 9858) := by
    have := me_fb (c := 9858) hx.1 rfl
    exact ⟨by omega, by omega⟩
  refine mt_rfA hx.1 of ⟨by omega, by omega⟩ (fun _ q => absurd hf0 q) ?_ ?_
  · intro _ _ q; exfalso; omega
  · intro b q1 q2 h1 g1 g2
    have e0 := me_nil g2
    subst e0
    exact rf_loop (by omega) k01 of HF 8 1 _ (-1) 1 h1 (by decide) (by decide) (by decide) fm_in1 b58 ⟨by decide, by decide⟩ hx.1 (fun q => by rcases q with q | q <;> omega) (fun _ _ => ⟨ab_Fr.refl, hx, hf0, ow, g, 0, a, 0, 0, t, v, e, k - 1, 0, rfl, hP, Int.le_refl _, hf, hQ, h5, KL_refl, ⟨Int.le_refl _, fun _ _ _ => rfl⟩, hzf, by rw [h130]; rfl, by rw [if_pos rfl], fun q => absurd rfl q, fun q => absurd rfl q, hA, ht, ⟨a0, a1⟩, hsn⟩)
theorem me_readForm : rfo_S n c f 0 := me_readForm1 ⟨by decide, by decide⟩ (fun _ => me_readForm1 ⟨by decide, by decide⟩ (fun _ => me_readForm1 ⟨by decide, by decide⟩ (fun _ => me_readForm1 ⟨by decide, by decide⟩ (fun _ => me_readForm1 ⟨by decide, by decide⟩ (fun q => absurd q (by decide))))))
end KFO
/-! the class's beginRule, and a whole rule -/
theorem me_readFormF {d : Nat} {h : sm_H} {zf zo : Int} (hS : ab_Sh sx_sk h) (of : mi_in zf) (oz : mi_in zo) (hf : mi_f h 9730 ≠ 0) : me_E (d + 15) 52 0 [some (.inr (.inr 76)), some (.inl zf), some (.inl zo), none, none, none, none] [] h (fun w h' => w = none ∧ h' = h) := by
  have b58 : mi_in (mi_f h 9858) := by
    have := me_fb (c := 9858) hS rfl
    exact ⟨by omega, by omega⟩
  refine mt_rfA hS of oz ?_ (fun _ q => absurd q hf) (fun _ q => absurd q hf)
  intro b q h1 g1 g2
  have e0 := me_nil g2
  subst e0
  refine mt_rfB hS of oz fm_in0 b58 ⟨by decide, by decide⟩ fm_in1 ?_ (fun q => absurd rfl q) (fun q => absurd rfl q)
  intro c1 h3 g1 g2
  exact ⟨rfl, me_nil g2⟩
/-- a fault at a rule's name -/
def br_F (g : wk_g) (t v p f : Int) : Prop := (t ≠ 2 ∧ f = 1 + 16 * p) ∨ (t = 2 ∧ 0 ≤ g 115 v.toNat ∧ f = 2 + 16 * p) ∨ (t = 2 ∧ g 115 v.toNat < 0 ∧ g 0 3 = 10 ∧ f = 3 + 16 * p)
def br_Q (n : Int) (c : Nat → Int) (f : Int → Int) (ow : Nat → Nat) (g : wk_g) (a t v e : Int) (h : sm_H) (w : Option mi_V) (h' : sm_H) : Prop :=
  ab_Sh sx_sk h' ∧ ab_Fr cw_W h h' ∧ ∃ zf, w = some (.inl zf) ∧ mi_in zf ∧
  ((mi_f h' 9730 ≠ 0 ∧ br_F g t v (mi_f h 9858) (kF h') ∧ kb h') ∨
   (mi_f h' 9730 = 0 ∧ t = 2 ∧ g 115 v.toNat < 0 ∧ g 0 3 < 10 ∧ zf = g 0 3 ∧ CX n c h' ∧ CQ (fi_rule f g) ow (rf_rule g v (mi_f h 9858)) h' ∧ FI (fi_rule f g) (rf_rule g v (mi_f h 9858)) ∧ fi_rule f g (g 0 2) = g 0 3 ∧ e ≤ n ∧ a < e ∧ ∃ t' v' e', CT n c h' e t' v' e'))
section KRD
variable {n : Int} {c : Nat → Int} {f : Int → Int} {ow : Nat → Nat} {g : wk_g} {h : sm_H} {a t v e : Int}
theorem me_beginRule {d : Nat} (hx : CX n c h) (ht : CT n c h a t v e) (a1 : a ≤ n) (hf : mi_f h 9730 = 0) (hP : PR ow g) (hI : FI f g) (hq : CQ f ow g h) (hps : PSr g) : me_E (d + 11) 46 0 [some (.inr (.inr 76)), none] [] h (br_Q n c f ow g a t v e h) := by
  have hS := hx.1
  obtain ⟨⟨p1, p2, p3, p4, p5⟩, -⟩ := id hP
  obtain ⟨⟨c0, c1, c2, c3, c4⟩, d1, d2, d3, -⟩ := id hq
  have ci := cs_i ht.1
  have es := ht.2.1
  have kf := tk_f a1 ht.1
  have i2 := ci.2.1
  have cb := ci.2.2.2.2.2.2.2.2.2.1
  have pb := CT_p hx ht a1
  have out : ∀ h1, ab_Sh sx_sk h1 → ab_Fr [(9730, 9732)] h h1 → mi_f h1 9730 ≠ 0 → br_F g t v (mi_f h 9858) (kF h1) → kb h1 → me_E (d + 11) 46 84 [some (.inr (.inr 76)), none] [] h1 (br_Q n c f ow g a t v e h) := by
    intro h1 s1 s2 s3 s4 s5
    refine mt_brC s1 (fun _ q => absurd q s3) (fun _ q h2 g1 g2 => ?_)
    have e0 := me_nil g2
    subst e0
    exact ⟨s1, s2.wide (fun c hc => ab_swr_ok (by decide) hc), -1, rfl, ⟨by decide, by decide⟩, Or.inl ⟨s3, s4, s5⟩⟩
  refine mt_brA hS ?_ ?_
  · intro b k1 h1 g1 g2
    have e0 := me_nil g2
    subst e0
    have t2 : t = 2 := i2.mp (by omega)
    have t12 : cs_t t v ≠ 12 := by omega
    obtain ⟨f60, f57⟩ := ht.2.2 (by omega) (by omega) t12
    have v01 := kf.2.2.2.1 t2
    have fv : mi_f h1 9860 = v + 65 := by rw [f60, t2]; rfl
    have ol : mi_in (mi_f h1 9860) := ⟨by omega, by omega⟩
    refine ⟨_, me_gruleNamed (d := d + 9) (zl := mi_f h1 9860) hS ol (by omega), fun w h2 oww hq2 => ?_⟩
    obtain ⟨rfl, z, rfl, hz⟩ := hq2
    have oz : mi_in z := by rcases hz with ⟨x1, x2, -⟩ | ⟨x1, -⟩ <;> exact ⟨by omega, by omega⟩
    refine mt_brB hS oz ?_ ?_ ?_
    · intro b2 z1 z2 h3 g1 g2
      have e0 := me_nil g2
      subst e0
      have nn : g 115 v.toNat < 0 := by
        rcases hz with ⟨x1, -⟩ | ⟨-, x2⟩
        · omega
        · refine Int.not_le.mp (fun q => ?_)
          have k := d2 v.toNat (by omega) q
          refine x2 (g 115 v.toNat).toNat (by omega) ?_
          rw [k.2, fv]
          omega
      refine mt_brC hS ?_ (fun _ q => absurd hf q)
      intro b3 q h4 g1 g2
      have e0 := me_nil g2
      subst e0
      refine ⟨_, me_gaddRule (d := d + 9) (zl := mi_f h4 9860) (zp := mi_f h4 9858) hS ol ⟨by omega, by omega⟩ (by omega) (by omega), fun w h5 oww hq5 => ?_⟩
      obtain ⟨rfl, s1, s2, s3, s4, s5⟩ := hq5
      rw [fv] at s4
      obtain ⟨Q1, Q2, Q3⟩ := CQ_rule hq hps hS hP hI v01.1 (by omega) nn (by omega) s2 s3 s4 s5
      have x5 := CX_fr hx s1 s2 (by decide)
      have t5 := CT_fr ht hS s2 (by decide)
      refine mt_brD s1 ⟨by omega, by omega⟩ (fun h6 g1 g2 => ?_)
      have e0 := me_nil g2
      subst e0
      refine ⟨_, me_adv (d := d) x5 t5 a1 (by omega) (by omega) t12, fun w h7 oww hq7 => ?_⟩
      obtain ⟨rfl, x7, F7, en, ae, t7⟩ := hq7
      refine mt_brE x7.1 ⟨by omega, by omega⟩ (fun h8 g1 g2 => ?_)
      have e0 := me_nil g2
      subst e0
      have f8 : mi_f h8 9730 = 0 := ((me_f (c := 9730) F7 s1 rfl rfl).trans (me_f (c := 9730) s2 hS rfl rfl)).trans hf
      exact ⟨x7.1, (s2.wide (fun c hc => ab_swr_ok (by decide) hc)).trans (F7.wide (fun c hc => ab_swr_ok (by decide) hc)), _, rfl, ⟨by omega, by omega⟩, Or.inr ⟨f8, t2, nn, by omega, by omega, x7, CQ_fr Q1 s1 F7 (by decide), Q2, Q3, en, ae, t7⟩⟩
    · intro b2 z1 z2 h3 g1 g2 g3 g4
      refine out h3 g1 g4 (by omega) (Or.inr (Or.inr ⟨t2, ?_, by omega, by unfold kF; rw [g2, g3]⟩)) (kb_of hS g2 g3 (by decide))
      rcases hz with ⟨x1, -⟩ | ⟨-, x2⟩
      · omega
      · refine Int.not_le.mp (fun q => ?_)
        have k := d2 v.toNat (by omega) q
        refine x2 (g 115 v.toNat).toNat (by omega) ?_
        rw [k.2, fv]
        omega
    · intro z1 h3 g1 g2 g3 g4
      refine out h3 g1 g4 (by omega) (Or.inr (Or.inl ⟨t2, ?_, by unfold kF; rw [g2, g3]⟩)) (kb_of hS g2 g3 (by decide))
      rcases hz with ⟨x1, x2, x3, -⟩ | ⟨x2, -⟩
      · obtain ⟨v', y1, y2, y3⟩ := d3 z.toNat (by omega)
        have : v' = v.toNat := by omega
        rw [← this, y3]
        omega
      · exact absurd x2 z1
  · intro b k1 h1 g1 g2 g3 g4
    have t2 : t ≠ 2 := fun q => k1 (by rw [es]; exact i2.mpr q)
    exact out h1 g1 g4 (by omega) (Or.inl ⟨t2, by unfold kF; rw [g2, g3]⟩) (kb_of hS g2 g3 (by decide))
end KRD
/-! the class's read: a rule, the loop -/
theorem rf_lr {g : wk_g} {v p : Int} : rf_lvl (rf_rule g v p) 0 = rf_rule g v p := by
  funext r i
  unfold rf_lvl
  by_cases c : r = 0
  · subst c
    by_cases c5 : i = 5
    · subst c5
      rfl
    · simp only [if_true, if_neg c5]
  · rw [if_neg c]
def cr_S (n : Int) (c : Nat → Int) (g : wk_g) (a : Int) (h : sm_H) : Prop := CX n c h ∧ ∃ (f : Int → Int) (ow : Nat → Nat) (t v e : Int), PR ow g ∧ FI f g ∧ CQ f ow g h ∧ g 0 1 ≤ g 0 0 ∧ CT n c h a t v e ∧ (0 ≤ a ∧ a ≤ n)
section KRE
variable {n : Int} {c : Nat → Int} {f : Int → Int} {ow : Nat → Nat} {g : wk_g} {h h0 : sm_H} {a t v e zn zf : Int} {q2 : Option mi_V} {Q : Option mi_V → sm_H → Prop}
theorem cr_step {d : Nat} (on : mi_in zn) (oq : ∀ v, q2 = some v → mi_ok v) (br : br_Q n c f ow g a t v e h0 (some (.inl zf)) h) (hP : PR ow g) (hps : PSr g) (hA : g 0 1 ≤ g 0 0) (ht : CT n c h0 a t v e) (a0 : 0 ≤ a) (hne : ¬ (t = 0 ∧ g 0 3 ≠ 0)) (K : ∀ h' zf, mi_in zf → ab_Sh sx_sk h' → ab_Fr cw_W h h' → (mi_f h' 9730 ≠ 0 → ru_F n c (g, a) (kF h') ∧ kb h') → (mi_f h' 9730 = 0 → ∃ g' a', ru_T n c (g, a) (g', a') ∧ cr_S n c g' a' h' ∧ g' 0 3 = g 0 3 + 1) → me_E (d + 32) 14 76 [some (.inr (.inr 76)), some (.inl zn), some (.inl zf)] [] h' Q) : me_E (d + 32) 14 57 [some (.inr (.inr 76)), some (.inl zn), q2] [.inl zf] h Q := by
  obtain ⟨s1, -, zf', ez, oz, br⟩ := br
  cases ez
  refine mt_rdE s1 on oz oq (fun h1 g1 g2 => ?_)
  have e0 := me_nil g2
  subst e0
  /- a fault in the form or at its end -/
  have Bad : ∀ h', mi_f h' 9730 ≠ 0 → ab_Sh sx_sk h' → ab_Fr cw_W h1 h' → (ru_F n c (g, a) (kF h') ∧ kb h') → me_E (d + 32) 14 76 [some (.inr (.inr 76)), some (.inl zn), some (.inl zf)] [] h' Q := fun h' x1 x2 x3 x4 => K h' zf oz x2 x3 (fun _ => x4) (fun q => absurd q x1)
  have Bad2 : ∀ h', mi_f h' 9730 ≠ 0 → ab_Sh sx_sk h' → ab_Fr cw_W h1 h' → (ru_F n c (g, a) (kF h') ∧ kb h') → me_E (d + 32) 14 70 [some (.inr (.inr 76)), some (.inl zn), some (.inl zf)] [] h' Q := fun h' x1 x2 x3 x4 => by
    refine mt_rdG x2 on oz (fun h2 g1 g2 => ?_)
    have e0 := me_nil g2
    subst e0
    refine ⟨_, me_expectF (d := d + 20) (zm := 59) x2 ⟨by decide, by decide⟩ x1, fun w h3 oww hq => ?_⟩
    obtain ⟨rfl, rfl⟩ := hq
    exact Bad _ x1 x2 x3 x4
  have Bad3 : ∀ h', mi_f h' 9730 ≠ 0 → ab_Sh sx_sk h' → ab_Fr cw_W h1 h' → (ru_F n c (g, a) (kF h') ∧ kb h') → me_E (d + 32) 14 64 [some (.inr (.inr 76)), some (.inl zn), some (.inl zf)] [] h' Q := fun h' x1 x2 x3 x4 => by
    refine mt_rdF x2 on oz (fun h2 g1 g2 => ?_)
    have e0 := me_nil g2
    subst e0
    refine ⟨_, me_readFormF (d := d + 16) x2 oz fm_in0 x1, fun w h3 oww hq => ?_⟩
    obtain ⟨rfl, rfl⟩ := hq
    exact Bad2 _ x1 x2 x3 x4
  rcases br with ⟨b1, b2, b3⟩ | ⟨b1, t2, b3, b4, b5, x1, Q1, I1, b6, en, ae, t', v', e', ht'⟩
  · refine ⟨_, me_expectF (d := d + 20) (zm := 61) s1 ⟨by decide, by decide⟩ b1, fun w h3 oww hq => ?_⟩
    obtain ⟨rfl, rfl⟩ := hq
    refine Bad3 _ b1 s1 ab_Fr.refl ⟨⟨t, v, mi_f h0 9858, e, ht.1, hne, ?_⟩, b3⟩
    rcases b2 with y | y | y
    · exact Or.inl y
    · exact Or.inr (Or.inl y)
    · exact Or.inr (Or.inr (Or.inl y))
  · subst t2
    have cj := cs_i ht'.1
    have i61 := cj.2.2.2.2.2.2.2.1 61 (by decide)
    refine ⟨_, me_expect (d := d + 20) (zm := 61) x1 ht' en ⟨by decide, by decide⟩ b1 (fun q => ⟨by have := i61.mp q; omega, by have := i61.mp q; omega, by omega⟩), fun w h3 oww hq => ?_⟩
    obtain ⟨rfl, hq⟩ := hq
    rcases hq with ⟨y1, y2, y3, y4, y5⟩ | ⟨y1, x3, F3, en3, ae3, t3, v3, e3, ht3⟩
    · refine Bad3 _ (by omega) y2 (y5.wide (fun c hc => ab_swr_ok (by decide) hc)) ⟨⟨2, v, mi_f h0 9858, e, ht.1, hne, Or.inr (Or.inr (Or.inr ⟨rfl, b3, by show g 0 3 ≠ 10; omega, t', v', _, e', ht'.1, Or.inl ⟨fun q => y1 (i61.mpr q), by unfold kF; rw [y3, y4]⟩⟩))⟩, kb_of x1.1 y3 y4 (by decide)⟩
    · have e61 := i61.mp y1
      subst e61
      refine mt_rdF x3.1 on oz (fun h4 g1 g2 => ?_)
      have e0 := me_nil g2
      subst e0
      obtain ⟨g1', hg1⟩ : ∃ g1', g1' = rf_rule g v (mi_f h0 9858) := ⟨_, rfl⟩
      have P1 : PI ow g1' (-1) := by rw [hg1]; exact PI_rule hP b4
      rw [← hg1] at Q1 I1
      have z5 : g1' 0 5 = 0 := by rw [hg1]; rfl
      have z3 : g1' 0 3 = g 0 3 + 1 := by rw [hg1]; rfl
      have z2 : g1' 0 2 = g 0 2 + 1 := by rw [hg1]; rfl
      have z1 : g1' 0 1 = g 0 1 := by rw [hg1]; rfl
      have z0 : g1' 0 0 = g 0 0 := by rw [hg1]; rfl
      have z146 : g1' 146 0 = g 0 2 := by rw [hg1]; rfl
      have z130 : g1' 130 (g 0 2).toNat = 0 := by rw [hg1]; show (if (g 0 2).toNat = (g 0 2).toNat then (0 : Int) else _) = 0; rw [if_pos rfl]
      have eX : ru_x g v (mi_f h0 9858) e' = (rf_beg g1' 0, e', 1, 0, 0) := by unfold ru_x; rw [rf_lr, hg1]
      have f3 : mi_f h4 9730 = 0 := (me_f (c := 9730) F3 x1.1 rfl rfl).trans b1
      have FF3 : ab_Fr cw_W h1 h4 := F3.wide (fun c hc => ab_swr_ok (by decide) hc)
      have swn : swN g1' 0 := by
        intro q
        have e51 : g1' 151 (0 : Int).toNat = g 151 0 := by rw [hg1]; rfl
        rw [e51] at q
        rcases hps with p | ⟨p1, p2⟩
        · rw [z0]; omega
        · have : (g 0 5).toNat = 0 := by omega
          rw [this] at p2
          exact absurd p2 q
      have RF := me_readForm (n := n) (c := c) (f := fi_rule f g) (d + 31) ow g1' h4 zf e' t3 v3 e3 (by have : (4 - (0 : Int)).toNat = 4 := rfl; omega) x3 f3 P1 I1 (CQ_fr Q1 x1.1 F3 (by decide)) z5 (by show fi_rule f g (g1' 146 0) = zf; rw [z146, b6, b5]) (by show g1' 130 (g1' 146 0).toNat = 0; rw [z146]; exact z130) (by omega) ht3 (by omega) en3 swn
      refine ⟨_, RF, fun w h5 oww hq => ?_⟩
      obtain ⟨rfl, u1, u2, u3, u4⟩ := hq
      have FF5 := FF3.trans u2
      by_cases cf : mi_f h5 9730 = 0
      rotate_left
      · obtain ⟨w1, w2⟩ := u4 cf
        refine Bad2 _ cf u1 FF5 ⟨⟨2, v, mi_f h0 9858, e, ht.1, hne, Or.inr (Or.inr (Or.inr ⟨rfl, b3, by show g 0 3 ≠ 10; omega, 61, v', _, e', ht'.1, Or.inr ⟨rfl, ?_⟩⟩))⟩, w2⟩
        show ft_B n c (ru_x g v (mi_f h0 9858) e') _
        rw [eX]
        exact w1
      obtain ⟨x5, ow', g', a', zw', zp', t5, v5, e5, j, w1, w2, w3, w4, w5, w6, w7, ⟨wa0, wa1⟩, w8, w9, w10, w11, w12⟩ := u3 cf
      obtain ⟨l1, l2, l3, -⟩ := w5
      have ck := cs_i w7.1
      have i59 := ck.2.2.2.2.2.2.2.1 59 (by decide)
      refine mt_rdG u1 on oz (fun h6 g1 g2 => ?_)
      have e0 := me_nil g2
      subst e0
      refine ⟨_, me_expect (d := d + 20) (zm := 59) x5 w7 wa1 ⟨by decide, by decide⟩ cf (fun q => ⟨by have := i59.mp q; omega, by have := i59.mp q; omega, by omega⟩), fun w h7 oww hq => ?_⟩
      obtain ⟨rfl, hq⟩ := hq
      rcases hq with ⟨y1, y2, y3, y4, y5⟩ | ⟨y1, x7, F7, en7, ae7, t7, v7, e7, ht7⟩
      · refine Bad _ (by omega) y2 (FF5.trans (y5.wide (fun c hc => ab_swr_ok (by decide) hc))) ⟨⟨2, v, mi_f h0 9858, e, ht.1, hne, Or.inr (Or.inr (Or.inr ⟨rfl, b3, by show g 0 3 ≠ 10; omega, 61, v', _, e', ht'.1, Or.inr ⟨rfl, ?_⟩⟩))⟩, kb_of u1 y3 y4 (by decide)⟩
        show ft_B n c (ru_x g v (mi_f h0 9858) e') _
        rw [eX]
        refine ⟨j, _, w1, t5, v5, _, e5, w7.1, Or.inr (Or.inr (Or.inr (Or.inr ⟨w8, rfl, w9, w10, w11, fun q => ?_, fun q => y1 (i59.mpr q.1), by unfold kF; rw [y3, y4]⟩)))⟩
        have : 0 < g' 0 5 := q.2
        omega
      · have e59 := i59.mp y1
        subst e59
        have f7 : mi_f h7 9730 = 0 := (me_f (c := 9730) F7 u1 rfl rfl).trans cf
        refine K h7 zf oz x7.1 (FF5.trans (F7.wide (fun c hc => ab_swr_ok (by decide) hc))) (fun q => absurd f7 q) (fun _ => ⟨g', e5, ?_, ⟨x7, fi_rule f g, ow', t7, v7, e7, w2.r, w3, CQ_fr w4 u1 F7 (by decide), w6, ht7, ⟨by omega, en7⟩⟩, by omega⟩)
        refine ⟨v, mi_f h0 9858, e, v', _, e', (g', a', 0, zw', zp'), ht.1, b3, by show g 0 3 ≠ 10; omega, ht'.1, ?_, rfl⟩
        show ft_D n c (ru_x g v (mi_f h0 9858) e') (g', a', 0, zw', zp') e5
        rw [eX]
        exact ⟨j, w1, v5, _, w7.1, rfl, by show g' 0 5 ≤ 0; omega⟩
end KRE
/-! what the rows hold, purely: places, sorts, repeats, literals' numbers -/
def PV (n : Int) (g : wk_g) : Prop := 0 ≤ g 0 0 ∧ (0 ≤ g 0 4 ∧ g 0 4 ≤ 20) ∧ ∀ u : Nat, (u : Int) < g 0 0 → (0 ≤ g 121 u ∧ g 121 u ≤ n) ∧ (1 ≤ g 119 u ∧ g 119 u ≤ 10) ∧ (0 ≤ g 122 u ∧ g 122 u ≤ 2) ∧ (g 119 u = 8 → 0 ≤ g 120 u ∧ g 120 u < 20)
section PVS
variable {n : Int} {c : Nat → Int} {g g' : wk_g}
theorem PV_cg (h : PV n g) (e0 : g' 0 0 = g 0 0) (e4 : g' 0 4 = g 0 4) (a : g' 119 = g 119) (b : g' 120 = g 120) (d : g' 121 = g 121) (e : g' 122 = g 122) : PV n g' := by
  unfold PV at h ⊢
  rw [e0, e4, a, b, d, e]
  exact h
theorem PV_unit {s w p : Int} (h : PV n g) (hs : 1 ≤ s ∧ s ≤ 10) (hp : 0 ≤ p ∧ p ≤ n) (hw : s = 8 → 0 ≤ w ∧ w < 20) : PV n (rf_unit g s w p) := by
  obtain ⟨h0, h4, h⟩ := h
  refine ⟨by show 0 ≤ g 0 0 + 1; omega, h4, fun u hu => ?_⟩
  have hu : (u : Int) < g 0 0 + 1 := hu
  show (0 ≤ (if u = (g 0 0).toNat then p else g 121 u) ∧ (if u = (g 0 0).toNat then p else g 121 u) ≤ n) ∧ (1 ≤ (if u = (g 0 0).toNat then s else g 119 u) ∧ (if u = (g 0 0).toNat then s else g 119 u) ≤ 10) ∧ (0 ≤ (if u = (g 0 0).toNat then 0 else g 122 u) ∧ (if u = (g 0 0).toNat then 0 else g 122 u) ≤ 2) ∧ ((if u = (g 0 0).toNat then s else g 119 u) = 8 → 0 ≤ (if u = (g 0 0).toNat then w else g 120 u) ∧ (if u = (g 0 0).toNat then w else g 120 u) < 20)
  by_cases cu : u = (g 0 0).toNat
  · simp only [if_pos cu]
    exact ⟨hp, hs, ⟨by decide, by decide⟩, hw⟩
  · simp only [if_neg cu]
    exact h u (by omega)
theorem PV_wrap {u w p : Int} (h : PV n g) (hw : 0 ≤ w ∧ w ≤ 2) : PV n (rf_wrap g u w p) := by
  obtain ⟨h0, h4, h⟩ := h
  refine ⟨h0, h4, fun i hi => ?_⟩
  obtain ⟨k1, k2, k3, k4⟩ := h i hi
  refine ⟨k1, k2, ?_, k4⟩
  show 0 ≤ (if i = u.toNat then w else g 122 i) ∧ (if i = u.toNat then w else g 122 i) ≤ 2
  split
  · exact hw
  · exact k3
theorem PV_word {u w : Int} (h : PV n g) (hs : g 119 u.toNat ≠ 8) : PV n (rf_word g u w) := by
  obtain ⟨h0, h4, h⟩ := h
  refine ⟨h0, h4, fun i hi => ?_⟩
  obtain ⟨k1, k2, k3, k4⟩ := h i hi
  refine ⟨k1, k2, k3, fun q => ?_⟩
  have q : g 119 i = 8 := q
  have : i ≠ u.toNat := fun e => hs (by rw [← e]; exact q)
  show 0 ≤ (if i = u.toNat then w else g 120 i) ∧ (if i = u.toNat then w else g 120 i) < 20
  rw [if_neg this]
  exact k4 q
theorem PV_o2 {u f : Int} (h : PV n g) (hs : g 119 u.toNat ≠ 8) : PV n (rf_o2 g u f) := PV_cg (PV_word (u := u) (w := f) h hs) rfl rfl rfl rfl rfl rfl
theorem PV_put {u : Int} (h : PV n g) : PV n (rf_put g u) := PV_cg h rfl rfl rfl rfl rfl rfl
theorem PV_beg {p : Int} (h : PV n g) : PV n (rf_beg g p) := PV_cg h rfl rfl rfl rfl rfl rfl
theorem PV_lvl {k : Int} (h : PV n g) : PV n (rf_lvl g k) := PV_cg h rfl rfl rfl rfl rfl rfl
theorem PV_swap (h : PV n g) : PV n (rf_swap g) := PV_cg h rfl rfl rfl rfl rfl rfl
theorem PV_new (h : PV n g) : PV n (rf_new g) := PV_cg h rfl rfl rfl rfl rfl rfl
theorem PV_o1 {u : Int} (h : PV n g) : PV n (rf_o1 g u) := PV_cg h rfl rfl rfl rfl rfl rfl
theorem PV_rule {v p : Int} (h : PV n g) : PV n (rf_rule g v p) := PV_cg h rfl rfl rfl rfl rfl rfl
theorem PV_lit {k : Int} (h : PV n g) (h4 : g 0 4 < 20) : PV n (rf_lit g k) := by
  obtain ⟨h0, h5, h⟩ := h
  exact ⟨h0, ⟨by show 0 ≤ g 0 4 + 1; omega, by show g 0 4 + 1 ≤ 20; omega⟩, h⟩
theorem PV_rp {t v p : Int} (h : PV n g) (hip : ip_t t v) (hp : 0 ≤ p ∧ p ≤ n) (hr : rp_R g t v p g') : PV n g' ∧ ((t = 1 ∧ so_r v = 1) → g' 119 (g' 0 0 - 1).toNat = 1) := by
  rcases hr with ⟨e1, e2⟩ | ⟨e1, z, gl, e2, e3⟩ | ⟨e1, e2⟩
  · refine ⟨?_, fun q => by omega⟩
    rw [e2]
    refine PV_beg (PV_o2 (PV_new (PV_o1 (PV_unit h ⟨by decide, by decide⟩ hp (fun q => absurd q (by decide))))) ?_)
    show (if (g 0 0).toNat = (g 0 0).toNat then (10 : Int) else g 119 (g 0 0).toNat) ≠ 8
    rw [if_pos rfl]
    decide
  · refine ⟨?_, fun q => by omega⟩
    rw [e3]
    have h4 := h.2.1
    rcases e2 with ⟨x1, x2, x3, x4, x5⟩ | ⟨x1, x2, x3, x4⟩
    · rw [x5]
      exact PV_put (PV_unit h ⟨by decide, by decide⟩ hp (fun _ => ⟨x1, by omega⟩))
    · rw [x4]
      exact PV_put (PV_unit (PV_lit h x2) ⟨by decide, by decide⟩ hp (fun _ => ⟨by omega, by omega⟩))
  · have sv := so_r_v v
    have sp : 1 ≤ pu_s t v ∧ pu_s t v ≤ 10 ∧ pu_s t v ≠ 8 := by
      unfold ip_t at hip
      unfold pu_s
      by_cases c1 : t = 1
      · rw [if_pos c1]
        omega
      · rw [if_neg c1]
        by_cases c2 : t = 2
        · rw [if_pos c2]
          decide
        · omega
    refine ⟨?_, fun q => ?_⟩
    · rw [e2]
      exact PV_put (PV_unit h ⟨sp.1, sp.2.1⟩ hp (fun q => absurd q sp.2.2))
    · rw [e2]
      show (if (g 0 0 + 1 - 1).toNat = (g 0 0).toNat then pu_s t v else g 119 (g 0 0 + 1 - 1).toNat) = 1
      rw [show g 0 0 + 1 - 1 = g 0 0 by omega, if_pos rfl]
      unfold pu_s
      rw [if_pos q.1]
      exact q.2
/-- the alternatives' and the forms' links -/
def PW (g : wk_g) : Prop := 0 ≤ g 0 1 ∧ 0 ≤ g 0 2 ∧ (∀ a : Nat, (a : Int) < g 0 1 → -1 ≤ g 128 a ∧ g 128 a < g 0 1) ∧ ∀ f : Nat, (f : Int) < g 0 2 → -1 ≤ g 129 f ∧ g 129 f < g 0 1
theorem PW_cg (h : PW g) (e1 : g' 0 1 = g 0 1) (e2 : g' 0 2 = g 0 2) (a : g' 128 = g 128) (b : g' 129 = g 129) : PW g' := by
  unfold PW at h ⊢
  rw [e1, e2, a, b]
  exact h
theorem PW_beg {p : Int} (h : PW g) : PW (rf_beg g p) := by
  obtain ⟨h1, h2, h3, h4⟩ := h
  refine ⟨by show 0 ≤ g 0 1 + 1; omega, h2, fun a ha => ?_, fun f hf => ?_⟩
  · have ha : (a : Int) < g 0 1 + 1 := ha
    show -1 ≤ (if g 130 (g 146 (g 0 5).toNat).toNat ≠ 0 ∧ a = (g 147 (g 0 5).toNat).toNat then g 0 1 else if a = (g 0 1).toNat then -1 else g 128 a) ∧ (if g 130 (g 146 (g 0 5).toNat).toNat ≠ 0 ∧ a = (g 147 (g 0 5).toNat).toNat then g 0 1 else if a = (g 0 1).toNat then -1 else g 128 a) < g 0 1 + 1
    split
    · omega
    · split
      · omega
      · have := h3 a (by omega)
        omega
  · have := h4 f hf
    show -1 ≤ (if g 130 (g 146 (g 0 5).toNat).toNat = 0 ∧ f = (g 146 (g 0 5).toNat).toNat then g 0 1 else g 129 f) ∧ (if g 130 (g 146 (g 0 5).toNat).toNat = 0 ∧ f = (g 146 (g 0 5).toNat).toNat then g 0 1 else g 129 f) < g 0 1 + 1
    split <;> omega
theorem PW_form {g' : wk_g} (h : PW g) (e1 : g' 0 1 = g 0 1) (e2 : g' 0 2 = g 0 2 + 1) (a : g' 128 = g 128) (b : ∀ i, g' 129 i = if i = (g 0 2).toNat then -1 else g 129 i) : PW g' := by
  obtain ⟨h1, h2, h3, h4⟩ := h
  refine ⟨by omega, by omega, fun i hi => ?_, fun f hf => ?_⟩
  · rw [a, e1]
    exact h3 i (by omega)
  · rw [b, e1]
    split
    · omega
    · exact h4 f (by omega)
theorem PW_rp {t v p : Int} (h : PW g) (hr : rp_R g t v p g') : PW g' := by
  rcases hr with ⟨e1, e2⟩ | ⟨e1, z, gl, e2, e3⟩ | ⟨e1, e2⟩
  · rw [e2]
    exact PW_beg (PW_cg (PW_form (g' := rf_new (rf_o1 (rf_unit g 10 0 p) (g 0 0))) h rfl rfl rfl (fun _ => rfl)) rfl rfl rfl rfl)
  · rw [e3]
    rcases e2 with ⟨x1, x2, x3, x4, x5⟩ | ⟨x1, x2, x3, x4⟩
    · rw [x5]
      exact PW_cg h rfl rfl rfl rfl
    · rw [x4]
      exact PW_cg h rfl rfl rfl rfl
  · rw [e2]
    exact PW_cg h rfl rfl rfl rfl
theorem PW_T {x y : ft_X} (h : PW x.1) (ht : ft_T n c x y) : PW y.1 := by
  obtain ⟨t, v, p, e, k1, k2⟩ := ht
  rcases k2 with ⟨hip, -, g1, r1, r2⟩ | ⟨nip, -, m⟩
  · have q1 := PW_rp h r1
    rcases r2 with ⟨-, r3⟩ | ⟨-, g2, a2, r3, r4, r5⟩
    · rw [r3]
      exact q1
    · rw [r5]
      by_cases cn : t = 1 ∧ so_r v = 1
      · obtain ⟨t2, v2, p2, e2, l1, l2⟩ := r3 cn
        rcases l2 with ⟨-, l3, l4⟩ | ⟨l3, v3, p3, l4, l5⟩
        · rw [l3]
          exact q1
        · rw [l5]
          exact PW_cg q1 rfl rfl rfl rfl
      · obtain ⟨l1, l2⟩ := r4 cn
        rw [l1]
        exact q1
  · rcases m with ⟨m1, -, m3⟩ | ⟨m1, -, m3⟩ | ⟨m1, -, m3⟩ | ⟨m1, -, m3⟩
    all_goals rw [m3]
    · exact PW_cg h rfl rfl rfl rfl
    · exact PW_cg h rfl rfl rfl rfl
    · exact PW_beg h
    · exact PW_cg h rfl rfl rfl rfl
theorem PW_Tr {y : ft_X} : ∀ (k : Nat) (x : ft_X), PW x.1 → ft_Tr n c k x y → PW y.1 := by
  intro k
  induction k with
  | zero => intro x h e; have e : x = y := e; rw [← e]; exact h
  | succ k ih => intro x h e; obtain ⟨z, e1, e2⟩ := e; exact ih z (PW_T h e1) e2
theorem PW_ruTr {s' : wk_g × Int} : ∀ (k : Nat) (s : wk_g × Int), PW s.1 → ru_Tr n c k s s' → PW s'.1 := by
  intro k
  induction k with
  | zero => intro s h e; have e : s = s' := e; rw [← e]; exact h
  | succ k ih =>
    intro s h e
    obtain ⟨z, ⟨v, p, e', v2, p2, e2', y, k1, -, -, k4, ⟨k', k5, -⟩, k7⟩, e2⟩ := e
    refine ih z ?_ e2
    rw [k7]
    exact PW_Tr k' _ (show PW (ru_x s.1 v p e2').1 from PW_beg (PW_cg (PW_form (g' := rf_rule s.1 v p) h rfl rfl rfl (fun _ => rfl)) rfl rfl rfl rfl)) k5
theorem PW_0 (h : rz_0 g) : PW g := ⟨by have := h.1.2.1; omega, by have := h.1.2.2.1; omega, fun a ha => by have := h.1.2.1; omega, fun f hf => by have := h.1.2.2.1; omega⟩
def PX (n : Int) (x : ft_X) : Prop := (0 ≤ x.2.1 ∧ x.2.1 ≤ n) ∧ PV n x.1
theorem PX_T {x y : ft_X} (h : PX n x) (ht : ft_T n c x y) : PX n y := by
  obtain ⟨⟨a0, a1⟩, h⟩ := h
  obtain ⟨t, v, p, e, k1, k2⟩ := ht
  have kf := tk_f a1 k1
  rcases k2 with ⟨hip, -, g1, r1, r2⟩ | ⟨nip, -, m⟩
  · have ne := ip_ne hip
    have ke := kf.2.2.1 ne.1 ne.2
    obtain ⟨q1, q2⟩ := PV_rp h hip ⟨by omega, by omega⟩ r1
    rcases r2 with ⟨-, r3⟩ | ⟨-, g2, a2, r3, r4, r5⟩
    · rw [r3]
      exact ⟨⟨by show 0 ≤ e; omega, by show e ≤ n; omega⟩, q1⟩
    · rw [r5]
      by_cases cn : t = 1 ∧ so_r v = 1
      · obtain ⟨t2, v2, p2, e2, l1, l2⟩ := r3 cn
        rcases l2 with ⟨-, l3, l4⟩ | ⟨l3, v3, p3, l4, l5⟩
        · rw [l3, l4]
          exact ⟨⟨by show 0 ≤ e; omega, by show e ≤ n; omega⟩, q1⟩
        · have f1 := tk_f ke.2 l1
          have f1 := f1.2.2.1 (by omega) (by omega)
          have f2 := tk_f (by omega) l4
          have f2 := f2.2.2.1 (by decide) (by decide)
          have f3 := tk_f ke.2 l1
          have f4 := tk_f (by omega) l4
          rw [l5]
          refine ⟨⟨by show 0 ≤ a2; omega, by show a2 ≤ n; omega⟩, PV_word q1 ?_⟩
          rw [q2 cn]
          decide
      · obtain ⟨l1, l2⟩ := r4 cn
        rw [l1, l2]
        exact ⟨⟨by show 0 ≤ e; omega, by show e ≤ n; omega⟩, q1⟩
  · rcases m with ⟨m1, -, m3⟩ | ⟨m1, -, m3⟩ | ⟨m1, -, m3⟩ | ⟨m1, -, m3⟩
    all_goals
      have ke := kf.2.2.1 (by omega) (by omega)
      rw [m3]
      refine ⟨⟨by show 0 ≤ e; omega, by show e ≤ n; omega⟩, ?_⟩
    · exact PV_wrap h (by split <;> decide)
    · exact PV_swap h
    · exact PV_beg h
    · exact PV_put (PV_lvl h)
theorem PX_Tr {y : ft_X} : ∀ (k : Nat) (x : ft_X), PX n x → ft_Tr n c k x y → PX n y := by
  intro k
  induction k with
  | zero => intro x h e; have e : x = y := e; rw [← e]; exact h
  | succ k ih => intro x h e; obtain ⟨z, e1, e2⟩ := e; exact ih z (PX_T h e1) e2
theorem PV_ru {s s' : wk_g × Int} (a01 : 0 ≤ s.2 ∧ s.2 ≤ n) (h : PV n s.1) (ht : ru_T n c s s') : (0 ≤ s'.2 ∧ s'.2 ≤ n) ∧ PV n s'.1 := by
  obtain ⟨v, p, e, v2, p2, e2, y, k1, -, -, k4, ⟨k, k5, v5, p5, k6, -⟩, k7⟩ := ht
  have f1 := tk_f a01.2 k1
  have f2 := f1.2.2.1 (by decide) (by decide)
  have f3 := tk_f f2.2 k4
  have f4 := f3.2.2.1 (by decide) (by decide)
  obtain ⟨⟨b0, b1⟩, b2⟩ := PX_Tr k _ (show PX n (ru_x s.1 v p e2) from ⟨⟨by show 0 ≤ e2; omega, by show e2 ≤ n; omega⟩, PV_beg (PV_lvl (PV_rule h))⟩) k5
  have f5 := tk_f b1 k6
  have f6 := f5.2.2.1 (by decide) (by decide)
  rw [k7]
  exact ⟨⟨by omega, by omega⟩, b2⟩
theorem PV_ruTr {s' : wk_g × Int} : ∀ (k : Nat) (s : wk_g × Int), (0 ≤ s.2 ∧ s.2 ≤ n) → PV n s.1 → ru_Tr n c k s s' → (0 ≤ s'.2 ∧ s'.2 ≤ n) ∧ PV n s'.1 := by
  intro k
  induction k with
  | zero => intro s a h e; have e : s = s' := e; rw [← e]; exact ⟨a, h⟩
  | succ k ih =>
    intro s a h e
    obtain ⟨z, e1, e2⟩ := e
    obtain ⟨b1, b2⟩ := PV_ru a h e1
    exact ih z b1 b2 e2
theorem PV_0 (h : rz_0 g) : PV n g := ⟨by have := h.1.1; omega, ⟨by have := h.1.2.2.2.2; omega, by have := h.1.2.2.2.2; omega⟩, fun u hu => by have := h.1.1; omega⟩
end PVS
/-! the class's nameUses, read -/
def nu_W : List (Nat × Nat) := [(8832, 8833), (9730, 9732)]
/-- the rows, and the uses' rules named -/
def CU (f : Int → Int) (ow : Nat → Nat) (g : wk_g) (k : Int) (h : sm_H) : Prop := ∃ h0, ab_Sh sx_sk h0 ∧ CQ f ow g h0 ∧ ab_Fr nu_W h0 h ∧ ∀ u : Nat, (u : Int) < g 0 0 → mi_a h 69 u = if g 119 u = 9 ∧ (u : Int) < k then g 115 (g 120 u).toNat else mi_a h0 69 u
def nu_Q (f : Int → Int) (ow : Nat → Nat) (g : wk_g) (h0 : sm_H) (w : Option mi_V) (h' : sm_H) : Prop := w = none ∧ ab_Sh sx_sk h' ∧ ab_Fr nu_W h0 h' ∧
  (mi_f h' 9730 = 0 → mi_f h' 9731 = 0 ∧ rz_U g ∧ CU f ow g (g 0 0) h') ∧ (mi_f h' 9730 ≠ 0 → rz_N g (kF h') ∧ kb h')
section KNU
variable {f : Int → Int} {ow : Nat → Nat} {g : wk_g} {h0 : sm_H}
theorem nu_loop {d : Nat} (hS0 : ab_Sh sx_sk h0) (hP : PR ow g) (hq : CQ f ow g h0) (hpl : ∀ u : Nat, (u : Int) < g 0 0 → 0 ≤ g 121 u ∧ g 121 u ≤ 241) : ∀ (N : Nat) (zu : Int) (q2 : Option mi_V) (h : sm_H), 60 - zu < N → 0 ≤ zu → zu ≤ 60 → (∀ v, q2 = some v → mi_ok v) → ab_Sh sx_sk h → ab_Fr nu_W h0 h → (∀ u : Nat, (u : Int) < g 0 0 → mi_a h 69 u = if g 119 u = 9 ∧ (u : Int) < zu then g 115 (g 120 u).toNat else mi_a h0 69 u) → (mi_f h 9730 = 0 → mi_f h 9731 = 0 ∧ ∀ j : Nat, (j : Int) < zu → (j : Int) < g 0 0 → g 119 j = 9 → 0 ≤ g 115 (g 120 j).toNat) → (mi_f h 9730 ≠ 0 → rz_N g (kF h) ∧ kb h) → me_E (d + 2) 64 2 [some (.inr (.inr 76)), some (.inl zu), q2] [] h (nu_Q f ow g h0) := by
  obtain ⟨⟨p1, p2, p3, p4, p5⟩, -⟩ := hP
  obtain ⟨⟨c0, c1, c2, c3, c4⟩, d1, d2, d3, d4, d5, d6, d7, d8, d9, dw⟩ := id hq
  intro N
  induction N with
  | zero => intro zu q2 h hN z0 z1; exfalso; omega
  | succ N ih =>
    intro zu q2 h hN z0 z1 oq hS hF h69 hg hb
    have ou : mi_in zu := ⟨by omega, by omega⟩
    have e90 : mi_f h 7690 = g 0 0 := (me_f (c := 7690) hF hS0 rfl rfl).trans c0
    have e80 : mi_f h 7680 = g 0 3 := (me_f (c := 7680) hF hS0 rfl rfl).trans c2
    have e61 : ∀ i, mi_a h 61 i = mi_a h0 61 i := fun i => me_a (k := 61) hF hS0 rfl rfl
    have e68 : ∀ i, mi_a h 68 i = mi_a h0 68 i := fun i => me_a (k := 68) hF hS0 rfl rfl
    have e70 : ∀ i, mi_a h 70 i = mi_a h0 70 i := fun i => me_a (k := 70) hF hS0 rfl rfl
    refine mt_nuB hS ou oq ?_ ?_ ?_ ?_ ?_ ?_
    · intro b k1 h1 g1 g2
      have e0 := me_nil g2
      subst e0
      refine ⟨rfl, hS, hF, fun q => ?_, hb⟩
      obtain ⟨y1, y2⟩ := hg q
      refine ⟨y1, fun u hu h9 => y2 u (by omega) hu h9, h0, hS0, hq, hF, fun u hu => ?_⟩
      rw [h69 u hu]
      by_cases c9 : g 119 u = 9
      · rw [if_pos ⟨c9, by omega⟩, if_pos ⟨c9, hu⟩]
      · rw [if_neg (fun q => c9 q.1), if_neg (fun q => c9 q.1)]
    · intro b b2 k1 k2 h1 g1 g2
      have e0 := me_nil g2
      subst e0
      exact ⟨rfl, hS, hF, fun q => absurd q k2, hb⟩
    · intro b b2 k1 k2 k3; exfalso; omega
    · intro b b2 k1 k2 k3 k4; exfalso; omega
    · intro b b2 k1 k2 k3 k4 k5
      have ut : (zu.toNat : Int) = zu := Int.toNat_of_nonneg z0
      have n9 : g 119 zu.toNat ≠ 9 := by rw [← (d7 zu.toNat (by omega)).1, ← e68]; exact k5
      refine ⟨⟨⟨z0, k4⟩, by omega, by omega⟩, fun h1 g1 g2 => ?_⟩
      have e0 := me_nil g2
      subst e0
      refine ih (zu + 1) q2 h1 (by omega) (by omega) (by omega) oq hS hF (fun u hu => ?_) (fun q => ⟨(hg q).1, fun j hj hj0 h9 => ?_⟩) hb
      · rw [h69 u hu]
        by_cases c9 : g 119 u = 9
        · have : u ≠ zu.toNat := fun q => n9 (by rw [← q]; exact c9)
          by_cases cl : (u : Int) < zu
          · rw [if_pos ⟨c9, cl⟩, if_pos ⟨c9, by omega⟩]
          · rw [if_neg (fun q => cl q.2), if_neg (fun q => by have := q.2; omega)]
        · rw [if_neg (fun q => c9 q.1), if_neg (fun q => c9 q.1)]
      · have : j ≠ zu.toNat := fun q => n9 (by rw [← q]; exact h9)
        exact (hg q).2 j (by omega) hj0 h9
    · intro b b2 k1 k2 k3 k4 k5
      have ut : (zu.toNat : Int) = zu := Int.toNat_of_nonneg z0
      have uu : (zu.toNat : Int) < g 0 0 := by omega
      have n9 : g 119 zu.toNat = 9 := by rw [← (d7 zu.toNat (by omega)).1, ← e68]; exact k5
      refine ⟨⟨z0, k4⟩, fun h1 g1 g2 => ?_⟩
      have e0 := me_nil g2
      subst e0
      obtain ⟨w, hw⟩ : ∃ w, w = g 120 zu.toNat := ⟨_, rfl⟩
      have w01 := (d9 zu.toNat uu).2 n9
      have ev : mi_a h1 69 zu.toNat = w + 65 := by
        rw [h69 _ uu, if_neg (fun q => by have := q.2; omega), (d7 _ uu).2.1]
        unfold cq_v
        rw [if_pos n9, hw]
      rw [← hw] at w01
      refine ⟨_, me_gruleNamed (d := d) (zl := mi_a h1 69 zu.toNat) hS ⟨by omega, by omega⟩ (by omega), fun w' h2 oww hq2 => ?_⟩
      obtain ⟨rfl, z, rfl, hz⟩ := hq2
      have oz : mi_in z := by rcases hz with ⟨x1, x2, -⟩ | ⟨x1, -⟩ <;> exact ⟨by omega, by omega⟩
      have hge := hg k2
      refine mt_nuC hS ou oz oq ?_ ?_ ?_ ?_ ?_ ?_
      · intro k6; exfalso; omega
      · intro k6; exfalso; omega
      · intro k6 k7; exfalso; omega
      · intro k6 k7; exfalso; omega
      · intro k6 k7 k8
        refine ⟨⟨⟨z0, k4⟩, by omega, by omega⟩, fun h3 s1 s2 s3 => ?_⟩
        have ez : g 115 w.toNat = z := by
          rcases hz with ⟨x1, x2, x3, -⟩ | ⟨x1, -⟩
          · obtain ⟨v', y1, y2, y3⟩ := d3 z.toNat (by omega)
            rw [e61, y2, ev] at x3
            have : v' = w.toNat := by omega
            rw [← this, y3]
            omega
          · exact absurd x1 k8
        have zp : 0 ≤ z := by
          rcases hz with ⟨x1, -⟩ | ⟨x1, -⟩
          · exact x1
          · exact absurd x1 k8
        have f3 : mi_f h3 9730 = 0 := (me_f (c := 9730) s3 hS rfl rfl).trans k2
        refine ih (zu + 1) _ h3 (by omega) (by omega) (by omega) (me_oi oz) s1 (hF.trans (s3.wide (fun c hc => ab_swr_ok (by decide) hc))) (fun u hu => ?_) (fun q => ⟨(me_f (c := 9731) s3 hS rfl rfl).trans hge.1, fun j hj hj0 h9 => ?_⟩) (fun q => absurd f3 q)
        · rw [s2 u]
          by_cases cu : u = zu.toNat
          · rw [if_pos cu, cu, if_pos ⟨n9, by omega⟩, ← hw, ez]
          · rw [if_neg cu, h69 u hu]
            by_cases c9 : g 119 u = 9
            · by_cases cl : (u : Int) < zu
              · rw [if_pos ⟨c9, cl⟩, if_pos ⟨c9, by omega⟩]
              · rw [if_neg (fun q => cl q.2), if_neg (fun q => by have := q.2; omega)]
            · rw [if_neg (fun q => c9 q.1), if_neg (fun q => c9 q.1)]
        · by_cases cj : j = zu.toNat
          · rw [cj, ← hw, ez]
            exact zp
          · exact hge.2 j (by omega) hj0 h9
      · intro k6 k7 k8
        refine ⟨⟨⟨z0, k4⟩, by omega, by omega⟩, fun h3 s1 s2 s3 s4 s5 => ?_⟩
        have nn : g 115 w.toNat < 0 := by
          rcases hz with ⟨x1, -⟩ | ⟨-, x2⟩
          · omega
          · refine Int.not_le.mp (fun q => ?_)
            have k := d2 w.toNat (by omega) q
            refine x2 (g 115 w.toNat).toNat (by omega) ?_
            rw [e61, k.2, ev]
            omega
        have e70' : mi_f h3 9731 = g 121 zu.toNat := by rw [s3, e70]; exact (d7 _ uu).2.2.1
        have RN : rz_N g (kF h3) ∧ kb h3 := by
          refine ⟨⟨zu.toNat, uu, n9, by rw [← hw]; exact nn, fun j hj h9 => hge.2 j (by omega) (by omega) h9, ?_⟩, ?_⟩
          · unfold kF
            rw [s2, e70']
          · have := hpl _ uu
            exact ⟨by omega, by omega, by omega⟩
        have n3 : mi_f h3 9730 ≠ 0 := by omega
        /- the loop ends at once -/
        refine mt_nuB s1 ⟨by omega, by omega⟩ (me_oi oz) ?_ ?_ (fun _ _ _ q => absurd q n3) (fun _ _ _ q => absurd q n3) (fun _ _ _ q => absurd q n3) (fun _ _ _ q => absurd q n3)
        · intro _ _ h4 g1 g2
          have e0 := me_nil g2
          subst e0
          exact ⟨rfl, s1, hF.trans (s5.wide (fun c hc => ab_swr_ok (by decide) hc)), fun q => absurd q n3, fun _ => RN⟩
        · intro _ _ _ _ h4 g1 g2
          have e0 := me_nil g2
          subst e0
          exact ⟨rfl, s1, hF.trans (s5.wide (fun c hc => ab_swr_ok (by decide) hc)), fun q => absurd q n3, fun _ => RN⟩
theorem me_nameUses {d : Nat} {n : Int} (n1 : n ≤ 240) (hV : PV n g) (hS0 : ab_Sh sx_sk h0) (hP : PR ow g) (hq : CQ f ow g h0) (hf : mi_f h0 9730 = 0) (hf1 : mi_f h0 9731 = 0) : me_E (d + 2) 64 0 [some (.inr (.inr 76)), none, none] [] h0 (nu_Q f ow g h0) := by
  refine mt_nuA hS0 (fun h1 g1 g2 => ?_)
  have e0 := me_nil g2
  subst e0
  exact nu_loop hS0 hP hq (fun u hu => by have := (hV.2.2 u hu).1; omega) 61 0 none h1 (by decide) (by decide) (by decide) me_on hS0 ab_Fr.refl (fun u hu => by rw [if_neg (fun q => by have := q.2; omega)]) (fun _ => ⟨hf1, fun j hj => by omega⟩) (fun q => absurd hf q)
end KNU
/-! the class's read -/
def cr_Q (n : Int) (c : Nat → Int) (g0 : wk_g) (h0 : sm_H) (w : Option mi_V) (h' : sm_H) : Prop := w = some (.inl (kF h')) ∧ ab_Sh sx_sk h' ∧ ab_Fr cw_W h0 h' ∧
  (mi_f h' 9730 = 0 → mi_f h' 9731 = 0 ∧ ∃ f ow g, rz_D n c g0 g ∧ rz_U g ∧ PR ow g ∧ FI f g ∧ CU f ow g (g 0 0) h' ∧ PV n g ∧ g 0 1 ≤ g 0 0 ∧ PW g) ∧
  (mi_f h' 9730 ≠ 0 → rz_B n c g0 (kF h') ∧ kb h')
/-- between rules -/
def cr_H (n : Int) (c : Nat → Int) (g0 g : wk_g) (a : Int) (h : sm_H) : Prop := cr_S n c g a h ∧ ∃ k, ru_Tr n c k (g0, 0) (g, a)
section KRG
variable {n : Int} {c : Nat → Int} {g0 : wk_g} {h0 : sm_H}
theorem cr_end {d : Nat} {zn : Int} {q2 : Option mi_V} {h : sm_H} {Q : Option mi_V → sm_H → Prop} (on : mi_in zn) (oq : ∀ v, q2 = some v → mi_ok v) (hS : ab_Sh sx_sk h) (hb : (mi_f h 9730 = 0 ∧ mi_f h 9731 = 0) ∨ kb h) (hQ : Q (some (.inl (kF h))) h) : me_E (d + 32) 14 93 [some (.inr (.inr 76)), some (.inl zn), q2] [] h Q := by
  refine mt_rdJ hS on oq (fun b1 b2 => ⟨?_, fun h1 g1 g2 => ?_⟩)
  · rcases hb with ⟨x1, x2⟩ | ⟨⟨x1, x2⟩, x3, x4⟩
    · omega
    · omega
  · have e0 := me_nil g2
    subst e0
    exact hQ
theorem cr_tailB {d : Nat} {zn : Int} {q2 : Option mi_V} {h : sm_H} (on : mi_in zn) (oq : ∀ v, q2 = some v → mi_ok v) (hS : ab_Sh sx_sk h) (hF : ab_Fr cw_W h0 h) (hf : mi_f h 9730 ≠ 0) (hR : rz_R n c g0 (kF h)) (hb : kb h) : me_E (d + 32) 14 82 [some (.inr (.inr 76)), some (.inl zn), q2] [] h (cr_Q n c g0 h0) := by
  refine mt_rdI hS on oq ?_ (fun _ q => absurd q hf)
  intro b q h1 g1 g2
  have e0 := me_nil g2
  subst e0
  exact cr_end on oq hS (Or.inr hb) ⟨rfl, hS, hF, fun q => absurd q hf, fun _ => ⟨Or.inl hR, hb⟩⟩
theorem cr_tailE {d : Nat} {zn a : Int} {q2 : Option mi_V} {h : sm_H} {g : wk_g} (h0V : PV n g0) (h0W : PW g0) (n0 : 0 ≤ n) (on : mi_in zn) (oq : ∀ v, q2 = some v → mi_ok v) (hF : ab_Fr cw_W h0 h) (hf : mi_f h 9730 = 0) (hH : cr_H n c g0 g a h) (hE : rz_E n c (g, a)) : me_E (d + 32) 14 82 [some (.inr (.inr 76)), some (.inl zn), q2] [] h (cr_Q n c g0 h0) := by
  obtain ⟨⟨hx, f, ow, t, v, e, y1, y2, y3, y4, y5, y6⟩, k, hk⟩ := hH
  have hV := (PV_ruTr k _ (show (0 : Int) ≤ 0 ∧ (0 : Int) ≤ n from ⟨by decide, n0⟩) h0V hk).2
  refine mt_rdI hx.1 on oq (fun _ q => absurd hf q) ?_
  intro b q h1 g1 g2
  have e0 := me_nil g2
  subst e0
  have n240 := (CT_p hx y5 y6.2).2.2.2
  refine ⟨_, me_nameUses (d := d + 29) n240 hV hx.1 y1 y3 hf hx.2.2.2.2, fun w h2 oww hq => ?_⟩
  obtain ⟨rfl, s1, s2, s3, s4⟩ := hq
  have F2 : ab_Fr cw_W h0 h2 := hF.trans (s2.wide (fun c hc => ab_swr_ok (by decide) hc))
  by_cases cf : mi_f h2 9730 = 0
  · obtain ⟨u1, u2, u3⟩ := s3 cf
    exact cr_end on oq s1 (Or.inl ⟨cf, u1⟩) ⟨rfl, s1, F2, fun _ => ⟨u1, f, ow, g, ⟨k, a, hk, hE⟩, u2, y1, y2, u3, hV, y4, PW_ruTr k _ h0W hk⟩, fun q => absurd cf q⟩
  · obtain ⟨u1, u2⟩ := s4 cf
    exact cr_end on oq s1 (Or.inr u2) ⟨rfl, s1, F2, fun q => absurd q cf, fun _ => ⟨Or.inr ⟨g, ⟨k, a, hk, hE⟩, u1⟩, u2⟩⟩
theorem cr_loop {d : Nat} (h0S : PSr g0) (h0V : PV n g0) (h0W : PW g0) (n0 : 0 ≤ n) : ∀ (N : Nat) (zn : Int) (q2 : Option mi_V) (h : sm_H), 11 - zn < N → 0 ≤ zn → zn ≤ 11 → (∀ v, q2 = some v → mi_ok v) → ab_Sh sx_sk h → ab_Fr cw_W h0 h → (mi_f h 9730 ≠ 0 → rz_R n c g0 (kF h) ∧ kb h) → (mi_f h 9730 = 0 → ∃ g a, cr_H n c g0 g a h ∧ g 0 3 = zn) → me_E (d + 32) 14 26 [some (.inr (.inr 76)), some (.inl zn), q2] [] h (cr_Q n c g0 h0) := by
  intro N
  induction N with
  | zero => intro zn q2 h hN z0 z1; exfalso; omega
  | succ N ih =>
    intro zn q2 h hN z0 z1 oq hS hF hB hG
    have on : mi_in zn := ⟨by omega, by omega⟩
    have turn : mi_f h 9730 = 0 → zn ≤ 10 → (zn = 0 ∨ mi_f h 9859 ≠ 0) → ∃ Q1, me_E (d + 31) 46 0 (mi_entry 2 [.inr (.inr 76)]) [] h Q1 ∧ ∀ w h2, (∀ v, w = some v → mi_ok v) → Q1 w h2 → me_E (d + 32) 14 57 [some (.inr (.inr 76)), some (.inl zn), q2] (mi_back w []) h2 (cr_Q n c g0 h0) := by
      intro hf z2 z3
      obtain ⟨g, a, ⟨⟨hx, f, ow, t, v, e, y1, y2, y3, y4, y5, y6⟩, k, hk⟩, eg⟩ := hG hf
      have hps : PSr g := PS_ruTr k (g0, 0) h0S hk
      refine ⟨_, me_beginRule (d := d + 20) hx y5 y6.2 hf y1 y2 y3 hps, fun w h2 oww hq => ?_⟩
      obtain ⟨s1, s2, zf, ez, ozf, -⟩ := id hq
      subst ez
      have i0 := (cs_i y5.1).2.2.2.2.2.2.1
      refine cr_step on oq hq y1 hps y4 y5 y6.1 (fun q => ?_) (fun h' zf' oz' u1 u2 u3 u4 => ?_)
      · have := i0.mpr q.1
        have := y5.2.1
        omega
      · refine mt_rdH u1 on oz' ⟨⟨by omega, by omega⟩, fun h3 g1 g2 => ?_⟩
        have e0 := me_nil g2
        subst e0
        refine ih (zn + 1) _ h3 (by omega) (by omega) (by omega) (me_oi oz') u1 ((hF.trans s2).trans u2) (fun q => ?_) (fun q => ?_)
        · obtain ⟨w1, w2⟩ := u3 q
          exact ⟨⟨k, _, hk, w1⟩, w2⟩
        · obtain ⟨g', a', w1, w2, w3⟩ := u4 q
          exact ⟨g', a', ⟨w2, k + 1, ru_snoc k _ hk w1⟩, by omega⟩
    refine mt_rdD hS on oq ?_ ?_ ?_ ?_ ?_
    · intro k1 h1 g1 g2
      have e0 := me_nil g2
      subst e0
      by_cases cf : mi_f h1 9730 = 0
      · obtain ⟨g, a, ⟨⟨hx, f, ow, t, v, e, y1, -⟩, -⟩, eg⟩ := hG cf
        have := y1.1.2.2.1
        exfalso
        omega
      · obtain ⟨w1, w2⟩ := hB cf
        exact cr_tailB on oq hS hF cf w1 w2
    · intro b k1 k2 h1 g1 g2
      have e0 := me_nil g2
      subst e0
      obtain ⟨w1, w2⟩ := hB k2
      exact cr_tailB on oq hS hF k2 w1 w2
    · intro b k1 k2 k3 h1 g1 g2
      have e0 := me_nil g2
      subst e0
      exact turn k2 k1 (Or.inl k3)
    · intro b b2 k1 k2 k3 k4 h1 g1 g2
      have e0 := me_nil g2
      subst e0
      obtain ⟨g, a, hH, eg⟩ := hG k2
      obtain ⟨⟨hx, f, ow, t, v, e, y1, y2, y3, y4, y5, y6⟩, k, hk⟩ := id hH
      have i0 := (cs_i y5.1).2.2.2.2.2.2.1
      have t0 : t = 0 := i0.mp (by have := y5.2.1; omega)
      have y5 := y5.1
      rw [t0] at y5
      exact cr_tailE h0V h0W n0 on oq hF k2 hH ⟨⟨_, _, _, y5⟩, by show g 0 3 ≠ 0; omega⟩
    · intro b b2 k1 k2 k3 k4 h1 g1 g2
      have e0 := me_nil g2
      subst e0
      exact turn k2 k1 (Or.inr k4)
theorem me_rewind {d : Nat} {h : sm_H} (hx : CX n c h) : me_E (d + 11) 17 0 [some (.inr (.inr 77))] [] h (fun w h' => w = none ∧ CX n c h' ∧ ab_Fr ca_W h h' ∧ ∃ t v e, CT n c h' 0 t v e) := by
  refine mt_rzA hx.1 (fun h1 s1 s2 s3 => ?_)
  have x1 := CX_fr hx s1 s3 (by decide)
  have b := me_fb (c := 6657) s1 rfl
  refine ⟨_, me_advance (d := d) s1 x1.2.2.2.1 (by rw [s2]; exact b.1), fun w h2 oww hq => ?_⟩
  obtain ⟨rfl, u1, u2, t', v', e', q4, q5, q6⟩ := hq
  rw [x1.2.1, x1.2.2.1, s2] at q4
  refine mt_rzB u1 (fun h3 g1 g2 => ?_)
  have e0 := me_nil g2
  subst e0
  exact ⟨rfl, CX_fr x1 u1 u2 (by decide), (s3.wide (fun c hc => ab_swr_ok (by decide) hc)).trans u2, t', v', e', q4, q5, q6⟩
/-- the class reads the description as the reference does -/
theorem me_readc {d : Nat} (hS : ab_Sh sx_sk h0) (hx : cx_ok h0) (hz : rz_0 g0) (en : mi_f h0 6657 = n) (ec : mi_a h0 53 = c) : me_E (d + 32) 14 0 [some (.inr (.inr 76)), none, none] [] h0 (cr_Q n c g0 h0) := by
  have b := me_fb (c := 6657) hS rfl
  refine mt_rdA hS (fun h1 g1 g2 => ?_)
  have e0 := me_nil g2
  subst e0
  refine ⟨_, me_gdrop (d := d + 30) hS, fun w h2 oww hq => ?_⟩
  obtain ⟨rfl, s1, s2, ⟨v1, v2, v3, v4, v5⟩, s4⟩ := hq
  refine mt_rdB s1 (fun h3 u1 u2 u3 u4 => ?_)
  have F3 : ab_Fr cw_W h1 h3 := (s2.wide (fun c hc => ab_swr_ok (by decide) hc)).trans (u4.wide (fun c hc => ab_swr_ok (by decide) hc))
  have e57 : mi_f h3 6657 = mi_f h1 6657 := me_f (c := 6657) F3 hS rfl rfl
  have e53 : ∀ i, mi_a h3 53 i = mi_a h1 53 i := fun i => me_a (k := 53) F3 hS rfl rfl
  have x3 : CX n c h3 := by
    refine ⟨u1, e57.trans en, (funext e53).trans ec, fun i hi => ?_, u3⟩
    rw [e57] at hi
    rw [e53]
    exact hx i hi
  have Q3 : CQ (fun x => 10 + x) id g0 h3 := by
    obtain ⟨⟨z0, z1, z2, z3, z4⟩, z5⟩ := id hz
    have e63 : ∀ i, mi_a h3 63 i = mi_a h2 63 i := fun i => me_a (k := 63) u4 s1 rfl rfl
    have e64 : ∀ i, mi_a h3 64 i = mi_a h2 64 i := fun i => me_a (k := 64) u4 s1 rfl rfl
    refine ⟨⟨?_, ?_, ?_, ?_, ?_⟩, fun r hr => by omega, fun v hv hv0 => by have := z5 v hv; omega, fun r hr => by omega, fun x hx => by omega, fun j hj _ => by rw [e63, e64]; exact s4 j hj, fun a ha => by omega, fun u hu => by omega, fun l hl => by omega, fun u hu => by omega, fun u hu => by omega⟩
    · rw [me_f (c := 7690) u4 s1 rfl rfl]; omega
    · rw [me_f (c := 7686) u4 s1 rfl rfl]; omega
    · rw [me_f (c := 7680) u4 s1 rfl rfl]; omega
    · rw [me_f (c := 7698) u4 s1 rfl rfl]; omega
    · rw [me_f (c := 7685) u4 s1 rfl rfl]; omega
  have I3 : FI (fun x => 10 + x) g0 := by
    obtain ⟨⟨z0, z1, z2, z3, z4⟩, z5⟩ := id hz
    exact ⟨fun r hr => by omega, fun x hx => by show 10 + x = _; omega, fun x y x0 x1 y0 y1 => by omega, fun x x0 x1 => by omega⟩
  have P3 : PR id g0 := by
    obtain ⟨⟨z0, z1, z2, z3, z4⟩, z5⟩ := id hz
    exact ⟨⟨by omega, by omega, by omega, by omega, by omega⟩, fun v hv => by omega, fun a ha => by omega, fun f hf => by omega⟩
  refine ⟨_, me_rewind (d := d + 20) x3, fun w h4 oww hq => ?_⟩
  obtain ⟨rfl, x4, F4, t, v, e, ht⟩ := hq
  have f4 : mi_f h4 9730 = 0 := (me_f (c := 9730) F4 u1 rfl rfl).trans u2
  refine mt_rdC x4.1 (fun h5 g1 g2 => ?_)
  have e0 := me_nil g2
  subst e0
  exact cr_loop (Or.inl hz.1.1) (PV_0 hz) (PW_0 hz) (by omega) 12 0 none h5 (by decide) (by decide) (by decide) me_on x4.1 (F3.trans (F4.wide (fun c hc => ab_swr_ok (by decide) hc))) (fun q => absurd f4 q) (fun _ => ⟨g0, 0, ⟨⟨x4, _, _, t, v, e, P3, I3, CQ_fr Q3 u1 F4 (by decide), by have := hz.1; omega, ht, ⟨by decide, by omega⟩⟩, 0, rfl⟩, hz.1.2.2.2.1⟩)
end KRG
/-! sets purely: void, starts, height of forms; a form is a list of alternatives, an alternative a list of parts -/
/-- a part: its form or -1, 1 if it is a use, how it is repeated, and where it has no form whether it is void, its starts -/
abbrev sp_P : Type := Int × Int × Int × Int × Int64
abbrev sp_X : Type := (Nat → Int) × (Nat → Int64) × (Nat → Int)
def sp_v (X : sp_X) (p : sp_P) : Int := if 0 ≤ p.1 then X.1 p.1.toNat else p.2.2.2.1
def sp_s (X : sp_X) (p : sp_P) : Int64 := if 0 ≤ p.1 then X.2.1 p.1.toNat else p.2.2.2.2
def sp_h (X : sp_X) (p : sp_P) : Int := if p.2.2.1 ≠ 0 then 0 else if 0 ≤ p.1 then X.2.2 p.1.toNat + p.2.1 else 0
abbrev sp_e (X : sp_X) (p : sp_P) : Prop := p.2.2.1 ≠ 0 ∨ sp_v X p ≠ 0
def sa_v (X : sp_X) : List sp_P → Int
  | [] => 1
  | p :: r => if sp_e X p then sa_v X r else 0
def sa_s (X : sp_X) : List sp_P → Int64
  | [] => 0
  | p :: r => if sp_e X p then sp_s X p ||| sa_s X r else sp_s X p
def sa_h (X : sp_X) : List sp_P → Int
  | [] => 0
  | p :: r => max (sp_h X p) (sa_h X r)
def sf_v (X : sp_X) : List (List sp_P) → Int
  | [] => 0
  | a :: r => if sa_v X a ≠ 0 then 1 else sf_v X r
def sf_s (X : sp_X) : List (List sp_P) → Int64
  | [] => 0
  | a :: r => sa_s X a ||| sf_s X r
def sf_h (X : sp_X) : List (List sp_P) → Int
  | [] => 1000
  | a :: r => min (min 1000 (sa_h X a)) (sf_h X r)
/-- a bit -/
def tb (x : Int64) (b : Nat) : Bool := x.toBitVec.getLsbD b
theorem tb_or (x y : Int64) (b : Nat) : tb (x ||| y) b = (tb x b || tb y b) := by
  unfold tb
  rw [Int64.toBitVec_or, BitVec.getLsbD_or]
theorem tb_0 (b : Nat) : tb 0 b = false := by
  unfold tb
  rw [show (0 : Int64).toBitVec = 0#64 from rfl]
  exact BitVec.getLsbD_zero
theorem tb_ext {x y : Int64} (h : ∀ b, tb x b = tb y b) : x = y := by
  have e : x.toBitVec = y.toBitVec := BitVec.eq_of_getLsbD_eq (fun b _ => h b)
  exact Int64.toBitVec_inj.mp e
/-- all forms named are there -/
def sg_ok (n : Nat) (us : List sp_P) : Prop := ∀ p ∈ us, p.1 < n
section SPP
variable {n : Nat} {X Y : sp_X}
/- void -/
def sE_v (n : Nat) (X Y : sp_X) : Prop := ∀ F : Nat, F < n → (X.1 F ≠ 0 ↔ Y.1 F ≠ 0)
theorem sE_e {p : sp_P} (h : sE_v n X Y) (hp : p.1 < n) : sp_e X p ↔ sp_e Y p := by
  unfold sp_e sp_v
  by_cases c : 0 ≤ p.1
  · rw [if_pos c, if_pos c, h _ (by omega)]
  · rw [if_neg c, if_neg c]
theorem sE_av (h : sE_v n X Y) : ∀ us, sg_ok n us → sa_v X us = sa_v Y us := by
  intro us
  induction us with
  | nil => intro _; rfl
  | cons p r ih =>
    intro ho
    have e := sE_e h (ho p (List.mem_cons_self))
    have i := ih (fun q hq => ho q (List.mem_cons_of_mem _ hq))
    unfold sa_v
    by_cases c : sp_e X p
    · rw [if_pos c, if_pos (e.mp c), i]
    · rw [if_neg c, if_neg (fun q => c (e.mpr q))]
theorem sE_fv (h : sE_v n X Y) : ∀ as, (∀ us ∈ as, sg_ok n us) → sf_v X as = sf_v Y as := by
  intro as
  induction as with
  | nil => intro _; rfl
  | cons a r ih =>
    intro ho
    have e := sE_av h a (ho a (List.mem_cons_self))
    have i := ih (fun q hq => ho q (List.mem_cons_of_mem _ hq))
    unfold sf_v
    rw [e, i]
/- a bit of the starts -/
def sE_s (n b : Nat) (X Y : sp_X) : Prop := sE_v n X Y ∧ ∀ F : Nat, F < n → tb (X.2.1 F) b = tb (Y.2.1 F) b
theorem sE_ps {b : Nat} {p : sp_P} (h : sE_s n b X Y) (hp : p.1 < n) : tb (sp_s X p) b = tb (sp_s Y p) b := by
  unfold sp_s
  by_cases c : 0 ≤ p.1
  · rw [if_pos c, if_pos c]; exact h.2 _ (by omega)
  · rw [if_neg c, if_neg c]
theorem sE_as {b : Nat} (h : sE_s n b X Y) : ∀ us, sg_ok n us → tb (sa_s X us) b = tb (sa_s Y us) b := by
  intro us
  induction us with
  | nil => intro _; rfl
  | cons p r ih =>
    intro ho
    have e := sE_e h.1 (ho p (List.mem_cons_self))
    have e2 := sE_ps h (ho p (List.mem_cons_self))
    have i := ih (fun q hq => ho q (List.mem_cons_of_mem _ hq))
    unfold sa_s
    by_cases c : sp_e X p
    · rw [if_pos c, if_pos (e.mp c), tb_or, tb_or, i, e2]
    · rw [if_neg c, if_neg (fun q => c (e.mpr q)), e2]
theorem sE_fs {b : Nat} (h : sE_s n b X Y) : ∀ as, (∀ us ∈ as, sg_ok n us) → tb (sf_s X as) b = tb (sf_s Y as) b := by
  intro as
  induction as with
  | nil => intro _; rfl
  | cons a r ih =>
    intro ho
    have e := sE_as h a (ho a (List.mem_cons_self))
    have i := ih (fun q hq => ho q (List.mem_cons_of_mem _ hq))
    unfold sf_s
    rw [tb_or, tb_or, e, i]
/- heights below s -/
def sE_h (n : Nat) (s : Int) (X Y : sp_X) : Prop := ∀ F : Nat, F < n → min (X.2.2 F) s = min (Y.2.2 F) s
def sg_us (us : List sp_P) : Prop := ∀ p ∈ us, 0 ≤ p.2.1
theorem sE_ph {s : Int} {p : sp_P} (h : sE_h n s X Y) (hp : p.1 < n) (hu : 0 ≤ p.2.1) : min (sp_h X p) s = min (sp_h Y p) s := by
  unfold sp_h
  by_cases c1 : p.2.2.1 ≠ 0
  · rw [if_pos c1, if_pos c1]
  · rw [if_neg c1, if_neg c1]
    by_cases c : 0 ≤ p.1
    · rw [if_pos c, if_pos c]
      have := h p.1.toNat (by omega)
      omega
    · rw [if_neg c, if_neg c]
theorem sE_ah {s : Int} (h : sE_h n s X Y) : ∀ us, sg_ok n us → sg_us us → min (sa_h X us) s = min (sa_h Y us) s := by
  intro us
  induction us with
  | nil => intro _ _; rfl
  | cons p r ih =>
    intro ho hu
    have e := sE_ph h (ho p (List.mem_cons_self)) (hu p (List.mem_cons_self))
    have i := ih (fun q hq => ho q (List.mem_cons_of_mem _ hq)) (fun q hq => hu q (List.mem_cons_of_mem _ hq))
    unfold sa_h
    omega
theorem sE_fh {s : Int} (h : sE_h n s X Y) : ∀ as, (∀ us ∈ as, sg_ok n us ∧ sg_us us) → min (sf_h X as) s = min (sf_h Y as) s := by
  intro as
  induction as with
  | nil => intro _; rfl
  | cons a r ih =>
    intro ho
    have e := sE_ah h a (ho a (List.mem_cons_self)).1 (ho a (List.mem_cons_self)).2
    have i := ih (fun q hq => ho q (List.mem_cons_of_mem _ hq))
    unfold sf_h
    omega
/- order -/
def sp_le (n : Nat) (X Y : sp_X) : Prop := ∀ F : Nat, F < n → (X.1 F ≠ 0 → Y.1 F ≠ 0) ∧ (∀ b, tb (X.2.1 F) b = true → tb (Y.2.1 F) b = true) ∧ Y.2.2 F ≤ X.2.2 F
theorem sp_le_refl : sp_le n X X := fun _ _ => ⟨id, fun _ => id, Int.le_refl _⟩
theorem sp_le_tr {Z : sp_X} (h : sp_le n X Y) (h' : sp_le n Y Z) : sp_le n X Z := fun F hF => ⟨fun q => (h' F hF).1 ((h F hF).1 q), fun b q => (h' F hF).2.1 b ((h F hF).2.1 b q), Int.le_trans (h' F hF).2.2 (h F hF).2.2⟩
theorem sm_e {p : sp_P} (h : sp_le n X Y) (hp : p.1 < n) (c : sp_e X p) : sp_e Y p := by
  unfold sp_e sp_v at *
  by_cases c0 : 0 ≤ p.1
  · rw [if_pos c0] at *
    rcases c with c | c
    · exact Or.inl c
    · exact Or.inr ((h _ (by omega)).1 c)
  · rw [if_neg c0] at *
    exact c
theorem sa_v_01 (X : sp_X) : ∀ us, sa_v X us = 0 ∨ sa_v X us = 1 := by
  intro us
  induction us with
  | nil => exact Or.inr rfl
  | cons p r ih => 
    unfold sa_v
    split
    · exact ih
    · exact Or.inl rfl
theorem sf_v_01 (X : sp_X) : ∀ as, sf_v X as = 0 ∨ sf_v X as = 1 := by
  intro as
  induction as with
  | nil => exact Or.inl rfl
  | cons p r ih => 
    unfold sf_v
    split
    · exact Or.inr rfl
    · exact ih
theorem sf_h_1000 (X : sp_X) : ∀ as, sf_h X as ≤ 1000 := by
  intro as
  cases as with
  | nil => exact Int.le_refl _
  | cons p r => unfold sf_h; omega
theorem sm_av (h : sp_le n X Y) : ∀ us, sg_ok n us → sa_v X us ≠ 0 → sa_v Y us ≠ 0 := by
  intro us
  induction us with
  | nil => intro _ q; exact q
  | cons p r ih =>
    intro ho
    have i := ih (fun q hq => ho q (List.mem_cons_of_mem _ hq))
    unfold sa_v
    by_cases c : sp_e X p
    · rw [if_pos c, if_pos (sm_e h (ho p (List.mem_cons_self)) c)]
      exact i
    · rw [if_neg c]
      exact fun q => absurd rfl q
theorem sm_fv (h : sp_le n X Y) : ∀ as, (∀ us ∈ as, sg_ok n us) → sf_v X as ≠ 0 → sf_v Y as ≠ 0 := by
  intro as
  induction as with
  | nil => intro _ q; exact q
  | cons a r ih =>
    intro ho
    have e := sm_av h a (ho a (List.mem_cons_self))
    have i := ih (fun q hq => ho q (List.mem_cons_of_mem _ hq))
    unfold sf_v
    by_cases c : sa_v X a ≠ 0
    · rw [if_pos c, if_pos (e c)]
      exact id
    · rw [if_neg c]
      by_cases c2 : sa_v Y a ≠ 0
      · rw [if_pos c2]
        exact fun _ => by decide
      · rw [if_neg c2]
        exact i
theorem sm_ps {b : Nat} {p : sp_P} (h : sp_le n X Y) (hp : p.1 < n) (c : tb (sp_s X p) b = true) : tb (sp_s Y p) b = true := by
  unfold sp_s at *
  by_cases c0 : 0 ≤ p.1
  · rw [if_pos c0] at *; exact (h _ (by omega)).2.1 b c
  · rw [if_neg c0] at *; exact c
theorem sm_as {b : Nat} (h : sp_le n X Y) : ∀ us, sg_ok n us → tb (sa_s X us) b = true → tb (sa_s Y us) b = true := by
  intro us
  induction us with
  | nil => intro _ q; exact q
  | cons p r ih =>
    intro ho
    have hp := ho p (List.mem_cons_self)
    have i := ih (fun q hq => ho q (List.mem_cons_of_mem _ hq))
    unfold sa_s
    by_cases c : sp_e X p
    · rw [if_pos c, if_pos (sm_e h hp c), tb_or, tb_or, Bool.or_eq_true, Bool.or_eq_true]
      rintro (q | q)
      · exact Or.inl (sm_ps h hp q)
      · exact Or.inr (i q)
    · rw [if_neg c]
      intro q
      have := sm_ps h hp q
      split
      · rw [tb_or, this]; rfl
      · exact this
theorem sm_fs {b : Nat} (h : sp_le n X Y) : ∀ as, (∀ us ∈ as, sg_ok n us) → tb (sf_s X as) b = true → tb (sf_s Y as) b = true := by
  intro as
  induction as with
  | nil => intro _ q; exact q
  | cons a r ih =>
    intro ho
    have e := sm_as (b := b) h a (ho a (List.mem_cons_self))
    have i := ih (fun q hq => ho q (List.mem_cons_of_mem _ hq))
    unfold sf_s
    rw [tb_or, tb_or, Bool.or_eq_true, Bool.or_eq_true]
    rintro (q | q)
    · exact Or.inl (e q)
    · exact Or.inr (i q)
theorem sm_ph {p : sp_P} (h : sp_le n X Y) (hp : p.1 < n) : sp_h Y p ≤ sp_h X p := by
  unfold sp_h
  split
  · exact Int.le_refl _
  · split
    · have := (h p.1.toNat (by omega)).2.2
      omega
    · exact Int.le_refl _
theorem sm_ah (h : sp_le n X Y) : ∀ us, sg_ok n us → sa_h Y us ≤ sa_h X us := by
  intro us
  induction us with
  | nil => intro _; exact Int.le_refl _
  | cons p r ih =>
    intro ho
    have e := sm_ph h (ho p (List.mem_cons_self))
    have i := ih (fun q hq => ho q (List.mem_cons_of_mem _ hq))
    unfold sa_h
    omega
theorem sm_fh (h : sp_le n X Y) : ∀ as, (∀ us ∈ as, sg_ok n us) → sf_h Y as ≤ sf_h X as := by
  intro as
  induction as with
  | nil => intro _; exact Int.le_refl _
  | cons a r ih =>
    intro ho
    have e := sm_ah h a (ho a (List.mem_cons_self))
    have i := ih (fun q hq => ho q (List.mem_cons_of_mem _ hq))
    unfold sf_h
    omega
end SPP
/-! chains: after n turns nothing changes any more -/
theorem nd_len : ∀ (n : Nat) (L : List Nat), L.Nodup → (∀ x ∈ L, x < n) → L.length ≤ n := by
  intro n
  induction n with
  | zero =>
    intro L _ h
    cases L with
    | nil => exact Nat.le_refl _
    | cons x r => exact absurd (h x (List.mem_cons_self)) (Nat.not_lt_zero _)
  | succ n ih =>
    intro L hn h
    by_cases c : n ∈ L
    · have k := ih (L.erase n) (hn.erase n) (fun x hx => by
        have x1 := h x (List.mem_of_mem_erase hx)
        have x2 : x ≠ n := fun e => by
          rw [e] at hx
          exact (hn.not_mem_erase) hx
        omega)
      rw [List.length_erase_of_mem c] at k
      omega
    · have k := ih L hn (fun x hx => by
        have x1 := h x hx
        have x2 : x ≠ n := fun e => c (by rw [← e]; exact hx)
        omega)
      omega
theorem ch_chain {n k0 : Nat} {A : Nat → Nat → Int} (dec : ∀ k F, F < n → A (k + 1) F ≤ A k F) (pr : ∀ k s, k0 ≤ k → (∀ F, F < n → min (A (k + 1) F) s = min (A k F) s) → ∀ F, F < n → min (A (k + 2) F) s = min (A (k + 1) F) s) : ∀ (j F : Nat), F < n → A (k0 + j + 1) F < A (k0 + j) F → ∃ L : List Nat, L.Nodup ∧ L.length = j + 1 ∧ ∀ G ∈ L, G < n ∧ A (k0 + j + 1) G ≤ A (k0 + j + 1) F := by
  intro j
  induction j with
  | zero =>
    intro F hF h
    exact ⟨[F], List.nodup_cons.mpr ⟨List.not_mem_nil, List.nodup_nil⟩, rfl, fun G hG => by rw [List.mem_singleton.mp hG]; exact ⟨hF, Int.le_refl _⟩⟩
  | succ j ih =>
    intro F hF h
    obtain ⟨s, hs⟩ : ∃ s, s = A (k0 + (j + 1) + 1) F + 1 := ⟨_, rfl⟩
    have ex : ∃ G, G < n ∧ min (A (k0 + j + 1) G) s ≠ min (A (k0 + j) G) s := by
      refine Classical.byContradiction (fun q => ?_)
      have := pr (k0 + j) s (by omega) (fun G hG => Classical.byContradiction (fun q2 => q ⟨G, hG, q2⟩)) F hF
      have e1 : k0 + j + 2 = k0 + (j + 1) + 1 := by omega
      have e2 : k0 + j + 1 = k0 + (j + 1) := by omega
      rw [e1, e2] at this
      omega
    obtain ⟨G, hG, hne⟩ := ex
    have d := dec (k0 + j) G hG
    obtain ⟨L, l1, l2, l3⟩ := ih G hG (by omega)
    have e2 : k0 + j + 1 = k0 + (j + 1) := by omega
    rw [e2] at l3 d hne
    refine ⟨F :: L, List.nodup_cons.mpr ⟨fun q => ?_, l1⟩, by rw [List.length_cons, l2], fun G' hG' => ?_⟩
    · have := (l3 F q).2
      omega
    · rcases List.mem_cons.mp hG' with rfl | hm
      · exact ⟨hF, Int.le_refl _⟩
      · obtain ⟨m1, m2⟩ := l3 G' hm
        have := dec (k0 + (j + 1)) G' m1
        exact ⟨m1, by omega⟩
theorem ch_stop {n k0 : Nat} {A : Nat → Nat → Int} (dec : ∀ k F, F < n → A (k + 1) F ≤ A k F) (pr : ∀ k s, k0 ≤ k → (∀ F, F < n → min (A (k + 1) F) s = min (A k F) s) → ∀ F, F < n → min (A (k + 2) F) s = min (A (k + 1) F) s) {k F : Nat} (hk : k0 + n ≤ k) (hF : F < n) : A (k + 1) F = A k F := by
  refine Classical.byContradiction (fun q => ?_)
  have d := dec k F hF
  obtain ⟨j, rfl⟩ : ∃ j, k = k0 + j := ⟨k - k0, by omega⟩
  obtain ⟨L, l1, l2, l3⟩ := ch_chain dec pr j F hF (by omega)
  have := nd_len n L l1 (fun x hx => (l3 x hx).1)
  omega
/-! sets purely: turns, and where they end -/
abbrev sg_G : Type := Nat → List (List sp_P)
def sg_OK (n : Nat) (G : sg_G) : Prop := ∀ F : Nat, F < n → ∀ us ∈ G F, sg_ok n us ∧ sg_us us
/-- one form anew -/
def su (G : sg_G) (F : Nat) (X : sp_X) : sp_X := (fun i => if i = F then sf_v X (G F) else X.1 i, fun i => if i = F then sf_s X (G F) else X.2.1 i, fun i => if i = F then sf_h X (G F) else X.2.2 i)
/-- the forms below m anew, the last first -/
def sps (G : sg_G) : Nat → sp_X → sp_X
  | 0, X => X
  | m + 1, X => sps G m (su G m X)
/-- all forms at once -/
def sr (G : sg_G) (X : sp_X) : sp_X := (fun F => sf_v X (G F), fun F => sf_s X (G F), fun F => sf_h X (G F))
def sp_eq (n : Nat) (X Y : sp_X) : Prop := ∀ F : Nat, F < n → X.1 F = Y.1 F ∧ X.2.1 F = Y.2.1 F ∧ X.2.2 F = Y.2.2 F
def sp_01 (n : Nat) (X : sp_X) : Prop := ∀ F : Nat, F < n → X.1 F = 0 ∨ X.1 F = 1
def sp_fix (n : Nat) (G : sg_G) (X : sp_X) : Prop := ∀ F : Nat, F < n → sf_v X (G F) = X.1 F ∧ sf_s X (G F) = X.2.1 F ∧ sf_h X (G F) = X.2.2 F
/-- turns only add -/
def sp_up (n : Nat) (G : sg_G) (X : sp_X) : Prop := ∀ F : Nat, F < n → (X.1 F ≠ 0 → sf_v X (G F) ≠ 0) ∧ (∀ b, tb (X.2.1 F) b = true → tb (sf_s X (G F)) b = true) ∧ sf_h X (G F) ≤ X.2.2 F
section SFX
variable {n : Nat} {G : sg_G} {X Y Z : sp_X}
theorem sp_eq.le (h : sp_eq n X Y) : sp_le n X Y := fun F hF => by
  obtain ⟨a, b, c⟩ := h F hF
  rw [a, b, c]
  exact ⟨id, fun _ => id, Int.le_refl _⟩
theorem sp_eq.symm (h : sp_eq n X Y) : sp_eq n Y X := fun F hF => ⟨(h F hF).1.symm, (h F hF).2.1.symm, (h F hF).2.2.symm⟩
theorem sp_eq.trans (h : sp_eq n X Y) (h' : sp_eq n Y Z) : sp_eq n X Z := fun F hF => ⟨(h F hF).1.trans (h' F hF).1, (h F hF).2.1.trans (h' F hF).2.1, (h F hF).2.2.trans (h' F hF).2.2⟩
theorem sp_eq.refl : sp_eq n X X := fun _ _ => ⟨rfl, rfl, rfl⟩
theorem sp_anti (x : sp_01 n X) (y : sp_01 n Y) (h : sp_le n X Y) (h' : sp_le n Y X) : sp_eq n X Y := fun F hF => by
  obtain ⟨a1, a2, a3⟩ := h F hF
  obtain ⟨b1, b2, b3⟩ := h' F hF
  refine ⟨?_, ?_, by omega⟩
  · rcases x F hF with e | e <;> rcases y F hF with e' | e' <;> omega
  · refine tb_ext (fun b => ?_)
    have c1 := a2 b
    have c2 := b2 b
    cases k1 : tb (X.2.1 F) b <;> cases k2 : tb (Y.2.1 F) b
    · rfl
    · rw [k1, k2] at c2; exact absurd (c2 rfl) (by decide)
    · rw [k1, k2] at c1; exact absurd (c1 rfl) (by decide)
    · rfl
theorem sp_eq.v (h : sp_eq n X Y) : sE_v n X Y := fun F hF => by rw [(h F hF).1]
theorem sp_eq.s (h : sp_eq n X Y) (b : Nat) : sE_s n b X Y := ⟨h.v, fun F hF => by rw [(h F hF).2.1]⟩
theorem sp_eq.h (h : sp_eq n X Y) (s : Int) : sE_h n s X Y := fun F hF => by rw [(h F hF).2.2]
theorem sp_eq.fs (h : sp_eq n X Y) {as : List (List sp_P)} (ho : ∀ us ∈ as, sg_ok n us ∧ sg_us us) : sf_v X as = sf_v Y as ∧ sf_s X as = sf_s Y as ∧ sf_h X as = sf_h Y as := by
  refine ⟨sE_fv h.v as (fun us hu => (ho us hu).1), tb_ext (fun b => sE_fs (h.s b) as (fun us hu => (ho us hu).1)), ?_⟩
  have k := sE_fh (h.h 1001) as ho
  have k1 := sf_h_1000 X as
  have k2 := sf_h_1000 Y as
  omega
theorem su_01 {F : Nat} (h : sp_01 n X) : sp_01 n (su G F X) := fun i hi => by
  show (if i = F then sf_v X (G F) else X.1 i) = 0 ∨ (if i = F then sf_v X (G F) else X.1 i) = 1
  split
  · exact sf_v_01 X _
  · exact h i hi
theorem sr_01 : sp_01 n (sr G X) := fun i _ => sf_v_01 X _
theorem sr_up (hG : sg_OK n G) (h : sp_up n G X) : sp_le n X (sr G X) ∧ sp_up n G (sr G X) := by
  have l : sp_le n X (sr G X) := fun F hF => h F hF
  refine ⟨l, fun F hF => ?_⟩
  have ho := fun us hu => (hG F hF us hu).1
  exact ⟨sm_fv l _ ho, fun b => sm_fs l _ ho, sm_fh l _ ho⟩
theorem su_le {F : Nat} (h : sp_up n G X) : sp_le n X (su G F X) := fun i hi => by
  show (X.1 i ≠ 0 → (if i = F then sf_v X (G F) else X.1 i) ≠ 0) ∧ (∀ b, tb (X.2.1 i) b = true → tb (if i = F then sf_s X (G F) else X.2.1 i) b = true) ∧ (if i = F then sf_h X (G F) else X.2.2 i) ≤ X.2.2 i
  by_cases c : i = F
  · rw [if_pos c, if_pos c, if_pos c, ← c]
    exact h i hi
  · rw [if_neg c, if_neg c, if_neg c]
    exact ⟨id, fun _ => id, Int.le_refl _⟩
theorem su_up {F : Nat} (hG : sg_OK n G) (hF : F < n) (h : sp_up n G X) : sp_up n G (su G F X) := fun i hi => by
  have l := su_le (F := F) h
  have ho := fun us hu => (hG i hi us hu).1
  have m1 := sm_fv l _ ho
  have m2 := fun b => sm_fs (b := b) l _ ho
  have m3 := sm_fh l _ ho
  show ((if i = F then sf_v X (G F) else X.1 i) ≠ 0 → _) ∧ (∀ b, tb (if i = F then sf_s X (G F) else X.2.1 i) b = true → _) ∧ _ ≤ (if i = F then sf_h X (G F) else X.2.2 i)
  by_cases c : i = F
  · rw [if_pos c, if_pos c, if_pos c, ← c]
    rw [← c] at m1 m2 m3
    exact ⟨m1, m2, m3⟩
  · rw [if_neg c, if_neg c, if_neg c]
    obtain ⟨u1, u2, u3⟩ := h i hi
    exact ⟨fun q => m1 (u1 q), fun b q => m2 b (u2 b q), Int.le_trans m3 u3⟩
theorem sps_up (hG : sg_OK n G) : ∀ (m : Nat) (X : sp_X), m ≤ n → sp_up n G X → sp_le n X (sps G m X) ∧ sp_up n G (sps G m X) := by
  intro m
  induction m with
  | zero => intro X _ h; exact ⟨sp_le_refl, h⟩
  | succ m ih =>
    intro X hm h
    obtain ⟨a, b⟩ := ih (su G m X) (by omega) (su_up hG (by omega) h)
    exact ⟨sp_le_tr (su_le h) a, b⟩
theorem sps_01 : ∀ (m : Nat) (X : sp_X), sp_01 n X → sp_01 n (sps G m X) := by
  intro m
  induction m with
  | zero => intro X h; exact h
  | succ m ih => intro X h; exact ih _ (su_01 h)
/- the same of it -/
theorem su_v {F : Nat} (hG : sg_OK n G) (hF : F < n) (h : sE_v n X Y) : sE_v n (su G F X) (su G F Y) := fun i hi => by
  show (if i = F then sf_v X (G F) else X.1 i) ≠ 0 ↔ (if i = F then sf_v Y (G F) else Y.1 i) ≠ 0
  by_cases c : i = F
  · rw [if_pos c, if_pos c, sE_fv h _ (fun us hu => (hG F hF us hu).1)]
  · rw [if_neg c, if_neg c]
    exact h i hi
theorem su_s {b F : Nat} (hG : sg_OK n G) (hF : F < n) (h : sE_s n b X Y) : sE_s n b (su G F X) (su G F Y) := ⟨su_v hG hF h.1, fun i hi => by
  show tb (if i = F then sf_s X (G F) else X.2.1 i) b = tb (if i = F then sf_s Y (G F) else Y.2.1 i) b
  by_cases c : i = F
  · rw [if_pos c, if_pos c]; exact sE_fs h _ (fun us hu => (hG F hF us hu).1)
  · rw [if_neg c, if_neg c]
    exact h.2 i hi⟩
theorem su_h {s : Int} {F : Nat} (hG : sg_OK n G) (hF : F < n) (h : sE_h n s X Y) : sE_h n s (su G F X) (su G F Y) := fun i hi => by
  show min (if i = F then sf_h X (G F) else X.2.2 i) s = min (if i = F then sf_h Y (G F) else Y.2.2 i) s
  by_cases c : i = F
  · rw [if_pos c, if_pos c]; exact sE_fh h _ (fun us hu => hG F hF us hu)
  · rw [if_neg c, if_neg c]
    exact h i hi
theorem sps_c (hG : sg_OK n G) : ∀ (m : Nat) (X Y : sp_X), m ≤ n → (sE_v n X Y → sE_v n (sps G m X) (sps G m Y)) ∧ (∀ b, sE_s n b X Y → sE_s n b (sps G m X) (sps G m Y)) ∧ ∀ s, sE_h n s X Y → sE_h n s (sps G m X) (sps G m Y) := by
  intro m
  induction m with
  | zero => intro X Y _; exact ⟨id, fun _ => id, fun _ => id⟩
  | succ m ih =>
    intro X Y hm
    obtain ⟨a, b, c⟩ := ih (su G m X) (su G m Y) (by omega)
    exact ⟨fun h => a (su_v hG (by omega) h), fun k h => b k (su_s hG (by omega) h), fun s h => c s (su_h hG (by omega) h)⟩
theorem sr_c (hG : sg_OK n G) : (sE_v n X Y → sE_v n (sr G X) (sr G Y)) ∧ (∀ b, sE_s n b X Y → sE_s n b (sr G X) (sr G Y)) ∧ ∀ s, sE_h n s X Y → sE_h n s (sr G X) (sr G Y) := by
  have v : sE_v n X Y → sE_v n (sr G X) (sr G Y) := fun h F hF => by
    show sf_v X (G F) ≠ 0 ↔ sf_v Y (G F) ≠ 0
    rw [sE_fv h _ (fun us hu => (hG F hF us hu).1)]
  exact ⟨v, fun b h => ⟨v h.1, fun F hF => sE_fs h _ (fun us hu => (hG F hF us hu).1)⟩, fun s h F hF => sE_fh h _ (fun us hu => hG F hF us hu)⟩
end SFX
/-- after 2 n turns nothing changes any more -/
theorem sp_conv {n : Nat} {A : Nat → sp_X} (inc : ∀ k, sp_le n (A k) (A (k + 1))) (h01 : ∀ k, sp_01 n (A k)) (cv : ∀ k, sE_v n (A (k + 1)) (A k) → sE_v n (A (k + 2)) (A (k + 1))) (cs : ∀ k b, sE_s n b (A (k + 1)) (A k) → sE_s n b (A (k + 2)) (A (k + 1))) (ch : ∀ k s, sE_h n s (A (k + 1)) (A k) → sE_h n s (A (k + 2)) (A (k + 1))) {k : Nat} (hk : 2 * n ≤ k) : sp_eq n (A (k + 1)) (A k) := by
  have V : ∀ k, n ≤ k → sE_v n (A (k + 1)) (A k) := by
    intro k hk F hF
    have e := ch_stop (n := n) (k0 := 0) (A := fun k F => if (A k).1 F ≠ 0 then 0 else 1) (fun k F hF => by
      have := (inc k F hF).1
      show (if (A (k + 1)).1 F ≠ 0 then (0 : Int) else 1) ≤ if (A k).1 F ≠ 0 then 0 else 1
      by_cases c : (A k).1 F ≠ 0
      · rw [if_pos c, if_pos (this c)]; decide
      · rw [if_neg c]; split <;> decide) (fun k s _ h F hF => by
      have hv : ∀ F, F < n → min (if (A (k + 1)).1 F ≠ 0 then (0 : Int) else 1) s = min (if (A k).1 F ≠ 0 then 0 else 1) s := h
      show min (if (A (k + 2)).1 F ≠ 0 then (0 : Int) else 1) s = min (if (A (k + 1)).1 F ≠ 0 then 0 else 1) s
      by_cases c : s ≤ 0
      · split <;> split <;> omega
      · have := cv k (fun F' hF' => by
          have q := hv F' hF'
          by_cases c1 : (A (k + 1)).1 F' ≠ 0 <;> by_cases c2 : (A k).1 F' ≠ 0
          · exact ⟨fun _ => c2, fun _ => c1⟩
          · rw [if_pos c1, if_neg c2] at q; exfalso; omega
          · rw [if_neg c1, if_pos c2] at q; exfalso; omega
          · exact ⟨fun x => absurd x c1, fun x => absurd x c2⟩) F hF
        by_cases c1 : (A (k + 2)).1 F ≠ 0
        · rw [if_pos c1, if_pos (this.mp c1)]
        · rw [if_neg c1, if_neg (fun x => c1 (this.mpr x))]) (k := k) (F := F) (by omega) hF
    have e : (if (A (k + 1)).1 F ≠ 0 then (0 : Int) else 1) = if (A k).1 F ≠ 0 then 0 else 1 := e
    by_cases c1 : (A (k + 1)).1 F ≠ 0 <;> by_cases c2 : (A k).1 F ≠ 0
    · exact ⟨fun _ => c2, fun _ => c1⟩
    · rw [if_pos c1, if_neg c2] at e; exact absurd e (by decide)
    · rw [if_neg c1, if_pos c2] at e; exact absurd e (by decide)
    · exact ⟨fun x => absurd x c1, fun x => absurd x c2⟩
  have S : ∀ b F, F < n → tb ((A (k + 1)).2.1 F) b = tb ((A k).2.1 F) b := by
    intro b F hF
    have e := ch_stop (n := n) (k0 := n) (A := fun k F => if tb ((A k).2.1 F) b = true then 0 else 1) (fun k F hF => by
      have := (inc k F hF).2.1 b
      show (if tb ((A (k + 1)).2.1 F) b = true then (0 : Int) else 1) ≤ if tb ((A k).2.1 F) b = true then 0 else 1
      by_cases c : tb ((A k).2.1 F) b = true
      · rw [if_pos c, if_pos (this c)]; decide
      · rw [if_neg c]; split <;> decide) (fun k s hk h F hF => by
      have hv : ∀ F, F < n → min (if tb ((A (k + 1)).2.1 F) b = true then (0 : Int) else 1) s = min (if tb ((A k).2.1 F) b = true then 0 else 1) s := h
      show min (if tb ((A (k + 2)).2.1 F) b = true then (0 : Int) else 1) s = min (if tb ((A (k + 1)).2.1 F) b = true then 0 else 1) s
      by_cases c : s ≤ 0
      · split <;> split <;> omega
      · have := (cs k b ⟨V k hk, fun F' hF' => by
          have q := hv F' hF'
          cases c1 : tb ((A (k + 1)).2.1 F') b <;> cases c2 : tb ((A k).2.1 F') b
          · rfl
          · rw [c1, c2] at q; simp at q; exfalso; omega
          · rw [c1, c2] at q; simp at q; exfalso; omega
          · rfl⟩).2 F hF
        rw [this]) (k := k) (F := F) (by omega) hF
    have e : (if tb ((A (k + 1)).2.1 F) b = true then (0 : Int) else 1) = if tb ((A k).2.1 F) b = true then 0 else 1 := e
    cases c1 : tb ((A (k + 1)).2.1 F) b <;> cases c2 : tb ((A k).2.1 F) b
    · rfl
    · rw [c1, c2] at e; exact absurd e (by decide)
    · rw [c1, c2] at e; exact absurd e (by decide)
    · rfl
  have H : ∀ F, F < n → (A (k + 1)).2.2 F = (A k).2.2 F := fun F hF => ch_stop (n := n) (k0 := 0) (A := fun k F => (A k).2.2 F) (fun k F hF => (inc k F hF).2.2) (fun k s _ h => ch k s h) (k := k) (F := F) (by omega) hF
  intro F hF
  refine ⟨?_, tb_ext (fun b => S b F hF), H F hF⟩
  have v := V k (by omega) F hF
  rcases h01 (k + 1) F hF with e | e <;> rcases h01 k F hF with e' | e'
  · rw [e, e']
  · rw [e, e'] at v; exact absurd (v.mpr (by decide)) (by decide)
  · rw [e, e'] at v; exact absurd (v.mp (by decide)) (by decide)
  · rw [e, e']
section SFY
variable {n : Nat} {G : sg_G} {X Y Z : sp_X}
/-- a turn that changes nothing ends at a solution -/
theorem sr_fix (h : sp_eq n (sr G X) X) : sp_fix n G X := fun F hF => h F hF
theorem sps_fix (hG : sg_OK n G) : ∀ (m : Nat) (X : sp_X), m ≤ n → sp_01 n X → sp_up n G X → sp_eq n (sps G m X) X → ∀ F : Nat, F < m → sf_v X (G F) = X.1 F ∧ sf_s X (G F) = X.2.1 F ∧ sf_h X (G F) = X.2.2 F := by
  intro m
  induction m with
  | zero => intro X _ _ _ _ F hF; omega
  | succ m ih =>
    intro X hm h01 hu he F hF
    have u1 := su_up (F := m) hG (by omega) hu
    have l1 := (sps_up hG m (su G m X) (by omega) u1).1
    have l2 : sp_le n (su G m X) X := sp_le_tr l1 he.le
    have e1 : sp_eq n (su G m X) X := sp_anti (su_01 h01) h01 l2 (su_le hu)
    by_cases c : F = m
    · have := e1 F (by omega)
      have : (if F = m then sf_v X (G m) else X.1 F) = X.1 F ∧ (if F = m then sf_s X (G m) else X.2.1 F) = X.2.1 F ∧ (if F = m then sf_h X (G m) else X.2.2 F) = X.2.2 F := this
      rw [if_pos c, if_pos c, if_pos c, ← c] at this
      exact this
    · have e2 : sp_eq n (sps G m (su G m X)) (su G m X) := sp_eq.trans he e1.symm
      obtain ⟨a1, a2, a3⟩ := ih (su G m X) (by omega) (su_01 h01) u1 e2 F (by omega)
      obtain ⟨b1, b2, b3⟩ := e1.fs (hG F (by omega))
      obtain ⟨c1, c2, c3⟩ := e1 F (by omega)
      exact ⟨by rw [← b1, a1, c1], by rw [← b2, a2, c2], by rw [← b3, a3, c3]⟩
/-- all stays below every solution -/
theorem sr_least (hG : sg_OK n G) (hY : sp_fix n G Y) (h : sp_le n X Y) : sp_le n (sr G X) Y := fun F hF => by
  have ho := fun us hu => (hG F hF us hu).1
  have m1 := sm_fv h _ ho
  have m2 := fun b => sm_fs (b := b) h _ ho
  have m3 := sm_fh h _ ho
  obtain ⟨y1, y2, y3⟩ := hY F hF
  rw [y1] at m1
  rw [y2] at m2
  rw [y3] at m3
  exact ⟨m1, m2, m3⟩
theorem su_least {F : Nat} (hG : sg_OK n G) (hF : F < n) (hY : sp_fix n G Y) (h : sp_le n X Y) : sp_le n (su G F X) Y := fun i hi => by
  show ((if i = F then sf_v X (G F) else X.1 i) ≠ 0 → _) ∧ (∀ b, tb (if i = F then sf_s X (G F) else X.2.1 i) b = true → _) ∧ _ ≤ (if i = F then sf_h X (G F) else X.2.2 i)
  by_cases c : i = F
  · rw [if_pos c, if_pos c, if_pos c, c]
    exact sr_least hG hY h F hF
  · rw [if_neg c, if_neg c, if_neg c]
    exact h i hi
theorem sps_least (hG : sg_OK n G) (hY : sp_fix n G Y) : ∀ (m : Nat) (X : sp_X), m ≤ n → sp_le n X Y → sp_le n (sps G m X) Y := by
  intro m
  induction m with
  | zero => intro X _ h; exact h
  | succ m ih => intro X hm h; exact ih _ (by omega) (su_least hG (by omega) hY h)
end SFY
/-- at the begin -/
def sp_bot : sp_X := (fun _ => 0, fun _ => 0, fun _ => 1000)
theorem sp_bot_01 {n : Nat} : sp_01 n sp_bot := fun _ _ => Or.inl rfl
theorem sp_bot_up {n : Nat} {G : sg_G} : sp_up n G sp_bot := fun F _ => ⟨fun q => absurd rfl q, fun b q => by have e : tb 0 b = true := q; rw [tb_0] at e; exact absurd e (by decide), sf_h_1000 _ _⟩
theorem sp_bot_le {n : Nat} {Y : sp_X} (h : ∀ F, F < n → Y.2.2 F ≤ 1000) : sp_le n sp_bot Y := fun F hF => ⟨fun q => absurd rfl q, fun b q => by have e : tb 0 b = true := q; rw [tb_0] at e; exact absurd e (by decide), h F hF⟩
theorem sp_fix_le {n : Nat} {G : sg_G} {Y : sp_X} (h : sp_fix n G Y) : sp_le n sp_bot Y := sp_bot_le (fun F hF => by rw [← (h F hF).2.2]; exact sf_h_1000 _ _)
def sr_k (G : sg_G) : Nat → sp_X
  | 0 => sp_bot
  | k + 1 => sr G (sr_k G k)
def sps_k (G : sg_G) (n : Nat) : Nat → sp_X
  | 0 => sp_bot
  | k + 1 => sps G n (sps_k G n k)
section SFZ
variable {n : Nat} {G : sg_G} {Y : sp_X}
theorem sr_k_01 : ∀ k, sp_01 n (sr_k G k) := fun k => by cases k with | zero => exact sp_bot_01 | succ k => exact sr_01
theorem sr_k_up (hG : sg_OK n G) : ∀ k, sp_up n G (sr_k G k) := by
  intro k
  induction k with
  | zero => exact sp_bot_up
  | succ k ih => exact (sr_up hG ih).2
theorem sr_k_least (hG : sg_OK n G) (hY : sp_fix n G Y) : ∀ k, sp_le n (sr_k G k) Y := by
  intro k
  induction k with
  | zero => exact sp_fix_le hY
  | succ k ih => exact sr_least hG hY ih
theorem sr_k_stop (hG : sg_OK n G) {k : Nat} (hk : 2 * n ≤ k) : sp_eq n (sr_k G (k + 1)) (sr_k G k) := sp_conv (A := sr_k G) (fun k => (sr_up hG (sr_k_up hG k)).1) sr_k_01 (fun k => (sr_c hG).1) (fun k b => (sr_c hG).2.1 b) (fun k s => (sr_c hG).2.2 s) hk
theorem sps_k_01 : ∀ k, sp_01 n (sps_k G n k) := by
  intro k
  induction k with
  | zero => exact sp_bot_01
  | succ k ih => exact sps_01 _ _ ih
theorem sps_k_up (hG : sg_OK n G) : ∀ k, sp_up n G (sps_k G n k) := by
  intro k
  induction k with
  | zero => exact sp_bot_up
  | succ k ih => exact (sps_up hG n _ (Nat.le_refl _) ih).2
theorem sps_k_least (hG : sg_OK n G) (hY : sp_fix n G Y) : ∀ k, sp_le n (sps_k G n k) Y := by
  intro k
  induction k with
  | zero => exact sp_fix_le hY
  | succ k ih => exact sps_least hG hY n _ (Nat.le_refl _) ih
theorem sps_k_stop (hG : sg_OK n G) {k : Nat} (hk : 2 * n ≤ k) : sp_eq n (sps_k G n (k + 1)) (sps_k G n k) := sp_conv (A := sps_k G n) (fun k => (sps_up hG n _ (Nat.le_refl _) (sps_k_up hG k)).1) sps_k_01 (fun k => (sps_c hG n _ _ (Nat.le_refl _)).1) (fun k b => (sps_c hG n _ _ (Nat.le_refl _)).2.1 b) (fun k s => (sps_c hG n _ _ (Nat.le_refl _)).2.2 s) hk
end SFZ
/-! what may follow, purely -/
abbrev sp_F : Type := Nat → Int64
/-- what a part's rest begins with, where b is behind -/
def sk_r (X : sp_X) (b : Int64) : List sp_P → Int64
  | [] => b
  | p :: r => if sp_e X p then sp_s X p ||| sk_r X b r else sp_s X p
/-- what follows a part's form in it -/
def sk_i (X : sp_X) (b : Int64) (p : sp_P) (r : List sp_P) : Int64 := if p.2.2.1 = 1 then sk_r X b r ||| sp_s X p else sk_r X b r
/-- what an alternative gives to form i -/
def sk_c (X : sp_X) (b : Int64) (i : Nat) : List sp_P → Int64
  | [] => 0
  | p :: r => (if p.1 = i then sk_i X b p r else 0) ||| sk_c X b i r
def sk_a (X : sp_X) (f : Nat) (us : List sp_P) (W : sp_F) : sp_F := fun i => W i ||| sk_c X (W f) i us
def sk_f (X : sp_X) (f : Nat) : List (List sp_P) → sp_F → sp_F
  | [], W => W
  | us :: as, W => sk_f X f as (sk_a X f us W)
def sk_p (X : sp_X) (G : sg_G) : Nat → Nat → sp_F → sp_F
  | 0, _, W => W
  | c + 1, s, W => sk_p X G c (s + 1) (sk_f X s (G s) W)
def tl (x y : Int64) : Prop := ∀ b, tb x b = true → tb y b = true
theorem tl_refl (x : Int64) : tl x x := fun _ => id
theorem tl_tr {x y z : Int64} (h : tl x y) (h' : tl y z) : tl x z := fun b q => h' b (h b q)
theorem tl_or {x y z : Int64} (h : tl x z) (h' : tl y z) : tl (x ||| y) z := fun b q => by
  rw [tb_or, Bool.or_eq_true] at q
  rcases q with q | q
  · exact h b q
  · exact h' b q
theorem tl_l (x y : Int64) : tl x (x ||| y) := fun b q => by rw [tb_or, q]; rfl
theorem tl_r (x y : Int64) : tl y (x ||| y) := fun b q => by rw [tb_or, q, Bool.or_true]
theorem tl_0 (x : Int64) : tl 0 x := fun b q => by rw [tb_0] at q; exact absurd q (by decide)
theorem tl_anti {x y : Int64} (h : tl x y) (h' : tl y x) : x = y := tb_ext (fun b => by
  have c1 := h b
  have c2 := h' b
  cases k1 : tb x b <;> cases k2 : tb y b
  · rfl
  · rw [k1, k2] at c2; exact absurd (c2 rfl) (by decide)
  · rw [k1, k2] at c1; exact absurd (c1 rfl) (by decide)
  · rfl)
theorem tl_or2 {x y x' y' : Int64} (h : tl x x') (h' : tl y y') : tl (x ||| y) (x' ||| y') := tl_or (tl_tr h (tl_l _ _)) (tl_tr h' (tl_r _ _))
section SKP
variable {X : sp_X} {n : Nat} {G : sg_G} {W W' Y : sp_F}
theorem sk_r_m {b b' : Int64} (h : tl b b') : ∀ us, tl (sk_r X b us) (sk_r X b' us) := by
  intro us
  induction us with
  | nil => exact h
  | cons p r ih =>
    unfold sk_r
    split
    · exact tl_or2 (tl_refl _) ih
    · exact tl_refl _
theorem sk_i_m {b b' : Int64} (h : tl b b') (p : sp_P) (r : List sp_P) : tl (sk_i X b p r) (sk_i X b' p r) := by
  unfold sk_i
  split
  · exact tl_or2 (sk_r_m h r) (tl_refl _)
  · exact sk_r_m h r
theorem sk_c_m {b b' : Int64} {i : Nat} (h : tl b b') : ∀ us, tl (sk_c X b i us) (sk_c X b' i us) := by
  intro us
  induction us with
  | nil => exact tl_refl _
  | cons p r ih =>
    unfold sk_c
    refine tl_or2 ?_ ih
    split
    · exact sk_i_m h p r
    · exact tl_refl _
theorem sk_r_b {b b' : Int64} {k : Nat} (h : tb b k = tb b' k) : ∀ us, tb (sk_r X b us) k = tb (sk_r X b' us) k := by
  intro us
  induction us with
  | nil => exact h
  | cons p r ih =>
    unfold sk_r
    split
    · rw [tb_or, tb_or, ih]
    · rfl
theorem sk_c_b {b b' : Int64} {k i : Nat} (h : tb b k = tb b' k) : ∀ us, tb (sk_c X b i us) k = tb (sk_c X b' i us) k := by
  intro us
  induction us with
  | nil => rfl
  | cons p r ih =>
    have e := sk_r_b (X := X) h r
    unfold sk_c sk_i
    rw [tb_or, tb_or, ih]
    congr 1
    split
    · split
      · rw [tb_or, tb_or, e]
      · exact e
    · rfl
/- order -/
def sw_le (n : Nat) (W W' : sp_F) : Prop := ∀ i : Nat, i < n → tl (W i) (W' i)
def sw_eq (n : Nat) (W W' : sp_F) : Prop := ∀ i : Nat, i < n → W i = W' i
/-- a solution -/
def sw_sol (X : sp_X) (n : Nat) (G : sg_G) (W : sp_F) : Prop := ∀ f : Nat, f < n → ∀ us ∈ G f, ∀ i : Nat, i < n → tl (sk_c X (W f) i us) (W i)
theorem sw_le_tr {W'' : sp_F} (h : sw_le n W W') (h' : sw_le n W' W'') : sw_le n W W'' := fun i hi => tl_tr (h i hi) (h' i hi)
theorem sk_a_le {f : Nat} {us : List sp_P} : sw_le n W (sk_a X f us W) := fun i _ => tl_l _ _
theorem sk_f_le {f : Nat} : ∀ (as : List (List sp_P)) (W : sp_F), sw_le n W (sk_f X f as W) := by
  intro as
  induction as with
  | nil => intro W i _; exact tl_refl _
  | cons us as ih => intro W; exact sw_le_tr sk_a_le (ih _)
theorem sk_p_le : ∀ (c s : Nat) (W : sp_F), sw_le n W (sk_p X G c s W) := by
  intro c
  induction c with
  | zero => intro s W i _; exact tl_refl _
  | succ c ih => intro s W; exact sw_le_tr (sk_f_le _ _) (ih _ _)
/- a bit -/
def sw_b (n k : Nat) (W W' : sp_F) : Prop := ∀ i : Nat, i < n → tb (W i) k = tb (W' i) k
theorem sk_a_b {k f : Nat} {us : List sp_P} (hf : f < n) (h : sw_b n k W W') : sw_b n k (sk_a X f us W) (sk_a X f us W') := fun i hi => by
  show tb (W i ||| sk_c X (W f) i us) k = tb (W' i ||| sk_c X (W' f) i us) k
  rw [tb_or, tb_or, h i hi, sk_c_b (h f hf)]
theorem sk_f_b {k f : Nat} (hf : f < n) : ∀ (as : List (List sp_P)) (W W' : sp_F), sw_b n k W W' → sw_b n k (sk_f X f as W) (sk_f X f as W') := by
  intro as
  induction as with
  | nil => intro W W' h; exact h
  | cons us as ih => intro W W' h; exact ih _ _ (sk_a_b hf h)
theorem sk_p_b {k : Nat} : ∀ (c s : Nat) (W W' : sp_F), s + c ≤ n → sw_b n k W W' → sw_b n k (sk_p X G c s W) (sk_p X G c s W') := by
  intro c
  induction c with
  | zero => intro s W W' _ h; exact h
  | succ c ih => intro s W W' hs h; exact ih _ _ _ (by omega) (sk_f_b (by omega) _ _ _ h)
/- least -/
theorem sk_a_least {f : Nat} {us : List sp_P} (hf : f < n) (hus : us ∈ G f) (hY : sw_sol X n G Y) (h : sw_le n W Y) : sw_le n (sk_a X f us W) Y := fun i hi => tl_or (h i hi) (tl_tr (sk_c_m (h f hf) us) (hY f hf us hus i hi))
theorem sk_f_least {f : Nat} (hf : f < n) (hY : sw_sol X n G Y) : ∀ (as : List (List sp_P)) (W : sp_F), (∀ us ∈ as, us ∈ G f) → sw_le n W Y → sw_le n (sk_f X f as W) Y := by
  intro as
  induction as with
  | nil => intro W _ h; exact h
  | cons us as ih => intro W ho h; exact ih _ (fun u hu => ho u (List.mem_cons_of_mem _ hu)) (sk_a_least hf (ho us List.mem_cons_self) hY h)
theorem sk_p_least (hY : sw_sol X n G Y) : ∀ (c s : Nat) (W : sp_F), s + c ≤ n → sw_le n W Y → sw_le n (sk_p X G c s W) Y := by
  intro c
  induction c with
  | zero => intro s W _ h; exact h
  | succ c ih => intro s W hs h; exact ih _ _ (by omega) (sk_f_least (by omega) hY _ _ (fun _ => id) h)
/- a turn that changes nothing ends at a solution -/
theorem sk_f_sol {f : Nat} (hf : f < n) : ∀ (as : List (List sp_P)) (W : sp_F), sw_eq n (sk_f X f as W) W → ∀ us ∈ as, ∀ i : Nat, i < n → tl (sk_c X (W f) i us) (W i) := by
  intro as
  induction as with
  | nil => intro W _ us hu; cases hu
  | cons u as ih =>
    intro W he us hu i hi
    have l1 : sw_le n (sk_a X f u W) W := fun j hj => by
      have := sk_f_le (X := X) (n := n) (f := f) as (sk_a X f u W) j hj
      have e : sk_f X f as (sk_a X f u W) j = W j := he j hj
      rw [e] at this
      exact this
    have e1 : sw_eq n (sk_a X f u W) W := fun j hj => tl_anti (l1 j hj) (sk_a_le j hj)
    rcases List.mem_cons.mp hu with rfl | hu
    · exact tl_tr (tl_r _ _) (l1 i hi)
    · have e2 : sw_eq n (sk_f X f as (sk_a X f u W)) (sk_a X f u W) := fun j hj => (he j hj).trans (e1 j hj).symm
      have := ih _ e2 us hu i hi
      rw [e1 i hi, e1 f hf] at this
      exact this
theorem sk_p_sol : ∀ (c s : Nat) (W : sp_F), s + c ≤ n → sw_eq n (sk_p X G c s W) W → ∀ f : Nat, s ≤ f → f < s + c → ∀ us ∈ G f, ∀ i : Nat, i < n → tl (sk_c X (W f) i us) (W i) := by
  intro c
  induction c with
  | zero => intro s W _ _ f h1 h2; omega
  | succ c ih =>
    intro s W hs he f h1 h2 us hu i hi
    have l1 : sw_le n (sk_f X s (G s) W) W := fun j hj => by
      have := sk_p_le (X := X) (n := n) (G := G) c (s + 1) (sk_f X s (G s) W) j hj
      have e : sk_p X G c (s + 1) (sk_f X s (G s) W) j = W j := he j hj
      rw [e] at this
      exact this
    have e1 : sw_eq n (sk_f X s (G s) W) W := fun j hj => tl_anti (l1 j hj) (sk_f_le _ _ j hj)
    by_cases cs : f = s
    · subst cs
      exact sk_f_sol (by omega) _ _ e1 us hu i hi
    · have e2 : sw_eq n (sk_p X G c (s + 1) (sk_f X s (G s) W)) (sk_f X s (G s) W) := fun j hj => (he j hj).trans (e1 j hj).symm
      have := ih _ _ (by omega) e2 f (by omega) (by omega) us hu i hi
      rw [e1 i hi, e1 f (by omega)] at this
      exact this
def sk_k (X : sp_X) (G : sg_G) (n : Nat) (W0 : sp_F) : Nat → sp_F
  | 0 => W0
  | k + 1 => sk_p X G n 0 (sk_k X G n W0 k)
theorem sk_k_stop {W0 : sp_F} {k : Nat} (hk : n ≤ k) : sw_eq n (sk_k X G n W0 (k + 1)) (sk_k X G n W0 k) := by
  intro F hF
  refine tb_ext (fun b => ?_)
  have e := ch_stop (n := n) (k0 := 0) (A := fun k F => if tb (sk_k X G n W0 k F) b = true then 0 else 1) (fun k F hF => by
    have this : tb (sk_k X G n W0 k F) b = true → tb (sk_k X G n W0 (k + 1) F) b = true := sk_p_le (X := X) (n := n) (G := G) n 0 (sk_k X G n W0 k) F hF b
    show (if tb (sk_k X G n W0 (k + 1) F) b = true then (0 : Int) else 1) ≤ if tb (sk_k X G n W0 k F) b = true then 0 else 1
    by_cases c : tb (sk_k X G n W0 k F) b = true
    · rw [if_pos c, if_pos (this c)]; decide
    · rw [if_neg c]; split <;> decide) (fun k s _ h F hF => by
    have hv : ∀ F, F < n → min (if tb (sk_k X G n W0 (k + 1) F) b = true then (0 : Int) else 1) s = min (if tb (sk_k X G n W0 k F) b = true then 0 else 1) s := h
    show min (if tb (sk_k X G n W0 (k + 2) F) b = true then (0 : Int) else 1) s = min (if tb (sk_k X G n W0 (k + 1) F) b = true then 0 else 1) s
    by_cases c : s ≤ 0
    · split <;> split <;> omega
    · have : tb (sk_k X G n W0 (k + 2) F) b = tb (sk_k X G n W0 (k + 1) F) b := sk_p_b n 0 (sk_k X G n W0 (k + 1)) (sk_k X G n W0 k) (by omega) (fun F' hF' => by
        have q := hv F' hF'
        cases c1 : tb (sk_k X G n W0 (k + 1) F') b <;> cases c2 : tb (sk_k X G n W0 k F') b
        · rfl
        · rw [c1, c2] at q; simp at q; exfalso; omega
        · rw [c1, c2] at q; simp at q; exfalso; omega
        · rfl) F hF
      rw [this]) (k := k) (F := F) (by omega) hF
  have e : (if tb (sk_k X G n W0 (k + 1) F) b = true then (0 : Int) else 1) = if tb (sk_k X G n W0 k F) b = true then 0 else 1 := e
  cases c1 : tb (sk_k X G n W0 (k + 1) F) b <;> cases c2 : tb (sk_k X G n W0 k F) b
  · rfl
  · rw [c1, c2] at e; exact absurd e (by decide)
  · rw [c1, c2] at e; exact absurd e (by decide)
  · rfl
theorem sk_k_least {W0 : sp_F} (hY : sw_sol X n G Y) (h0 : sw_le n W0 Y) : ∀ k, sw_le n (sk_k X G n W0 k) Y := by
  intro k
  induction k with
  | zero => exact h0
  | succ k ih => exact sk_p_least hY n 0 _ (by omega) ih
theorem sk_k_ge {W0 : sp_F} : ∀ k, sw_le n W0 (sk_k X G n W0 k) := by
  intro k
  induction k with
  | zero => exact fun i _ => tl_refl _
  | succ k ih => exact sw_le_tr ih (sk_p_le _ _ _)
theorem sk_sol {W : sp_F} (h : sw_eq n (sk_p X G n 0 W) W) : sw_sol X n G W := fun f hf us hu i hi => sk_p_sol n 0 W (by omega) h f (by omega) (by omega) us hu i hi
end SKP
/-! the same system with other numbers for the forms has the same solution -/
def sn (fm : Nat → Nat) (p : sp_P) : sp_P := (if 0 ≤ p.1 then (fm p.1.toNat : Int) else p.1, p.2)
def sn_X (fm : Nat → Nat) (X : sp_X) : sp_X := (fun F => X.1 (fm F), fun F => X.2.1 (fm F), fun F => X.2.2 (fm F))
section SNN
variable {fm : Nat → Nat} {X : sp_X}
theorem sn_0 {p : sp_P} : 0 ≤ (sn fm p).1 ↔ 0 ≤ p.1 := by
  unfold sn
  by_cases c : 0 ≤ p.1
  · show 0 ≤ (if 0 ≤ p.1 then (fm p.1.toNat : Int) else p.1) ↔ _
    rw [if_pos c]
    exact ⟨fun _ => c, fun _ => by omega⟩
  · show 0 ≤ (if 0 ≤ p.1 then (fm p.1.toNat : Int) else p.1) ↔ _
    rw [if_neg c]
theorem sn_1 {p : sp_P} (c : 0 ≤ p.1) : (sn fm p).1.toNat = fm p.1.toNat := by
  show (if 0 ≤ p.1 then (fm p.1.toNat : Int) else p.1).toNat = _
  rw [if_pos c]
  omega
theorem sn_v {p : sp_P} : sp_v X (sn fm p) = sp_v (sn_X fm X) p := by
  unfold sp_v
  by_cases c : 0 ≤ p.1
  · rw [if_pos (sn_0.mpr c), if_pos c, sn_1 c]; rfl
  · rw [if_neg (fun q => c (sn_0.mp q)), if_neg c]; rfl
theorem sn_s {p : sp_P} : sp_s X (sn fm p) = sp_s (sn_X fm X) p := by
  unfold sp_s
  by_cases c : 0 ≤ p.1
  · rw [if_pos (sn_0.mpr c), if_pos c, sn_1 c]; rfl
  · rw [if_neg (fun q => c (sn_0.mp q)), if_neg c]; rfl
theorem sn_h {p : sp_P} : sp_h X (sn fm p) = sp_h (sn_X fm X) p := by
  unfold sp_h
  by_cases c1 : p.2.2.1 ≠ 0
  · rw [if_pos (show (sn fm p).2.2.1 ≠ 0 from c1), if_pos c1]
  · rw [if_neg (show ¬ (sn fm p).2.2.1 ≠ 0 from c1), if_neg c1]
    by_cases c : 0 ≤ p.1
    · rw [if_pos (sn_0.mpr c), if_pos c, sn_1 c]; rfl
    · rw [if_neg (fun q => c (sn_0.mp q)), if_neg c]
theorem sn_e {p : sp_P} : sp_e X (sn fm p) ↔ sp_e (sn_X fm X) p := by
  unfold sp_e
  rw [sn_v]
  exact Iff.rfl
theorem sn_a : ∀ us : List sp_P, sa_v X (us.map (sn fm)) = sa_v (sn_X fm X) us ∧ sa_s X (us.map (sn fm)) = sa_s (sn_X fm X) us ∧ sa_h X (us.map (sn fm)) = sa_h (sn_X fm X) us := by
  intro us
  induction us with
  | nil => exact ⟨rfl, rfl, rfl⟩
  | cons p r ih =>
    obtain ⟨i1, i2, i3⟩ := ih
    rw [List.map_cons]
    unfold sa_v sa_s sa_h
    rw [i1, i2, i3, sn_s, sn_h]
    by_cases c : sp_e (sn_X fm X) p
    · rw [if_pos (sn_e.mpr c), if_pos c, if_pos (sn_e.mpr c), if_pos c]
      exact ⟨rfl, rfl, rfl⟩
    · rw [if_neg (fun q => c (sn_e.mp q)), if_neg c, if_neg (fun q => c (sn_e.mp q)), if_neg c]
      exact ⟨rfl, rfl, rfl⟩
theorem sn_f : ∀ as : List (List sp_P), sf_v X (as.map (List.map (sn fm))) = sf_v (sn_X fm X) as ∧ sf_s X (as.map (List.map (sn fm))) = sf_s (sn_X fm X) as ∧ sf_h X (as.map (List.map (sn fm))) = sf_h (sn_X fm X) as := by
  intro as
  induction as with
  | nil => exact ⟨rfl, rfl, rfl⟩
  | cons a r ih =>
    obtain ⟨i1, i2, i3⟩ := ih
    obtain ⟨a1, a2, a3⟩ := sn_a (fm := fm) (X := X) a
    rw [List.map_cons]
    unfold sf_v sf_s sf_h
    rw [i1, i2, i3, a1, a2, a3]
    exact ⟨rfl, rfl, rfl⟩
end SNN
/-- the two ways to number -/
def sg_two (nr nc : Nat) (fm : Nat → Nat) (GR GC : sg_G) : Prop := (∀ F, F < nr → fm F < nc ∧ GC (fm F) = (GR F).map (List.map (sn fm))) ∧ (∀ F F', F < nr → F' < nr → fm F = fm F' → F = F') ∧ ∀ j, j < nc → (∀ F, F < nr → fm F ≠ j) → GC j = []
noncomputable def sg_i (fm : Nat → Nat) (nr j : Nat) : Nat := @dite Nat (∃ F, F < nr ∧ fm F = j) (Classical.propDecidable _) (fun h => Classical.choose h) (fun _ => nr)
section SG2
variable {nr nc : Nat} {fm : Nat → Nat} {GR GC : sg_G}
theorem sg_i1 (h : sg_two nr nc fm GR GC) {F : Nat} (hF : F < nr) : sg_i fm nr (fm F) = F := by
  have ex : ∃ F', F' < nr ∧ fm F' = fm F := ⟨F, hF, rfl⟩
  unfold sg_i
  rw [dif_pos ex]
  have := Classical.choose_spec ex
  exact h.2.1 _ _ this.1 hF this.2
theorem sg_i0 {j : Nat} (h : ∀ F, F < nr → fm F ≠ j) : sg_i fm nr j = nr := by
  unfold sg_i
  rw [dif_neg (fun ⟨F, a, b⟩ => h F a b)]
noncomputable def sg_Y (fm : Nat → Nat) (nr : Nat) (X : sp_X) : sp_X := (fun j => if sg_i fm nr j < nr then X.1 (sg_i fm nr j) else 0, fun j => if sg_i fm nr j < nr then X.2.1 (sg_i fm nr j) else 0, fun j => if sg_i fm nr j < nr then X.2.2 (sg_i fm nr j) else 1000)
theorem sg_Y1 (h : sg_two nr nc fm GR GC) {X : sp_X} : sp_eq nr (sn_X fm (sg_Y fm nr X)) X := fun F hF => by
  show (if sg_i fm nr (fm F) < nr then X.1 (sg_i fm nr (fm F)) else 0) = X.1 F ∧ (if sg_i fm nr (fm F) < nr then X.2.1 (sg_i fm nr (fm F)) else 0) = X.2.1 F ∧ (if sg_i fm nr (fm F) < nr then X.2.2 (sg_i fm nr (fm F)) else 1000) = X.2.2 F
  rw [sg_i1 h hF, if_pos hF, if_pos hF, if_pos hF]
  exact ⟨rfl, rfl, rfl⟩
theorem sg_fixC (h : sg_two nr nc fm GR GC) {X : sp_X} (hX : sp_fix nc GC X) : sp_fix nr GR (sn_X fm X) := fun F hF => by
  obtain ⟨a, b⟩ := h.1 F hF
  obtain ⟨c1, c2, c3⟩ := sn_f (fm := fm) (X := X) (GR F)
  rw [← c1, ← c2, ← c3, ← b]
  exact hX _ a
theorem sg_fixY (hR : sg_OK nr GR) (h : sg_two nr nc fm GR GC) {X : sp_X} (hX : sp_fix nr GR X) : sp_fix nc GC (sg_Y fm nr X) := fun j hj => by
  by_cases c : ∃ F, F < nr ∧ fm F = j
  · obtain ⟨F, hF, rfl⟩ := c
    obtain ⟨c1, c2, c3⟩ := sn_f (fm := fm) (X := sg_Y fm nr X) (GR F)
    obtain ⟨d1, d2, d3⟩ := (sg_Y1 (X := X) h).fs (hR F hF)
    obtain ⟨e1, e2, e3⟩ := sg_Y1 (X := X) h F hF
    obtain ⟨x1, x2, x3⟩ := hX F hF
    rw [(h.1 F hF).2, c1, c2, c3, d1, d2, d3, x1, x2, x3]
    exact ⟨e1.symm, e2.symm, e3.symm⟩
  · have n0 : ∀ F, F < nr → fm F ≠ j := fun F hF e => c ⟨F, hF, e⟩
    rw [h.2.2 j hj n0]
    show (0 : Int) = (if sg_i fm nr j < nr then X.1 (sg_i fm nr j) else 0) ∧ (0 : Int64) = (if sg_i fm nr j < nr then X.2.1 (sg_i fm nr j) else 0) ∧ (1000 : Int) = (if sg_i fm nr j < nr then X.2.2 (sg_i fm nr j) else 1000)
    rw [sg_i0 n0, if_neg (Nat.lt_irrefl _), if_neg (Nat.lt_irrefl _), if_neg (Nat.lt_irrefl _)]
    exact ⟨rfl, rfl, rfl⟩
/-- both end at the same -/
theorem sg_same (hR : sg_OK nr GR) (hC : sg_OK nc GC) (h : sg_two nr nc fm GR GC) {k k' : Nat} (fR : sp_fix nr GR (sr_k GR k)) (fC : sp_fix nc GC (sps_k GC nc k')) : sp_eq nr (sr_k GR k) (sn_X fm (sps_k GC nc k')) := by
  refine sp_anti (sr_k_01 k) (fun F hF => sps_k_01 (n := nc) k' _ (h.1 F hF).1) (sr_k_least hR (sg_fixC h fC) k) ?_
  have l := sps_k_least hC (sg_fixY hR h fR) k'
  have l2 : sp_le nr (sn_X fm (sps_k GC nc k')) (sn_X fm (sg_Y fm nr (sr_k GR k))) := fun F hF => l _ (h.1 F hF).1
  exact sp_le_tr l2 (sg_Y1 h).le
/- what follows -/
variable {XR XC : sp_X}
theorem sn_kr {b : Int64} (hX : sp_eq nr XR (sn_X fm XC)) : ∀ us, sg_ok nr us → sk_r XC b (us.map (sn fm)) = sk_r XR b us := by
  intro us
  induction us with
  | nil => intro _; rfl
  | cons p r ih =>
    intro ho
    have i := ih (fun q hq => ho q (List.mem_cons_of_mem _ hq))
    have e := sE_e hX.v (ho p List.mem_cons_self)
    have s : sp_s XC (sn fm p) = sp_s XR p := by rw [sn_s]; exact tb_ext (fun b => (sE_ps (hX.s b) (ho p List.mem_cons_self)).symm)
    rw [List.map_cons]
    unfold sk_r
    rw [i, s]
    by_cases c : sp_e XR p
    · rw [if_pos c, if_pos (sn_e.mpr (e.mp c))]
    · rw [if_neg c, if_neg (fun q => c (e.mpr (sn_e.mp q)))]
theorem sn_kc (h : sg_two nr nc fm GR GC) {b : Int64} {F : Nat} (hF : F < nr) (hX : sp_eq nr XR (sn_X fm XC)) : ∀ us, sg_ok nr us → sk_c XC b (fm F) (us.map (sn fm)) = sk_c XR b F us := by
  intro us
  induction us with
  | nil => intro _; rfl
  | cons p r ih =>
    intro ho
    have i := ih (fun q hq => ho q (List.mem_cons_of_mem _ hq))
    have hp := ho p List.mem_cons_self
    have s : sp_s XC (sn fm p) = sp_s XR p := by rw [sn_s]; exact tb_ext (fun b => (sE_ps (hX.s b) hp).symm)
    have kr := sn_kr (b := b) hX r (fun q hq => ho q (List.mem_cons_of_mem _ hq))
    rw [List.map_cons]
    unfold sk_c
    have ei : sk_i XC b (sn fm p) (r.map (sn fm)) = sk_i XR b p r := by
      unfold sk_i
      rw [kr, s]
      rfl
    rw [i, ei]
    congr 1
    by_cases c : p.1 = F
    · have c0 : 0 ≤ p.1 := by omega
      have : (sn fm p).1 = (fm F : Int) := by
        show (if 0 ≤ p.1 then (fm p.1.toNat : Int) else p.1) = _
        rw [if_pos c0, c]
        congr 1
      rw [if_pos c, if_pos this]
    · have : (sn fm p).1 ≠ (fm F : Int) := by
        show (if 0 ≤ p.1 then (fm p.1.toNat : Int) else p.1) ≠ _
        by_cases c0 : 0 ≤ p.1
        · rw [if_pos c0]
          intro q
          have q : fm p.1.toNat = fm F := by omega
          have := h.2.1 _ _ (by omega) hF q
          omega
        · rw [if_neg c0]
          omega
      rw [if_neg c, if_neg this]
theorem sg_sameW (hR : sg_OK nr GR) (hC : sg_OK nc GC) (h : sg_two nr nc fm GR GC) (hX : sp_eq nr XR (sn_X fm XC)) {WR WC : sp_F} {k k' : Nat} (hW : ∀ F, F < nr → WC (fm F) = WR F) (hW0 : ∀ j, j < nc → (∀ F, F < nr → fm F ≠ j) → WC j = 0) (sR : sw_sol XR nr GR (sk_k XR GR nr WR k)) (sC : sw_sol XC nc GC (sk_k XC GC nc WC k')) : ∀ F, F < nr → sk_k XR GR nr WR k F = sk_k XC GC nc WC k' (fm F) := by
  have solR : sw_sol XR nr GR (fun F => sk_k XC GC nc WC k' (fm F)) := fun f hf us hu i hi => by
    have := sC (fm f) (h.1 f hf).1 (us.map (sn fm)) (by rw [(h.1 f hf).2]; exact List.mem_map_of_mem hu) (fm i) (h.1 i hi).1
    rw [sn_kc h hi hX us (hR f hf us hu).1] at this
    exact this
  have l1 := sk_k_least solR (W0 := WR) (fun F hF => by
    have := sk_k_ge (X := XC) (n := nc) (G := GC) (W0 := WC) k' (fm F) (h.1 F hF).1
    rw [hW F hF] at this
    exact this) k
  obtain ⟨Y, hY⟩ : ∃ Y : sp_F, Y = fun j => if sg_i fm nr j < nr then sk_k XR GR nr WR k (sg_i fm nr j) else 0 := ⟨_, rfl⟩
  have Y1 : ∀ F, F < nr → Y (fm F) = sk_k XR GR nr WR k F := fun F hF => by
    rw [hY]
    show (if sg_i fm nr (fm F) < nr then sk_k XR GR nr WR k (sg_i fm nr (fm F)) else 0) = _
    rw [sg_i1 h hF, if_pos hF]
  have solC : sw_sol XC nc GC Y := fun f hf us hu i hi => by
    by_cases c : ∃ F, F < nr ∧ fm F = f
    · obtain ⟨F, hF, rfl⟩ := c
      rw [(h.1 F hF).2] at hu
      obtain ⟨us', hu', rfl⟩ := List.mem_map.mp hu
      have ho := (hR F hF us' hu').1
      by_cases c2 : ∃ I, I < nr ∧ fm I = i
      · obtain ⟨I, hI, rfl⟩ := c2
        rw [sn_kc h hI hX us' ho, Y1 F hF, Y1 I hI]
        exact sR F hF us' hu' I hI
      · have z : ∀ (b : Int64) (us : List sp_P), sg_ok nr us → sk_c XC b i (us.map (sn fm)) = 0 := by
          intro b us
          induction us with
          | nil => intro _; rfl
          | cons p r ih =>
            intro ho
            rw [List.map_cons]
            unfold sk_c
            rw [ih (fun q hq => ho q (List.mem_cons_of_mem _ hq))]
            have : (sn fm p).1 ≠ (i : Int) := by
              show (if 0 ≤ p.1 then (fm p.1.toNat : Int) else p.1) ≠ _
              have hp := ho p List.mem_cons_self
              by_cases c0 : 0 ≤ p.1
              · rw [if_pos c0]
                intro q
                exact c2 ⟨p.1.toNat, by omega, by omega⟩
              · rw [if_neg c0]
                omega
            rw [if_neg this]
            rfl
        rw [z _ us' ho]
        exact tl_0 _
    · rw [h.2.2 f hf (fun F hF e => c ⟨F, hF, e⟩)] at hu
      cases hu
  have l2 := sk_k_least solC (W0 := WC) (fun j hj => by
    by_cases c : ∃ F, F < nr ∧ fm F = j
    · obtain ⟨F, hF, rfl⟩ := c
      rw [Y1 F hF, hW F hF]
      exact sk_k_ge k F hF
    · rw [hW0 j hj (fun F hF e => c ⟨F, hF, e⟩)]
      exact tl_0 _) k'
  intro F hF
  refine tl_anti (l1 F hF) ?_
  have := l2 (fm F) (h.1 F hF).1
  rw [Y1 F hF] at this
  exact this
end SG2
