/-! the class's readUnit does the same turns -/
def ru_P (n : Int) (c : Nat → Int) (f : Int → Int) (x : ft_X) (h : sm_H) (w : Option mi_V) (h' : sm_H) : Prop :=
  (∃ z, w = some (.inl z)) ∧ ab_Sh sx_sk h' ∧ ab_Fr cw_W h h' ∧
  (mi_f h' 9730 = 0 → CX n c h' ∧ ∃ ow' g' a' zw' t' v' e' j, w = some (.inl (g' 150 (x.1 0 5).toNat)) ∧ ft_Tr n c j x (g', a', 0, zw', ft_p x.1) ∧ PI ow' g' (x.1 0 5) ∧ FI f g' ∧ CQ f ow' g' h' ∧ KL (x.1 0 5) (x.1 0 5) x.1 g' ∧ K3 x.1 g' ∧ g' 147 (x.1 0 5).toNat = x.1 147 (x.1 0 5).toNat ∧ g' 151 (x.1 0 5).toNat = 0 ∧ (ft_p x.1 ≠ 0 → 0 ≤ g' 149 (x.1 0 5).toNat ∧ g' 150 (x.1 0 5).toNat = g' 149 (x.1 0 5).toNat) ∧ 0 ≤ g' 150 (x.1 0 5).toNat ∧ g' 0 1 ≤ g' 0 0 ∧ CT n c h' a' t' v' e' ∧ (0 ≤ a' ∧ a' ≤ n) ∧ ¬ ((t' = 42 ∨ t' = 63) ∧ zw' ≠ 0) ∧ x.1 0 0 < g' 0 0) ∧
  (mi_f h' 9730 ≠ 0 → kB n c x h')
section KUN
variable {n : Int} {c : Nat → Int} {f : Int → Int} {ow : Nat → Nat} {x : ft_X} {h : sm_H} {t v e : Int}
theorem me_readUnit {D : Nat} (hD : 13 + 4 * (4 - x.1 0 5).toNat ≤ D) (hK : KS n c f ow x h) (HF : x.1 0 5 < 4 → rfo_S n c f (x.1 0 5 + 1)) (ht : CT n c h x.2.1 t v e) (hz : x.2.2.1 ≠ 0 ∨ ip_t t v) : me_E D 55 0 [some (.inr (.inr 76)), some (.inl (x.1 147 (x.1 0 5).toNat)), some (.inl (x.1 150 (x.1 0 5).toNat)), some (.inl (x.1 0 5)), none] [] h (ru_P n c f x h) := by
  obtain ⟨d, rfl⟩ : ∃ d, D = d + 13 := ⟨D - 13, by omega⟩
  obtain ⟨hx, hf0, kP, kf, kQ, kA, ⟨ka0, ka1⟩⟩ := id hK
  obtain ⟨⟨p1, p2, p3, p4, p5, p6⟩, q1, q2, q3, q4, q5, q6, q7, q8⟩ := id kP
  have ci := cs_i ht.1
  have es := ht.2.1
  have b58 := CT_p hx ht ka1
  obtain ⟨l1, l2, l3, l4, l5, l6⟩ := q1 (x.1 0 5).toNat (by omega)
  have oz : mi_in (x.1 0 5) := ⟨by omega, by omega⟩
  have oa : mi_in (x.1 147 (x.1 0 5).toNat) := ⟨by omega, by omega⟩
  have ob : mi_in (x.1 150 (x.1 0 5).toNat) := ⟨by omega, by omega⟩
  have bl : ¬ ip_t t v → ∀ h1, ab_Sh sx_sk h1 → mi_f h1 9730 = (1 : Int) → mi_f h1 9731 = mi_f h 9858 → ab_Fr [(9730, 9732)] h h1 → ru_P n c f x h (some (.inl (-1))) h1 := fun nip h1 g1 g2 g3 g4 => by
    refine ⟨⟨_, rfl⟩, g1, g4.wide (fun c hc => ab_swr_ok (by decide) hc), fun y => by omega, fun _ => ?_⟩
    exact kB_of hx.1 g2 g3 (by decide) ⟨0, x, rfl, _, _, _, _, ht.1, Or.inr (Or.inr (Or.inl ⟨nip, hz.resolve_right nip, rfl⟩))⟩
  refine mt_ruA hx.1 oa ob oz ?_ ?_ ?_
  · intro b c1
    exact bl (fun y => by have := ci.1.mpr y; omega)
  · intro b c1 c2
    exact bl (fun y => by have := ci.1.mpr y; omega)
  intro b c1 c2 h1 g1 g2
  have e0 := me_nil g2
  subst e0
  have hip : ip_t t v := ci.1.mp (by omega)
  refine ⟨_, me_otm (d := d + 10) hx ht kQ kP hip rfl, fun w h2 oww hq => ?_⟩
  obtain ⟨rfl, z, rfl, z01, hzN⟩ := hq
  refine mt_ruB (zz := z) hx.1 oa ob oz ⟨by omega, by omega⟩ ?_ ?_
  rotate_left
  · intro c3 h3 g1 g2 g3 g4
    refine ⟨⟨_, rfl⟩, g1, g4.wide (fun c hc => ab_swr_ok (by decide) hc), fun y => by omega, fun _ => ?_⟩
    exact kB_of hx.1 g2 g3 (by decide) ⟨0, x, rfl, _, _, _, _, ht.1, Or.inl ⟨hip, hzN.mp (by omega), rfl⟩⟩
  intro c3 h3 g1 g2
  have e0 := me_nil g2
  subst e0
  have hN : ¬ rp_N x.1 t v := fun y => by have := hzN.mpr y; omega
  refine ⟨_, me_readPart (D := d + 12) (by omega) hK HF ht hip hN, fun w h4 oww hq => ?_⟩
  obtain ⟨rfl, s1, s2, s3, s4⟩ := hq
  have ou : mi_in (x.1 0 0) := ⟨by omega, by omega⟩
  refine mt_ruC (zz := x.1 0 0) s1 oa ob oz ou (fun h5 g1 g2 => ?_)
  have e0 := me_nil g2
  subst e0
  have U60 : x.1 0 0 < 60 := by
    have : x.1 0 0 ≠ 60 := fun y => hN (Or.inl y)
    omega
  refine ⟨_, me_gattach (d := d + 11) s1 ou l1.1 (by omega) (by omega) (by omega), fun w h6 oww hq => ?_⟩
  obtain ⟨rfl, u1, u2, u3, u4⟩ := hq
  have F6 : ab_Fr cw_W h3 h6 := s2.trans (u2.wide (fun c hc => ab_swr_ok (by decide) hc))
  have e30 : mi_f h6 9730 = mi_f h5 9730 := me_f (c := 9730) u2 s1 rfl rfl
  have e31 : mi_f h6 9731 = mi_f h5 9731 := me_f (c := 9731) u2 s1 rfl rfl
  by_cases cf : mi_f h5 9730 = 0
  rotate_left
  · refine mt_ruD u1 oa ob oz ou ?_ ?_ ?_ ?_ ?_ ?_ ?_ ?_
    · intro b y h7 g1 g2
      have e0 := me_nil g2
      subst e0
      refine ⟨⟨_, rfl⟩, u1, F6, fun q => absurd q y, fun _ => ?_⟩
      exact kB_eq e30 e31 (s4 cf)
    all_goals
      intro b b2 y
      exact absurd (e30.symm.trans y) cf
  obtain ⟨x5, ow', gb, a', t', v', e', j, y1, y2, y3, y4, y5, y6, y7, y8, y9, y10, ⟨ya0, ya1⟩, y11, y12⟩ := s3 cf
  obtain ⟨r1, r2, r3, r4, r5, r6⟩ := y8
  obtain ⟨w1, w2, w3, w4, w5⟩ := r4 (x.1 0 5).toNat (by omega)
  have PP := PI_put (g := gb) (by rw [r1]; exact y2) y3 (by rw [r1]; exact y4) (by rw [r1]; exact y5)
  rw [r1] at PP
  have QQ : CQ f (ow_put gb ow' (x.1 0 0)) (rf_put gb (x.1 0 0)) h6 := CQ_put (g := gb) y7 s1 (by rw [r1]; exact y2) y3 u2 (by rw [r1, w4, w2]; exact u3) (by rw [r1, w4]; exact u4)
  have x6 := CX_fr x5 u1 u2 (by decide)
  have ht6 := CT_fr y10 s1 u2 (by decide)
  have f6 : mi_f h6 9730 = 0 := e30.trans cf
  obtain ⟨g1, hg1⟩ : ∃ g1, g1 = rf_put gb (x.1 0 0) := ⟨_, rfl⟩
  rw [← hg1] at PP QQ y1
  have a0 : ∀ i, g1 0 i = gb 0 i := fun i => by rw [hg1]; rfl
  have a149 : g1 149 (x.1 0 5).toNat = if x.1 151 (x.1 0 5).toNat = 0 then x.1 0 0 else x.1 149 (x.1 0 5).toNat := by
    rw [hg1]
    show (if gb 151 (gb 0 5).toNat = 0 ∧ (x.1 0 5).toNat = (gb 0 5).toNat then x.1 0 0 else gb 149 (x.1 0 5).toNat) = _
    rw [r1, w5, w3]
    by_cases cc : x.1 151 (x.1 0 5).toNat = 0
    · rw [if_pos ⟨cc, rfl⟩, if_pos cc]
    · rw [if_neg (fun q => cc q.1), if_neg cc]
  have a150 : g1 150 (x.1 0 5).toNat = x.1 0 0 := by
    rw [hg1]
    show (if (x.1 0 5).toNat = (gb 0 5).toNat then x.1 0 0 else gb 150 (x.1 0 5).toNat) = _
    rw [r1, if_pos rfl]
  have a151 : g1 151 (x.1 0 5).toNat = 0 := by
    rw [hg1]
    show (if (x.1 0 5).toNat = (gb 0 5).toNat then 0 else gb 151 (x.1 0 5).toNat) = _
    rw [r1, if_pos rfl]
  have a147 : ∀ i, g1 147 i = gb 147 i := fun i => by rw [hg1]; rfl
  have a130 : ∀ i, g1 130 i = gb 130 i := fun i => by rw [hg1]; rfl
  have a114 : ∀ i, g1 114 i = gb 114 i := fun i => by rw [hg1]; rfl
  have KK : KL (x.1 0 5) (x.1 0 5) x.1 g1 := by
    refine ⟨(a0 5).trans r1, (a0 3).trans r2, by rw [a0]; exact r3, fun i hi => ?_, fun i hi => ?_, ?_⟩
    · obtain ⟨i1, i2, i3, i4, i5⟩ := r4 i (by omega)
      rw [hg1]
      show gb 146 i = _ ∧ gb 147 i = _ ∧ (if gb 151 (gb 0 5).toNat = 0 ∧ i = (gb 0 5).toNat then x.1 0 0 else gb 149 i) = _ ∧ (if i = (gb 0 5).toNat then x.1 0 0 else gb 150 i) = _ ∧ (if i = (gb 0 5).toNat then 0 else gb 151 i) = _
      rw [if_neg (fun q => by omega), if_neg (by omega), if_neg (by omega)]
      exact ⟨i1, i2, i3, i4, i5⟩
    · rw [hg1]
      exact r5 i hi
    · rw [hg1]
      exact r6
  have I1 : FI f g1 := FI_cg y6 (a0 2) (a0 3) a114
  have hp : ft_p x.1 ≠ 0 → 0 ≤ g1 149 (x.1 0 5).toNat ∧ g1 150 (x.1 0 5).toNat = g1 149 (x.1 0 5).toNat := fun q => by
    unfold ft_p at q
    by_cases cc : x.1 151 (x.1 0 5).toNat = 0
    · rw [a149, a150, if_pos cc]
      omega
    · rw [if_neg cc] at q
      exact absurd rfl q
  have K31 : K3 x.1 g1 := ⟨by rw [a0]; exact y12.1, fun y hy => by rw [a130]; exact y12.2 y hy⟩
  clear hg1
  have ci6 := cs_i ht6.1
  have es6 := ht6.2.1
  have i42 := ci6.2.2.2.2.2.2.2.1 42 (by decide)
  have i63 := ci6.2.2.2.2.2.2.2.1 63 (by decide)
  /- it is repeated -/
  have wr : ∀ {h7 : sm_H} {zr : Int}, (t' = 42 ∨ t' = 63) → (zr = if t' = 42 then 1 else 2) → ab_Sh sx_sk h7 → (∀ i, mi_a h7 72 i = if i = (x.1 0 0).toNat then zr + 4 else mi_a h6 72 i) → (∀ i, mi_a h7 73 i = if i = (x.1 0 0).toNat then mi_f h6 9858 else mi_a h6 73 i) → ab_Fr [(9216, 9217), (9344, 9345)] h6 h7 → ∃ Q1, me_E (d + 12) 18 0 (mi_entry 2 [.inr (.inr 77)]) [] h7 Q1 ∧ ∀ w h2, (∀ x, w = some x → mi_ok x) → Q1 w h2 → me_E (d + 13) 55 151 [some (.inr (.inr 76)), some (.inl (x.1 147 (x.1 0 5).toNat)), some (.inl (x.1 150 (x.1 0 5).toNat)), some (.inl (x.1 0 5)), some (.inl (x.1 0 0))] (mi_back w []) h2 (ru_P n c f x h3) := fun {h7 zr} ct cz v1 v2 v3 v4 => by
    have x7 := CX_fr x6 v1 v4 (by decide)
    have ht7 := CT_fr ht6 u1 v4 (by decide)
    have zr0 : zr ≠ 0 := by
      rw [cz]
      split <;> decide
    have Q7 := CQ_wrap (u := x.1 0 0) (w := zr) (p := mi_f h6 9858) QQ u1 v4 zr0 v2 v3
    have c12 : cs_t t' v' ≠ 12 := by
      rcases ct with q | q
      · have := i42.mpr q; omega
      · have := i63.mpr q; omega
    refine ⟨_, me_adv (d := d + 2) x7 ht7 ya1 (by omega) (by omega) c12, fun w h8 oww hq => ?_⟩
    obtain ⟨rfl, x8, F8, en8, ae8, t8, v8, e8, ht8⟩ := hq
    have Q8 := CQ_fr Q7 v1 F8 (by decide)
    have f8 : mi_f h8 9730 = 0 := ((me_f (c := 9730) F8 v1 rfl rfl).trans (me_f (c := 9730) v4 u1 rfl rfl)).trans f6
    refine mt_ruE x8.1 oa ob oz ou (fun h9 g1' g2' => ?_)
    have e0 := me_nil g2'
    subst e0
    obtain ⟨g2, hg2⟩ : ∃ g2, g2 = rf_wrap g1 (x.1 0 0) zr (mi_f h6 9858) := ⟨_, rfl⟩
    have b : ∀ r, r ≠ 122 → r ≠ 123 → g2 r = g1 r := fun r hr1 hr2 => by
      rw [hg2]
      funext i
      unfold rf_wrap
      rw [if_neg hr1, if_neg hr2]
    have TW : ft_T n c (g1, a', 0, 1, ft_p x.1) (g2, e', 0, 0, ft_p x.1) := by
      refine ⟨_, _, _, _, ht6.1, Or.inr ⟨fun q => by unfold ip_t at q; omega, rfl, Or.inl ⟨ct, by show (1 : Int) ≠ 0; decide, ?_⟩⟩⟩
      show _ = (rf_wrap g1 (g1 150 (g1 0 5).toNat) (if t' = 42 then 1 else 2) (mi_f h6 9858), e', 0, 0, ft_p x.1)
      rw [hg2, a0, r1, a150, cz]
    rw [← hg2] at Q8
    clear hg2
    refine ⟨⟨_, rfl⟩, x8.1, (F6.trans (v4.wide (fun c hc => ab_swr_ok (by decide) hc))).trans (F8.wide (fun c hc => ab_swr_ok (by decide) hc)), fun _ => ⟨x8, ow_put gb ow' (x.1 0 0), g2, e', 0, t8, v8, e8, j + 1, ?_, ft_snoc j x y1 TW, ?_, ?_, Q8, ?_, ?_, ?_, ?_, ?_, ?_, ?_, ht8, ⟨by omega, en8⟩, fun q => q.2 rfl, ?_⟩, fun q => absurd f8 q⟩
    · rw [b 150 (by decide) (by decide), a150]
    · exact PI_cg PP (by rw [b 0 (by decide) (by decide)]; exact ⟨rfl, rfl, rfl, rfl, rfl⟩) (by rw [b 0 (by decide) (by decide)]; exact PP.1.2.2.2.2.1) (fun r hr i => by rw [b r (by intro q; rw [q] at hr; revert hr; decide) (by intro q; rw [q] at hr; revert hr; decide)])
    · exact FI_cg I1 (by rw [b 0 (by decide) (by decide)]) (by rw [b 0 (by decide) (by decide)]) (fun i => by rw [b 114 (by decide) (by decide)])
    · unfold KL at KK ⊢
      rw [b 0 (by decide) (by decide), b 146 (by decide) (by decide), b 147 (by decide) (by decide), b 148 (by decide) (by decide), b 149 (by decide) (by decide), b 150 (by decide) (by decide), b 151 (by decide) (by decide)]
      exact KK
    · unfold K3 at K31 ⊢
      rw [b 0 (by decide) (by decide), b 130 (by decide) (by decide)]
      exact K31
    · rw [b 147 (by decide) (by decide), a147, w2]
    · rw [b 151 (by decide) (by decide), a151]
    · rw [b 149 (by decide) (by decide), b 150 (by decide) (by decide)]; exact hp
    · rw [b 150 (by decide) (by decide), a150]; omega
    · rw [b 0 (by decide) (by decide), a0, a0]; exact y9
    · rw [b 0 (by decide) (by decide), a0]; exact y11
  refine mt_ruD u1 oa ob oz ou ?_ ?_ ?_ ?_ ?_ ?_ ?_ ?_
  · intro b y; exact absurd f6 y
  · intro b b2 z1 z2 z3; exfalso; omega
  · intro b b2 z1 z2 z3 z4; exfalso; omega
  · intro b b2 z1 z2 z3 z4
    have t42 := i42.mp (by omega)
    exact ⟨⟨by omega, by omega⟩, fun h7 v1 v2 v3 v4 => wr (zr := 1) (Or.inl t42) (by rw [if_pos t42]) v1 v2 v3 v4⟩
  · intro b b2 z1 z2 z3 h7 g1' g2'
    have e0 := me_nil g2'
    subst e0
    refine ⟨⟨_, rfl⟩, u1, F6, fun _ => ⟨x6, ow_put gb ow' (x.1 0 0), g1, a', 1, t', v', e', j, by rw [a150], y1, PP, I1, QQ, KK, K31, by rw [a147, w2], a151, hp, by rw [a150]; omega, by rw [a0, a0]; exact y9, ht6, ⟨ya0, ya1⟩, fun q => ?_, by rw [a0]; exact y11⟩, fun q => absurd f6 q⟩
    rcases q.1 with q | q
    · have := i42.mpr q; omega
    · have := i63.mpr q; omega
  · intro b b2 z1 z2 z3 z4; exfalso; omega
  · intro b b2 z1 z2 z3 z4 z5; exfalso; omega
  · intro b b2 z1 z2 z3 z4 z5
    have t63 := i63.mp (by omega)
    have n42 : t' ≠ 42 := by omega
    exact ⟨⟨by omega, by omega⟩, fun h7 v1 v2 v3 v4 => wr (zr := 2) (Or.inr t63) (by rw [if_neg n42]) v1 v2 v3 v4⟩
end KUN
