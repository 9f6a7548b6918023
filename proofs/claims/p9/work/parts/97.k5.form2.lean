/-! the class's readForm does the same turns, at every level -/
/-- at readForm's loop, before an alternative is begun -/
def rf_H (n : Int) (c : Nat → Int) (f : Int → Int) (k : Int) (g : wk_g) (a : Int) (h0 h : sm_H) (zf zb zl zn : Int) : Prop :=
  ab_Fr cw_W h0 h ∧ CX n c h ∧ mi_f h 9730 = 0 ∧ ∃ (ow : Nat → Nat) (gp : wk_g) (p a1 zw zp t v e m : Int) (j : Nat), ft_Tr n c j (rf_beg g 0, a, 1, 0, 0) (rf_beg gp p, a1, 1, zw, zp) ∧ PI ow gp m ∧ k - 1 ≤ m ∧ FI f gp ∧ CQ f ow gp h ∧ gp 0 5 = k ∧ KL k k g gp ∧ K3x k g gp ∧ f (gp 146 k.toNat) = zf ∧ gp 130 (gp 146 k.toNat).toNat = zn - 1 ∧ (zl = if zn = 1 then -1 else gp 147 k.toNat) ∧ (zn ≠ 1 → 0 ≤ gp 147 k.toNat ∧ gp 147 k.toNat < gp 0 1) ∧ (p ≠ 0 → zb = p) ∧ gp 0 1 ≤ gp 0 0 ∧ CT n c h a1 t v e ∧ (0 ≤ a1 ∧ a1 ≤ n) ∧ swN gp k
section KFO
variable {n : Int} {c : Nat → Int} {f : Int → Int} {k : Int} {g : wk_g} {a : Int} {h0 : sm_H}
theorem rf_loop {d : Nat} {zf : Int} (hd : 4 * (4 - k).toNat ≤ d) (k01 : 0 ≤ k ∧ k ≤ 4) (of : mi_in zf) (HF : k < 4 → rfo_S n c f (k + 1)) : ∀ (N : Nat) (zm zb zl zn : Int) (h : sm_H), 8 - zn < N → 1 ≤ zn → zn ≤ 7 → mi_in zm → mi_in zb → mi_in zl → ab_Sh sx_sk h → ((zm = 0 ∨ 6 < zn) → rfo_Q n c f k g a h0 none h) → (zm ≠ 0 → zn ≤ 6 → rf_H n c f k g a h0 h zf zb zl zn) → me_E (d + 15) 52 33 [some (.inr (.inr 76)), some (.inl zf), some (.inl k), some (.inl zm), some (.inl zb), some (.inl zl), some (.inl zn)] [] h (rfo_Q n c f k g a h0) := by
  intro N
  induction N with
  | zero => intro zm zb zl zn h hN z0 z1; exfalso; omega
  | succ N ih =>
    intro zm zb zl zn h hN z0 z1 om ob ol hS h1 h2
    have oz : mi_in k := ⟨by omega, by omega⟩
    have on : mi_in zn := ⟨by omega, by omega⟩
    refine mt_rfB hS of oz om ob ol on ?_ ?_ ?_
    · intro c1 h3 g1 g2
      have e0 := me_nil g2
      subst e0
      exact h1 (Or.inl c1)
    · intro c1 c2 h3 g1 g2
      have e0 := me_nil g2
      subst e0
      exact h1 (Or.inr c2)
    intro c1 c2 h3 g1 g2
    have e0 := me_nil g2
    subst e0
    obtain ⟨F0, hx, hf0, ow, gp, p, a1, zw, zp, t, v, e, m, j, y1, y2, y3, y4, y5, y6, y7, y7x, y8, y9, y10, y11, y12, y13, y14, ⟨y15, y16⟩, y17⟩ := h2 c1 c2
    obtain ⟨⟨p1, p2, p3, p4, p5, p6⟩, q1, q2, -⟩ := id y2
    have f01 := q2 k.toNat (by omega)
    have fb := y4.2.2.2 _ f01.1 f01.2
    rw [y8] at fb
    have e86 := y5.1.2.1
    have e64 : mi_a h3 64 zf.toNat = zn - 1 := by
      have q := (y5.2.2.2.2.1 (gp 146 k.toNat).toNat (by omega)).2
      rw [Int.toNat_of_nonneg f01.1, y8, y9] at q
      exact q
    refine ⟨_, me_gaddAlternative (d := d + 13) (zf := zf) (zb := zl) (zp := zb) hS ob (by omega) (by omega) (by omega) (by omega) (by rw [y10]; split <;> omega) (by rw [y10]; split <;> omega) (by omega) (by omega), fun w h4 oww hq => ?_⟩
    obtain ⟨rfl, s1, s2, s3⟩ := hq
    have eb : zl = if gp 130 (gp 146 (gp 0 5).toNat).toNat = 0 then -1 else gp 147 (gp 0 5).toNat := by
      rw [y6, y9, y10]
      by_cases cz : zn = 1
      · rw [if_pos cz, if_pos (by omega)]
      · rw [if_neg cz, if_neg (by omega)]
    have Q4 : CQ f ow (rf_beg gp p) h4 := CQ_beg (zb := zl) (zp := zb) y5 hS y2 y4 s2 (by rw [y6, y8]; exact s3) eb (by rw [y6, y9]; exact fun q => (y11 (by omega)).1) y12 (by rw [y6]; exact y17)
    have P4 := PI_beg (p := p) y2 (by omega) (by rw [y6, y9]; omega)
    rw [y6] at P4
    have x4 := CX_fr hx s1 s2 (by decide)
    have ht4 := CT_fr y14 hS s2 (by decide)
    have f4 : mi_f h4 9730 = 0 := (me_f (c := 9730) s2 hS rfl rfl).trans hf0
    have F4 : ab_Fr cw_W h0 h4 := F0.trans (s2.wide (fun c hc => ab_swr_ok (by decide) hc))
    /- the alternative's rows -/
    obtain ⟨g4, hg4⟩ : ∃ g4, g4 = rf_beg gp p := ⟨_, rfl⟩
    rw [← hg4] at Q4 P4 y1
    have b05 : g4 0 5 = k := by rw [hg4]; exact y6
    have b03 : g4 0 3 = gp 0 3 := by rw [hg4]; rfl
    have b02 : g4 0 2 = gp 0 2 := by rw [hg4]; rfl
    have b00 : g4 0 0 = gp 0 0 := by rw [hg4]; rfl
    have b01 : g4 0 1 = gp 0 1 + 1 := by rw [hg4]; rfl
    have b114 : ∀ i, g4 114 i = gp 114 i := fun i => by rw [hg4]; rfl
    have b146 : ∀ i, g4 146 i = gp 146 i := fun i => by rw [hg4]; rfl
    have b148 : ∀ i, g4 148 i = gp 148 i := fun i => by rw [hg4]; rfl
    have b147 : ∀ i, g4 147 i = if i = k.toNat then gp 0 1 else gp 147 i := fun i => by rw [hg4, ← y6]; rfl
    have b149 : ∀ i, g4 149 i = if i = k.toNat then -1 else gp 149 i := fun i => by rw [hg4, ← y6]; rfl
    have b150 : ∀ i, g4 150 i = if i = k.toNat then -1 else gp 150 i := fun i => by rw [hg4, ← y6]; rfl
    have b151 : ∀ i, g4 151 i = if i = k.toNat then 0 else gp 151 i := fun i => by rw [hg4, ← y6]; rfl
    have b130 : ∀ i, g4 130 i = if i = (gp 146 k.toNat).toNat then gp 130 i + 1 else gp 130 i := fun i => by rw [hg4, ← y6]; rfl
    clear hg4
    have I4 : FI f g4 := FI_cg y4 b02 b03 b114
    have KB : KL k k gp g4 := by
      refine ⟨b05.trans y6.symm, b03, by omega, fun i hi => ?_, fun i hi => b148 i, b146 _⟩
      rw [b146, b147, b149, b150, b151, if_neg (by omega), if_neg (by omega), if_neg (by omega), if_neg (by omega)]
      exact ⟨rfl, rfl, rfl, rfl, rfl⟩
    have c130 : g4 130 (g4 146 k.toNat).toNat = zn := by rw [b146, b130, if_pos rfl, y9]; omega
    refine mt_rfC (zz := mi_f h3 7686) s1 of oz om ob ol on ⟨by omega, by omega⟩ (fun h5 g1 g2 => ?_)
    have e0 := me_nil g2
    subst e0
    have a147 : g4 147 k.toNat = mi_f h3 7686 := by rw [b147, if_pos rfl]; exact e86.symm
    have RI := me_readItems (x := (g4, a1, 1, zw, zp)) (D := d + 14) (by show 14 + 4 * (4 - g4 0 5).toNat ≤ _; rw [b05]; omega) (ow := ow) (h := h5) (t := t) (v := v) (e := e) (n := n) (c := c) (f := f) ⟨x4, f4, by show PI ow g4 (g4 0 5); rw [b05]; exact P4, I4, Q4, by show g4 0 1 ≤ g4 0 0 + 1; omega, ⟨y15, y16⟩⟩ (by show g4 0 5 < 4 → rfo_S n c f (g4 0 5 + 1); rw [b05]; exact HF) ht4 (by show (1 : Int) ≠ 0; decide) (by show g4 150 (g4 0 5).toNat = -1; rw [b05, b150, if_pos rfl]) (by show g4 151 (g4 0 5).toNat = 0; rw [b05, b151, if_pos rfl])
    have RI : me_E (d + 14) 54 0 [some (.inr (.inr 76)), some (.inl (g4 147 (g4 0 5).toNat)), some (.inl (g4 0 5)), none, none, none, none] [] h5 (ri_P n c f (g4, a1, 1, zw, zp) h5) := RI
    rw [b05, a147] at RI
    refine ⟨_, RI, fun w h6 oww hq => ?_⟩
    obtain ⟨rfl, u1, u2, u3, u4⟩ := hq
    have F6 : ab_Fr cw_W h0 h6 := F4.trans u2
    have oA : mi_in (mi_f h3 7686) := ⟨by omega, by omega⟩
    have b58 : mi_in (mi_f h6 9858) := by
      have := me_fb (c := 9858) u1 rfl
      exact ⟨by omega, by omega⟩
    by_cases cf : mi_f h6 9730 = 0
    rotate_left
    · refine mt_rfD u1 of oz om ob oA on ?_ (fun _ _ q => absurd q cf) (fun _ _ q => absurd q cf) (fun _ _ q => absurd q cf)
      intro b q
      refine ⟨⟨by omega, by omega⟩, fun h7 g1 g2 => ?_⟩
      have e0 := me_nil g2
      subst e0
      exact ih 0 _ _ (zn + 1) h7 (by omega) (by omega) (by omega) fm_in0 b58 oA u1 (fun _ => ⟨rfl, u1, F6, fun q => absurd q cf, fun q => kB_pre y1 (u4 q)⟩) (fun q => absurd rfl q)
    obtain ⟨x6, ow', g', a', zw', zp', t', v', e', j', w1, w2, w3, w4, w5, w6, w7, w8, w9, ⟨wa0, wa1⟩, w10, w11, w12⟩ := u3 cf
    have w2 : PI ow' g' (g4 0 5) := w2
    have w5 : KL (g4 0 5) (g4 0 5) g4 g' := w5
    have w6 : K3 g4 g' := w6
    have w7 : g' 147 (g4 0 5).toNat = g4 147 (g4 0 5).toNat := w7
    rw [b05] at w2 w5 w7
    have ci := cs_i w9.1
    have es := w9.2.1
    have i124 := ci.2.2.2.2.2.2.2.1 124 (by decide)
    obtain ⟨jj, J⟩ := ft_app w1 j _ y1
    have KX := KL_trans (KL_trans y7 KB (Int.le_refl _)) w5 (Int.le_refl _)
    have g5 : g' 0 5 = k := by rw [w5.1]; exact b05
    have g146 : g' 146 k.toNat = gp 146 k.toNat := by rw [w5.2.2.2.2.2, b146]
    have c130' : g' 130 (g' 146 k.toNat).toNat = zn := by
      rw [g146, w6.2 _ (by omega), ← b146]
      exact c130
    have g1k := y7.2.2.2.2.2
    have K3X : K3x k g g' := by
      refine ⟨Int.le_trans (Int.le_trans y7x.1 (by omega)) w6.1, fun y hy hne => ?_⟩
      have h02 := y7x.1
      rw [w6.2 y (by omega), b130, if_neg (by omega), y7x.2 y hy hne]
    have b147' := (w2.2.1 k.toNat (by omega)).1
    refine mt_rfD u1 of oz om ob oA on (fun _ q => absurd cf q) ?_ ?_ ?_
    · intro b b2 q1 q2
      refine ⟨⟨by omega, by omega⟩, fun h7 g1 g2 => ?_⟩
      have e0 := me_nil g2
      subst e0
      exact ih 0 _ _ (zn + 1) h7 (by omega) (by omega) (by omega) fm_in0 b58 oA u1 (fun _ => ⟨rfl, u1, F6, fun _ => ⟨x6, ow', g', a', zw', zp', t', v', e', jj, J, w2, w3, w4, KX, w8, w9, ⟨wa0, wa1⟩, w10, w11, w12, fun q => q2 (by rw [es]; exact i124.mpr q), K3X⟩, fun q => absurd cf q⟩) (fun q => absurd rfl q)
    · intro b b2 q1 q2 q3 h7 g1 g2
      have e0 := me_nil g2
      subst e0
      have t124 := i124.mp (by rw [← es]; exact q2)
      have c12 : cs_t t' v' ≠ 12 := by have := i124.mpr t124; omega
      refine ⟨_, me_adv (d := d + 4) x6 w9 wa1 (by omega) (by omega) c12, fun w h8 oww hq => ?_⟩
      obtain ⟨rfl, x8, F8, en8, ae8, t8, v8, e8, ht8⟩ := hq
      have f8 : mi_f h8 9730 = 0 := (me_f (c := 9730) F8 u1 rfl rfl).trans cf
      refine mt_rfE x8.1 of oz fm_in1 b58 oA on ⟨⟨by omega, by omega⟩, fun h9 g1 g2 => ?_⟩
      have e0 := me_nil g2
      subst e0
      have z151 : g' 151 (g' 0 5).toNat = 0 := PS_Tr jj _ (fun q => absurd q (show (1 : Int) ≠ 0 from by decide)) J rfl
      have TB : ft_T n c (g', a', 0, zw', zp') (rf_beg g' (mi_f h7 9858), e', 1, zw', zp') := ⟨_, _, _, _, w9.1, Or.inr ⟨w10, rfl, Or.inr (Or.inr (Or.inl ⟨t124, by show g' 130 (g' 146 (g' 0 5).toNat).toNat ≠ 6; rw [g5, c130']; exact q3, rfl⟩))⟩⟩
      refine ih 1 _ _ (zn + 1) h9 (by omega) (by omega) (by omega) fm_in1 b58 oA x8.1 (fun q => q.elim (fun q => absurd q (by decide)) (fun q => absurd (Int.le_antisymm c2 (Int.lt_add_one_iff.mp q)) q3)) (fun _ _ => ⟨F6.trans (F8.wide (fun c hc => ab_swr_ok (by decide) hc)), x8, f8, ow', g', mi_f h7 9858, e', zw', zp', t8, v8, e8, k, jj + 1, ft_snoc jj _ J TB, w2, by omega, w3, CQ_fr w4 u1 F8 (by decide), g5, KX, K3X, by rw [g146]; exact y8, by omega, ?_, fun _ => b147', fun _ => rfl, w8, ht8, ⟨by omega, en8⟩, fun q => absurd (by rw [← g5]; exact z151) q⟩)
      rw [if_neg (by omega), w7, a147]
    · intro b b2 q1 q2 q3
      refine ⟨⟨by omega, by omega⟩, fun h7 v1 v2 v3 v4 => ?_⟩
      have t124 := i124.mp (by rw [← es]; exact q2)
      refine ih 1 _ _ (zn + 1) h7 (by omega) (by omega) (by omega) fm_in1 b58 oA v1 (fun _ => ⟨rfl, v1, F6.trans (v4.wide (fun c hc => ab_swr_ok (by decide) hc)), fun q => by omega, fun _ => ?_⟩) (fun _ q => by omega)
      exact kB_of u1 v2 v3 (by decide) ⟨jj, _, J, _, _, _, _, w9.1, Or.inr (Or.inr (Or.inr (Or.inl ⟨w10, rfl, t124, by show g' 130 (g' 146 (g' 0 5).toNat).toNat = 6; rw [g5, c130']; exact q3, rfl⟩)))⟩
theorem me_readForm1 (k01 : 0 ≤ k ∧ k ≤ 4) (HF : k < 4 → rfo_S n c f (k + 1)) : rfo_S n c f k := by
  intro D ow g h zf a t v e hD hx hf0 hP hf hQ h5 hzf h130 hA ht a0 a1 hsn
  obtain ⟨d, rfl⟩ : ∃ d, D = d + 15 := ⟨D - 15, by omega⟩
  obtain ⟨⟨p1, p2, p3, p4, p5, p6⟩, q1, q2, -⟩ := id hP
  have f01 := q2 k.toNat (by omega)
  have fb := hf.2.2.2 _ f01.1 f01.2
  rw [hzf] at fb
  have of : mi_in zf := ⟨by omega, by omega⟩
  have b58 : mi_in (mi_f h 9858) := by
    have := me_fb (c := 9858) hx.1 rfl
    exact ⟨by omega, by omega⟩
  refine mt_rfA hx.1 of ⟨by omega, by omega⟩ (fun _ q => absurd hf0 q) ?_ ?_
  · intro _ _ q; exfalso; omega
  · intro b q1 q2 h1 g1 g2
    have e0 := me_nil g2
    subst e0
    exact rf_loop (by omega) k01 of HF 8 1 _ (-1) 1 h1 (by decide) (by decide) (by decide) fm_in1 b58 ⟨by decide, by decide⟩ hx.1 (fun q => by rcases q with q | q <;> omega) (fun _ _ => ⟨ab_Fr.refl, hx, hf0, ow, g, 0, a, 0, 0, t, v, e, k - 1, 0, rfl, hP, Int.le_refl _, hf, hQ, h5, KL_refl, ⟨Int.le_refl _, fun _ _ _ => rfl⟩, hzf, by rw [h130]; rfl, by rw [if_pos rfl], fun q => absurd rfl q, fun q => absurd rfl q, hA, ht, ⟨a0, a1⟩, hsn⟩)
theorem me_readForm : rfo_S n c f 0 := me_readForm1 ⟨by decide, by decide⟩ (fun _ => me_readForm1 ⟨by decide, by decide⟩ (fun _ => me_readForm1 ⟨by decide, by decide⟩ (fun _ => me_readForm1 ⟨by decide, by decide⟩ (fun _ => me_readForm1 ⟨by decide, by decide⟩ (fun q => absurd q (by decide))))))
end KFO
