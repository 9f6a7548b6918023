/-! the reference's form, exactly: the rest of a turn, the loop, its begin -/
section FXR
variable {d : Nat} {x0 : ft_X} {h0 h h1 : sm_H} {zd zw zp zm zt zb : Int} {q7 q8 : Option mi_V}
theorem x277 (hS0 : ab_Sh sx_sk h0) (hC : fx_C d x0 h0 zt) (t0 : mi_in (zt + 1)) (ot : mi_in zt) (od : mi_in zd) (ow : mi_in zw) (op : mi_in zp) (om : mi_in zm) (ob : mi_in zb) (o7 : (∀ v, q7 = some v → mi_ok v)) (o8 : (∀ v, q8 = some v → mi_ok v)) (hm : zm ≠ 0) (hs : fx_S x0 h0 h zd zw zp zt) (hip : ¬ ip_t (mi_f h 14001) (mx_l h 14004).toInt) (hd : zd = 0) (n1 : ¬ ((mi_f h 14001 = 42 ∨ mi_f h 14001 = 63) ∧ zw ≠ 0)) (n2 : ¬ (mi_f h 14001 = 126 ∧ zp ≠ 0)) : me_E (d + 12) 186 277 [some (.inr (.inr 109)), some (.inl zd), some (.inl zw), some (.inl zp), some (.inl zm), some (.inl zt), some (.inl zb), q7, q8] [] h (fx_Q x0 h0) := by
  obtain ⟨hs', lk, g, k, a, za, an, rq, tr, tk⟩ := id hs
  obtain ⟨s1, s2, s3, s4, s5, Y, z, s6⟩ := id hs'
  have q1 : fm_q zd = 1 := if_pos hd
  rw [q1] at s6
  obtain ⟨⟨l1, l2⟩, ⟨l3, l4, l5⟩, l6, l7, -⟩ := rs_lev s6 s1
  have kk := tk_f an tk
  refine mt_fmO s1 od ow op om ot ob o7 o8 ?_ ?_ ?_
  · intro b c h1 g1 g2
    have e := me_nil g2
    subst e
    exact x330 hS0 hC t0 ot od ow op om ob o7 o8 hm hs hip hd n1 n2 c
  · intro b b2 c c2
    refine ⟨⟨⟨by omega, by omega⟩, ⟨by omega, by omega⟩⟩, fun h1 g1 g2 => ?_⟩
    have e := me_nil g2
    subst e
    have cc := s6.1.2.2.2.2.2.2.2 _ l3 l5
    have bA := s6.1.2.2.2.2.1
    have bU := me_fb (c := 13963) s1 rfl
    have bR := me_fb (c := 13961) s1 rfl
    refine ⟨_, me_beginx (d := d + 11) s1 ⟨by have := s4.1; omega, by have := s4.1; omega⟩ (by omega) (by omega) l3 l4 cc (fun _ => l7), fun w h2 oww hq => ?_⟩
    obtain ⟨rfl, p1, p2, p3, p4⟩ := hq
    obtain ⟨z', r1⟩ := rs_begin s6 s1 c2 p2 p3
    have ea : mi_f h2 14000 = mi_f h1 14000 := me_f (c := 14000) p2 s1 rfl rfl
    have ef : mi_f h2 13960 = 0 := (me_f (c := 13960) p2 s1 rfl rfl).trans s3
    have at1 := s4.2.1 (by omega) (by omega)
    have ke := kk.2.2.1 (by omega) (by omega)
    refine mt_fmQ p1 od ow op om ot ob o7 o8 ⟨t0, fun h3 g1 g2 => ?_⟩
    have e := me_nil g2
    subst e
    refine hC 1 zw zp zm _ _ _ h3 fm_in1 ow op om (me_oi ob) o7 o8 (fx_run hm ⟨p1, s2.trans (p2.wide (fun c hc => ab_swr_ok (by decide) hc)), by omega, fun _ => ⟨by omega, fun x => absurd x (by decide), Y, z', r1⟩⟩ ef ⟨by omega, by omega, lc_okf lk s1 p2 (by decide), _, k + 1, RQ_beg rq s1 p2 p3 p4, ?_⟩)
    rw [ea]
    refine ft_snoc k x0 tr ⟨_, _, _, _, tk, Or.inr ⟨hip, hd, Or.inr (Or.inr (Or.inl ⟨c, ?_, rfl⟩))⟩⟩
    show g 130 (g 146 (g 0 5).toNat).toNat ≠ 6
    rw [rq.1.2.2.2.2.2, rq.2.1 146 (by decide), rq.2.1 130 (by decide)]
    exact c2
  · intro b b2 c c2
    refine ⟨⟨⟨by omega, by omega⟩, ⟨by omega, by omega⟩⟩, fun h1 g1 g2 => ?_⟩
    have e := me_nil g2
    subst e
    refine ⟨_, me_blamex (d := d + 11) s1 (by decide) (by decide) (by have := s4.1; omega) (by have := s4.1; omega) (by omega), fun w h2 oww hq => ?_⟩
    obtain ⟨rfl, t1, t2, t3⟩ := hq
    refine mt_fmP t1 od ow op om ot ob o7 o8 ⟨t0, fun h3 g1 g2 => ?_⟩
    have e := me_nil g2
    subst e
    have p0 := s4.1
    refine hC 1 zw zp zm _ _ _ h3 fm_in1 ow op om (me_oi ob) o7 o8 (fx_blm (fm_bl hs' t1 t2 (by omega)) (by omega) (fx_flt hs t3 (fun g a r1 r3 => ⟨_, _, _, _, r3, Or.inr (Or.inr (Or.inr (Or.inl ⟨hip, hd, c, ?_, rfl⟩)))⟩)))
    show g 130 (g 146 (g 0 5).toNat).toNat = 6
    rw [r1.1.2.2.2.2.2, r1.2.1 146 (by decide), r1.2.1 130 (by decide)]
    exact c2
theorem x245 (hS0 : ab_Sh sx_sk h0) (hC : fx_C d x0 h0 zt) (t0 : mi_in (zt + 1)) (ot : mi_in zt) (od : mi_in zd) (ow : mi_in zw) (op : mi_in zp) (om : mi_in zm) (ob : mi_in zb) (o7 : (∀ v, q7 = some v → mi_ok v)) (o8 : (∀ v, q8 = some v → mi_ok v)) (hm : zm ≠ 0) (hs : fx_S x0 h0 h zd zw zp zt) (hip : ¬ ip_t (mi_f h 14001) (mx_l h 14004).toInt) (hd : zd = 0) (n1 : ¬ ((mi_f h 14001 = 42 ∨ mi_f h 14001 = 63) ∧ zw ≠ 0)) : me_E (d + 12) 186 245 [some (.inr (.inr 109)), some (.inl zd), some (.inl zw), some (.inl zp), some (.inl zm), some (.inl zt), some (.inl zb), q7, q8] [] h (fx_Q x0 h0) := by
  obtain ⟨hs', lk, g, k, a, za, an, rq, tr, tk⟩ := id hs
  obtain ⟨s1, s2, s3, s4, s5, Y, z, s6⟩ := id hs'
  have q1 : fm_q zd = 1 := if_pos hd
  rw [q1] at s6
  have kk := tk_f an tk
  refine mt_fmN s1 od ow op om ot ob o7 o8 ?_ ?_ ?_
  · intro b c h1 g1 g2
    have e := me_nil g2
    subst e
    exact x277 hS0 hC t0 ot od ow op om ob o7 o8 hm hs hip hd n1 (fun x => c x.1)
  · intro b c c2 h1 g1 g2
    have e := me_nil g2
    subst e
    exact x277 hS0 hC t0 ot od ow op om ob o7 o8 hm hs hip hd n1 (fun x => x.2 c2)
  · intro b b2 c c2
    refine ⟨⟨⟨by omega, by omega⟩, t0⟩, fun h1 g1 g2 g3 => ?_⟩
    obtain ⟨x1, x2⟩ := (s5 hd).2 c2
    have r1 := rs_swap s6 s1 g3 (fun i hi => by rw [g2, if_neg hi]) x1 x2
    have ea : mi_f h1 14000 = mi_f h 14000 := me_f (c := 14000) g3 s1 rfl rfl
    have ef : mi_f h1 13960 = 0 := (me_f (c := 13960) g3 s1 rfl rfl).trans s3
    have at1 := s4.2.1 (by omega) (by omega)
    have ke := kk.2.2.1 (by omega) (by omega)
    refine hC 1 0 0 zm _ _ _ h1 fm_in1 fm_in0 fm_in0 om (me_oi ob) o7 o8 (fx_run hm ⟨g1, s2.trans (g3.wide (fun c hc => ab_swr_ok (by decide) hc)), by omega, fun _ => ⟨by omega, fun x => absurd x (by decide), Y, z, r1⟩⟩ ef ⟨by omega, by omega, lc_okf lk s1 g3 (by decide), _, k + 1, RQ_swap rq s1 g3 g2, ?_⟩)
    rw [ea]
    exact ft_snoc k x0 tr ⟨_, _, _, _, tk, Or.inr ⟨hip, hd, Or.inr (Or.inl ⟨c, c2, rfl⟩)⟩⟩
theorem x175 (hS0 : ab_Sh sx_sk h0) (hC : fx_C d x0 h0 zt) (t0 : mi_in (zt + 1)) (ot : mi_in zt) (od : mi_in zd) (ow : mi_in zw) (op : mi_in zp) (om : mi_in zm) (ob : mi_in zb) (o7 : (∀ v, q7 = some v → mi_ok v)) (o8 : (∀ v, q8 = some v → mi_ok v)) (hm : zm ≠ 0) (hs : fx_S x0 h0 h zd zw zp zt) (hip : ¬ ip_t (mi_f h 14001) (mx_l h 14004).toInt) (hd : zd = 0) : me_E (d + 12) 186 175 [some (.inr (.inr 109)), some (.inl zd), some (.inl zw), some (.inl zp), some (.inl zm), some (.inl zt), some (.inl zb), q7, q8] [] h (fx_Q x0 h0) := by
  obtain ⟨hs', lk, g, k, a, za, an, rq, tr, tk⟩ := id hs
  obtain ⟨s1, s2, s3, s4, s5, Y, z, s6⟩ := id hs'
  obtain ⟨⟨l1, l2⟩, -, -, -, -, -, l8, -⟩ := rs_lev s6 s1
  have kk := tk_f an tk
  have wr : ∀ {h1 : sm_H} {v : Int}, (mi_f h 14001 = 42 ∨ mi_f h 14001 = 63) → (v = if mi_f h 14001 = 42 then 1 else 2) → zw ≠ 0 → ab_Sh sx_sk h1 → (∀ i, mi_a h1 122 i = if i = (mi_a h 150 (mi_f h 14003).toNat).toNat then v else mi_a h 122 i) → (∀ i, mi_a h1 123 i = if i = (mi_a h 150 (mi_f h 14003).toNat).toNat then mi_f h 14002 else mi_a h 123 i) → ab_Fr [(15616, 15617), (15744, 15745)] h h1 → me_E (d + 12) 186 22 [some (.inr (.inr 109)), some (.inl zd), some (.inl 0), some (.inl zp), some (.inl zm), some (.inl (zt + 1)), some (.inl zb), some (.inl (mi_a h 150 (mi_f h 14003).toNat)), q8] [] h1 (fx_Q x0 h0) := fun {h1 v} ct cv cw g1 g2 g22 g3 => by
    have ea : mi_f h1 14000 = mi_f h 14000 := me_f (c := 14000) g3 s1 rfl rfl
    have ef : mi_f h1 13960 = 0 := (me_f (c := 13960) g3 s1 rfl rfl).trans s3
    have e3 : mi_f h1 14003 = mi_f h 14003 := me_f (c := 14003) g3 s1 rfl rfl
    have at1 := s4.2.1 (by omega) (by omega)
    have ke := kk.2.2.1 (by omega) (by omega)
    have x0' := (s5 hd).1 cw
    refine hC zd 0 zp zm _ _ _ h1 od fm_in0 op om (me_oi ob) (me_oi ⟨by omega, by omega⟩) o8 (fx_run hm ⟨g1, s2.trans (g3.wide (fun c hc => ab_swr_ok (by decide) hc)), by omega, fun _ => ⟨by omega, fun _ => ⟨fun x => absurd rfl x, fun x => ?_⟩, Y, z, rs_fr s6 s1 g3 (by decide)⟩⟩ ef ⟨by omega, by omega, lc_okf lk s1 g3 (by decide), _, k + 1, RQ_wrap rq s1 g3 g2 g22, ?_⟩)
    · rw [e3, me_a (k := 149) g3 s1 rfl rfl, me_a (k := 124) g3 s1 rfl rfl]
      exact (s5 hd).2 x
    · rw [ea]
      refine ft_snoc k x0 tr ⟨_, _, _, _, tk, Or.inr ⟨hip, hd, Or.inl ⟨ct, cw, ?_⟩⟩⟩
      show _ = (rf_wrap g (g 150 (g 0 5).toNat) (if mi_f h 14001 = 42 then 1 else 2) (mi_f h 14002), mi_f h 14000, 0, 0, zp)
      rw [rq.1.2.2.2.2.2, rq.2.1 150 (by decide), ← cv, hd]
  refine mt_fmM s1 od ow op om ot ob o7 o8 ?_ ?_ ?_ ?_ ?_
  · intro b c c2 h1 g1 g2
    have e := me_nil g2
    subst e
    exact x245 hS0 hC t0 ot od ow op om ob o7 o8 hm hs hip hd (fun x => x.2 c2)
  · intro b b2 c c2
    have x0 := (s5 hd).1 c2
    refine ⟨⟨⟨by omega, by omega⟩, ⟨by omega, by omega⟩, t0⟩, fun h1 g1 g2 g3 g4 => wr (v := 1) (Or.inl c) (by rw [if_pos c]) c2 g1 g2 g3 g4⟩
  · intro b c c2 h1 g1 g2
    have e := me_nil g2
    subst e
    exact x245 hS0 hC t0 ot od ow op om ob o7 o8 hm hs hip hd (fun x => by have := x.1; omega)
  · intro b c c2 c3 h1 g1 g2
    have e := me_nil g2
    subst e
    exact x245 hS0 hC t0 ot od ow op om ob o7 o8 hm hs hip hd (fun x => x.2 c3)
  · intro b b2 c c2 c3
    have x0 := (s5 hd).1 c3
    refine ⟨⟨⟨by omega, by omega⟩, ⟨by omega, by omega⟩, t0⟩, fun h1 g1 g2 g3 g4 => wr (v := 2) (Or.inr c2) (by rw [if_neg c]) c3 g1 g2 g3 g4⟩
theorem x159 (hS0 : ab_Sh sx_sk h0) (hC : fx_C d x0 h0 zt) (t0 : mi_in (zt + 1)) (ot : mi_in zt) (od : mi_in zd) (ow : mi_in zw) (op : mi_in zp) (om : mi_in zm) (ob : mi_in zb) (o7 : (∀ v, q7 = some v → mi_ok v)) (o8 : (∀ v, q8 = some v → mi_ok v)) (hm : zm ≠ 0) (hs : fx_S x0 h0 h zd zw zp zt) (hip : ¬ ip_t (mi_f h 14001) (mx_l h 14004).toInt) : me_E (d + 12) 186 159 [some (.inr (.inr 109)), some (.inl zd), some (.inl zw), some (.inl zp), some (.inl zm), some (.inl zt), some (.inl zb), q7, q8] [] h (fx_Q x0 h0) := by
  have hs' := hs.1
  have s1 := hs'.1
  have s4 := hs'.2.2.2.1
  have s3 := hs'.2.2.1
  refine mt_fmK s1 od ow op om ot ob o7 o8 ?_ ?_
  · intro c h1 g1 g2
    have e := me_nil g2
    subst e
    exact x175 hS0 hC t0 ot od ow op om ob o7 o8 hm hs hip c
  · intro c h1 g1 g2
    have e := me_nil g2
    subst e
    refine ⟨_, me_blamex (d := d + 11) s1 (by decide) (by decide) (by have := s4.1; omega) (by have := s4.1; omega) (by omega), fun w h2 oww hq => ?_⟩
    obtain ⟨rfl, t1, t2, t3⟩ := hq
    refine mt_fmL t1 od ow op om ot ob o7 o8 ⟨t0, fun h3 g1 g2 => ?_⟩
    have e := me_nil g2
    subst e
    have p0 := s4.1
    exact hC zd zw zp zm _ _ _ h3 od ow op om (me_oi ob) o7 o8 (fx_blm (fm_bl hs' t1 t2 (by omega)) (by omega) (fx_flt hs t3 (fun g a r1 r3 => ⟨_, _, _, _, r3, Or.inr (Or.inr (Or.inl ⟨hip, c, rfl⟩))⟩)))
theorem x46 {q6 : Option mi_V} (hS0 : ab_Sh sx_sk h0) (hC : fx_C d x0 h0 zt) (t0 : mi_in (zt + 1)) (ot : mi_in zt) (od : mi_in zd) (ow : mi_in zw) (op : mi_in zp) (om : mi_in zm) (o6 : (∀ v, q6 = some v → mi_ok v)) (o7 : (∀ v, q7 = some v → mi_ok v)) (o8 : (∀ v, q8 = some v → mi_ok v)) (hm : zm ≠ 0) (hs : fx_S x0 h0 h zd zw zp zt) : me_E (d + 12) 186 46 [some (.inr (.inr 109)), some (.inl zd), some (.inl zw), some (.inl zp), some (.inl zm), some (.inl zt), q6, q7, q8] [] h (fx_Q x0 h0) := by
  have s1 := hs.1.1
  have b3 := me_fb (c := 14003) s1 rfl
  have bb := me_ab (k := 151) (i := (mi_f h 14003).toNat) s1 rfl (by decide) (by omega)
  have ob : mi_in (mi_a h 151 (mi_f h 14003).toNat) := ⟨by omega, by omega⟩
  refine mt_fmD s1 od ow op om ot o6 o7 o8 ?_
  intro b
  refine ⟨⟨by omega, by omega⟩, fun h1 g1 g2 => ?_⟩
  have e := me_nil g2
  subst e
  refine ⟨_, me_isPartx (d := d + 10) s1, fun w h2 oww hq => ?_⟩
  obtain ⟨rfl, v, rfl, v0, v1⟩ := hq
  refine mt_fmE (zz := v) s1 od ow op om ot ob ⟨by omega, by omega⟩ o7 o8 ?_ ?_ ?_
  · intro c h3 g1 g2
    have e := me_nil g2
    subst e
    exact x159 hS0 hC t0 ot od ow op om ob o7 o8 hm hs (fun x => by have := v1.mpr x; omega)
  · intro b c c2 h3 g1 g2
    have e := me_nil g2
    subst e
    have ip := v1.mp (by omega)
    refine mt_fmF s1 od ow op om ot ob fm_in0 o8 ?_ ?_
    · intro b c3 h4 g1 g2
      have e := me_nil g2
      subst e
      exact x106 hS0 hC t0 ot od ow op om ob fm_in0 fm_in0 hm (Or.inl rfl) hs rfl ip ⟨fun x => absurd rfl x, fun x => absurd x c2⟩ ⟨fun x => absurd rfl x, fun x => absurd x.1 c3⟩
    · intro b c3 h4 g1 g2
      have e := me_nil g2
      subst e
      refine ⟨_, me_sortx (d := d + 11) s1, fun w h5 oww hq => ?_⟩
      obtain ⟨rfl, rfl⟩ := hq
      have sb := so_r_b (mx_l h5 14004).toInt
      refine mt_fmG (zz := so_r (mx_l h5 14004).toInt) s1 od ow op om ot ob fm_in0 ⟨by omega, by omega⟩ o8 ?_ ?_
      · intro c4 h6 g1 g2
        have e := me_nil g2
        subst e
        exact x106 hS0 hC t0 ot od ow op om ob fm_in0 fm_in0 hm (Or.inl rfl) hs rfl ip ⟨fun x => absurd rfl x, fun x => absurd x c2⟩ ⟨fun x => absurd rfl x, fun x => absurd x.2 c4⟩
      · intro c4 h6 g1 g2
        have e := me_nil g2
        subst e
        exact x106 hS0 hC t0 ot od ow op om ob fm_in0 fm_in1 hm (Or.inl rfl) hs rfl ip ⟨fun x => absurd rfl x, fun x => absurd x c2⟩ ⟨fun _ => ⟨c3, c4⟩, fun _ => by decide⟩
  · intro b c c2 h3 g1 g2
    have e := me_nil g2
    subst e
    have ip := v1.mp (by omega)
    refine mt_fmF s1 od ow op om ot ob fm_in1 o8 ?_ ?_
    · intro b c3 h4 g1 g2
      have e := me_nil g2
      subst e
      exact x106 hS0 hC t0 ot od ow op om ob fm_in1 fm_in0 hm (Or.inr rfl) hs rfl ip ⟨fun _ => c2, fun _ => by decide⟩ ⟨fun x => absurd rfl x, fun x => by omega⟩
    · intro b c3 h4 g1 g2
      exfalso
      omega
theorem fx_loop (hS0 : ab_Sh sx_sk h0) : ∀ (N : Nat) (zt zd zw zp zm : Int) (q6 q7 q8 : Option mi_V) (h : sm_H), 300 - zt < N → 0 ≤ zt → zt ≤ 300 → mi_in zd → mi_in zw → mi_in zp → mi_in zm → (∀ v, q6 = some v → mi_ok v) → (∀ v, q7 = some v → mi_ok v) → (∀ v, q8 = some v → mi_ok v) → fx_H x0 h0 h zd zw zp zm zt → me_E (d + 12) 186 22 [some (.inr (.inr 109)), some (.inl zd), some (.inl zw), some (.inl zp), some (.inl zm), some (.inl zt), q6, q7, q8] [] h (fx_Q x0 h0) := by
  intro N
  induction N with
  | zero => intro zt zd zw zp zm q6 q7 q8 h hN t0 t1; exfalso; omega
  | succ N ih =>
    intro zt zd zw zp zm q6 q7 q8 h hN t0 t1 od ow op om o6 o7 o8 hH
    obtain ⟨⟨s1, s2, s3, s4⟩, hG, hD, hB⟩ := id hH
    have ot : mi_in zt := ⟨by omega, by omega⟩
    have bn := me_fb (c := 13953) hS0 rfl
    have fin : (mi_f h 13960 = 0 → zm ≠ 0 → False) → ∀ h1, ab_Sh sx_sk h1 → ab_Fr [] h h1 → fx_Q x0 h0 none h1 := fun no h1 g1 g2 => by
      have e := me_nil g2
      subst e
      refine ⟨⟨rfl, s1, s2, s3, fun x => ?_⟩, fun x => ?_, hB⟩
      · obtain ⟨y1, y2, Y, z, y3⟩ := s4 x
        exact ⟨y1, Y, z, rs_weak y3.1 fm_q0⟩
      · by_cases c : zm = 0
        · exact hD x c
        · exact (no x c).elim
    refine mt_fmC s1 od ow op om ot o6 o7 o8 ?_ ?_ ?_ ?_
    · intro c
      refine fin (fun x y => ?_)
      obtain ⟨y1, y2, -⟩ := hG x y
      omega
    · intro c c2
      exact fin (fun x y => y c2)
    · intro b c c2 c3
      exact fin (fun x y => c3 x)
    · intro b c c2 c3 h1 g1 g2
      have e := me_nil g2
      subst e
      obtain ⟨y1, y2, Y, z, y3⟩ := s4 c3
      obtain ⟨w1, w2, w3, g, k, w4, w5⟩ := hG c3 c2
      have en1 : mi_f h1 13953 = mi_f h0 13953 := me_f (c := 13953) s2 hS0 rfl rfl
      have ec1 : mi_a h1 110 = mi_a h0 110 := funext (fun i => me_a (k := 110) s2 hS0 rfl rfl)
      refine ⟨_, (me_scan (d := d + 9) s1 y1).and (me_scanx (d := d + 9) s1 (by omega)), fun w h2 oww hq => ?_⟩
      obtain ⟨⟨rfl, r1, r2, r3⟩, -, -, -, r4⟩ := hq
      rw [en1, ec1] at r4
      have e3 : mi_f h2 14003 = mi_f h1 14003 := me_f (c := 14003) r2 s1 rfl rfl
      have ef : mi_f h2 13960 = 0 := (me_f (c := 13960) r2 s1 rfl rfl).trans c3
      refine x46 (zt := zt) hS0 (fun zd zw zp zm q6 q7 q8 h od ow op om o6 o7 o8 hH => ih (zt + 1) zd zw zp zm q6 q7 q8 h (by omega) (by omega) (by omega) od ow op om o6 o7 o8 hH) ⟨by omega, by omega⟩ ot od ow op om o6 o7 o8 c2 ⟨⟨r1, s2.trans (r2.wide (fun c hc => ab_swr_ok (by decide) hc)), ef, r3, ?_, Y, z, rs_fr y3 s1 r2 (by decide)⟩, lc_okf w3 s1 r2 (by decide), g, k, _, w2, w1, RQ_same w4 s1 r2 (by decide), w5, r4⟩
      intro x
      rw [e3, me_a (k := 150) r2 s1 rfl rfl, me_a (k := 149) r2 s1 rfl rfl, me_a (k := 124) r2 s1 rfl rfl]
      exact y2 x
end FXR
