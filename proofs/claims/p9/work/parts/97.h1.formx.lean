/-! the reference's plus and form, exactly -/
theorem lc_okf {h h' : sm_H} {wr : List (Nat × Nat)} (hl : lc_ok h) (hS : ab_Sh sx_sk h) (hF : ab_Fr wr h h') (hw : (ab_in wr 13962 || ab_in wr 14976 || ab_in wr 15104) = false) : lc_ok h' := fun k hk => by
  simp only [Bool.or_eq_false_iff] at hw
  rw [me_f (c := 13962) hF hS rfl hw.1.1] at hk
  rw [me_a (k := 117) hF hS rfl hw.1.2, me_b (k := 118) hF hS rfl hw.2]
  exact hl k hk
theorem tx_32 {v : Int64} (v0 : 0 ≤ v.toInt) (v1 : v.toInt ≤ 100) : v.toInt32.toInt = v.toInt := by
  rw [Int64.toInt_toInt32, Int.bmod_eq_of_le (by omega) (by omega)]
def pl_X (g : wk_g) (h0 : sm_H) (_ : Option mi_V) (h' : sm_H) : Prop :=
  (mi_f h' 13960 = 0 ∧ lc_ok h' ∧ ∃ g', fp_R (mi_f h0 13953) (mi_a h0 110) g (mi_f h0 14000) g' (mi_f h' 14000) ∧ RQ g' h') ∨
  (∃ p3, fp_N (mi_f h0 13953) (mi_a h0 110) (mi_f h0 14000) p3 ∧ mi_f h' 13960 = 1 + 16 * p3)
section PLX
variable {d : Nat} {h h0 h' : sm_H} {g : wk_g}
theorem me_plusx (hS0 : ab_Sh sx_sk h0) (hq : RQ g h0) (hl : lc_ok h0) (hf : mi_f h0 13960 = 0) (ha : mi_f h0 14000 ≤ mi_f h0 13953) (hU : 1 ≤ mi_f h0 13963) : me_E (d + 9) 193 0 [some (.inr (.inr 109)), none] [] h0 (pl_X g h0) := by
  have b0 := me_fb (c := 14000) hS0 rfl
  have bn := me_fb (c := 13953) hS0 rfl
  have ok : mi_in (mi_f h0 14000) := ⟨by omega, by omega⟩
  refine mt_plA hS0 (fun h1 g1 g2 => ?_)
  have e := me_nil g2
  subst e
  refine ⟨_, me_scanx (d := d + 6) hS0 ha, fun w h2 ow hq2 => ?_⟩
  obtain ⟨rfl, q1, q2, q3⟩ := hq2
  have ef2 : mi_f h2 13960 = 0 := (me_f (c := 13960) q2 hS0 rfl rfl).trans hf
  have en2 : mi_f h2 13953 = mi_f h1 13953 := me_f (c := 13953) q2 hS0 rfl rfl
  have ec2 : mi_a h2 110 = mi_a h1 110 := funext (fun i => me_a (k := 110) q2 hS0 rfl rfl)
  have Rq2 := RQ_same hq hS0 q2 (by decide)
  have L2 := lc_okf hl hS0 q2 (by decide)
  have k3 := tk_f ha q3
  refine mt_plB q1 ok ?_ ?_
  · intro b c h3 g1 g2
    have e := me_nil g2
    subst e
    have e3 := k3.2.2.1 (by omega) (by omega)
    refine ⟨_, me_scanx (d := d + 6) q1 (by omega), fun w h4 ow hq4 => ?_⟩
    obtain ⟨rfl, r1, r2, r3⟩ := hq4
    have ef4 : mi_f h4 13960 = 0 := (me_f (c := 13960) r2 q1 rfl rfl).trans ef2
    rw [en2, ec2] at r3
    rw [c] at q3
    have Rq4 := RQ_same Rq2 q1 r2 (by decide)
    have L4 := lc_okf L2 q1 r2 (by decide)
    have k4 := tk_f (by omega) r3
    have gU : g 0 0 = mi_f h4 13963 := Rq4.1.1
    have bU := me_fb (c := 13963) r1 rfl
    have eU : mi_f h4 13963 = mi_f h1 13963 := (me_f (c := 13963) r2 q1 rfl rfl).trans (me_f (c := 13963) q2 hS0 rfl rfl)
    refine mt_plC r1 ok ?_ ?_
    · intro b c3 h5 g1 g2
      have e := me_nil g2
      subst e
      have p0 := me_fb (c := 14002) r1 rfl
      refine ⟨_, me_blamex (d := d + 8) r1 (by decide) (by decide) (by omega) (by omega) ef4, fun w h6 ow hq6 => ?_⟩
      obtain ⟨rfl, t1, t2, t3⟩ := hq6
      refine mt_plD t1 ok (fun h7 g1 g2 => ?_)
      have e := me_nil g2
      subst e
      exact Or.inr ⟨mi_f h5 14002, ⟨_, _, _, _, _, _, q3, r3, c3⟩, t3⟩
    · intro b b2 c3
      refine ⟨⟨⟨by omega, by omega⟩, ⟨by omega, by omega⟩⟩, fun h5 g1 g2 g3 => ?_⟩
      have v9 := k4.2.2.2.2.2.1 c3
      rw [c3] at r3
      refine Or.inl ⟨(me_f (c := 13960) g3 r1 rfl rfl).trans ef4, lc_okf L4 r1 g3 (by decide), rf_word g (g 0 0 - 1) (mx_l h4 14004).toInt, ⟨_, _, _, _, q3, Or.inr ⟨rfl, _, mi_f h4 14002, ?_, rfl⟩⟩, RQ_word Rq4 r1 g3 (fun i => ?_)⟩
      · rw [me_f (c := 14000) g3 r1 rfl rfl]
        exact r3
      · rw [g2, gU, tx_32 v9.1 (by omega)]
  · intro b c
    refine ⟨⟨by omega, by omega⟩, fun h3 g1 g2 g3 => ?_⟩
    exact Or.inl ⟨(me_f (c := 13960) g3 q1 rfl rfl).trans ef2, lc_okf L2 q1 g3 (by decide), g, ⟨_, _, _, _, q3, Or.inl ⟨c, rfl, g2⟩⟩, RQ_same Rq2 q1 g3 (by decide)⟩
end PLX
def fx_G (x0 : ft_X) (h0 h : sm_H) (zd zw zp zt : Int) : Prop := mi_f h 14000 ≤ mi_f h0 13953 ∧ zt ≤ mi_f h 14000 ∧ lc_ok h ∧ ∃ g k, RQ g h ∧ ft_Tr (mi_f h0 13953) (mi_a h0 110) k x0 (g, mi_f h 14000, zd, zw, zp)
def fx_D (x0 : ft_X) (h0 h : sm_H) : Prop := mi_f h 14000 ≤ mi_f h0 13953 ∧ lc_ok h ∧ ∃ y, ft_D (mi_f h0 13953) (mi_a h0 110) x0 y (mi_f h 14000) ∧ RQ y.1 h
def fx_B (x0 : ft_X) (h0 h : sm_H) : Prop := ft_B (mi_f h0 13953) (mi_a h0 110) x0 (mi_f h 13960)
/-- at the loop's head -/
def fx_H (x0 : ft_X) (h0 h : sm_H) (zd zw zp zm zt : Int) : Prop := fm_H h0 h zd zw zp ∧ (mi_f h 13960 = 0 → zm ≠ 0 → fx_G x0 h0 h zd zw zp zt) ∧ (mi_f h 13960 = 0 → zm = 0 → fx_D x0 h0 h) ∧ (mi_f h 13960 ≠ 0 → fx_B x0 h0 h)
def fx_Q (x0 : ft_X) (h0 : sm_H) (w : Option mi_V) (h' : sm_H) : Prop := fm_Q h0 w h' ∧ (mi_f h' 13960 = 0 → fx_D x0 h0 h') ∧ (mi_f h' 13960 ≠ 0 → fx_B x0 h0 h')
/-- behind a scan -/
def fx_S (x0 : ft_X) (h0 h : sm_H) (zd zw zp zt : Int) : Prop := fm_S h0 h zd zw zp ∧ lc_ok h ∧ ∃ g k a, zt ≤ a ∧ a ≤ mi_f h0 13953 ∧ RQ g h ∧ ft_Tr (mi_f h0 13953) (mi_a h0 110) k x0 (g, a, zd, zw, zp) ∧ tk_T (mi_f h0 13953) (mi_a h0 110) a (mi_f h 14001) (mx_l h 14004).toInt (mi_f h 14002) (mi_f h 14000)
def fx_C (d : Nat) (x0 : ft_X) (h0 : sm_H) (zt : Int) : Prop := ∀ (zd zw zp zm : Int) (q6 q7 q8 : Option mi_V) (h : sm_H), mi_in zd → mi_in zw → mi_in zp → mi_in zm → (∀ v, q6 = some v → mi_ok v) → (∀ v, q7 = some v → mi_ok v) → (∀ v, q8 = some v → mi_ok v) → fx_H x0 h0 h zd zw zp zm (zt + 1) → me_E (d + 12) 186 22 [some (.inr (.inr 109)), some (.inl zd), some (.inl zw), some (.inl zp), some (.inl zm), some (.inl (zt + 1)), q6, q7, q8] [] h (fx_Q x0 h0)
section FXP
variable {d : Nat} {x0 : ft_X} {h0 h h1 : sm_H} {zd zw zp zm zt zb : Int} {q7 q8 : Option mi_V}
theorem fx_run (hm : zm ≠ 0) (hH : fm_H h0 h zd zw zp) (f0 : mi_f h 13960 = 0) (hG : fx_G x0 h0 h zd zw zp zt) : fx_H x0 h0 h zd zw zp zm zt := ⟨hH, fun _ _ => hG, fun _ z => absurd z hm, fun z => absurd f0 z⟩
theorem fx_blm (hH : fm_H h0 h zd zw zp) (f0 : mi_f h 13960 ≠ 0) (hB : fx_B x0 h0 h) : fx_H x0 h0 h zd zw zp zm zt := ⟨hH, fun z => absurd z f0, fun z => absurd z f0, fun _ => hB⟩
/-- a fault told by ft_F -/
theorem fx_flt (hs : fx_S x0 h0 h zd zw zp zt) {f : Int} (e : mi_f h1 13960 = f) (hF : ∀ g a, RQ g h → tk_T (mi_f h0 13953) (mi_a h0 110) a (mi_f h 14001) (mx_l h 14004).toInt (mi_f h 14002) (mi_f h 14000) → ft_F (mi_f h0 13953) (mi_a h0 110) (g, a, zd, zw, zp) f) : fx_B x0 h0 h1 := by
  obtain ⟨-, -, g, k, a, -, -, r1, r2, r3⟩ := hs
  unfold fx_B
  rw [e]
  exact ⟨k, _, r2, hF g a r1 r3⟩
theorem x126 {zg zn : Int} (hC : fx_C d x0 h0 zt) (t0 : mi_in (zt + 1)) (ot : mi_in zt) (od : mi_in zd) (ow : mi_in zw) (op : mi_in zp) (om : mi_in zm) (ob : mi_in zb) (og : mi_in zg) (on : mi_in zn) (hm : zm ≠ 0) (hg : zg = 0 ∨ zg = 1) (hS : ab_Sh sx_sk h) (hF : ab_Fr fm_W h0 h) (hf : 0 ≤ mi_f h 13960) (hz : mi_f h 13960 = 0 → mi_f h 14000 ≤ 241 ∧ (zg ≠ 0 → ∃ Y z, rs_I h Y z 0) ∧ (zg = 0 → 0 ≤ mi_a h 150 (mi_f h 14003).toNat ∧ (zb = 0 → 0 ≤ mi_a h 149 (mi_f h 14003).toNat ∧ mi_a h 124 (mi_a h 149 (mi_f h 14003).toNat).toNat < 0) ∧ ∃ Y z, rs_I h Y z 1)) (hx : mi_f h 13960 = 0 → (zg = 1 → fx_G x0 h0 h 1 0 0 (zt + 1)) ∧ (zg = 0 → fx_G x0 h0 h 0 1 (if zb = 0 then 1 else 0) (zt + 1))) (hB : mi_f h 13960 ≠ 0 → fx_B x0 h0 h) : me_E (d + 12) 186 126 [some (.inr (.inr 109)), some (.inl zd), some (.inl zw), some (.inl zp), some (.inl zm), some (.inl zt), some (.inl zb), some (.inl zg), some (.inl zn)] [] h (fx_Q x0 h0) := by
  refine mt_fmJ hS od ow op om ot ob og on ?_ ?_ ?_
  · intro c
    refine ⟨t0, fun h1 g1 g2 => ?_⟩
    have e := me_nil g2
    subst e
    have z1 : zg = 1 := by omega
    refine hC zg 0 0 zm _ _ _ h1 og fm_in0 fm_in0 om (me_oi ob) (me_oi og) (me_oi on) ⟨⟨hS, hF, hf, fun x => ?_⟩, fun x _ => ?_, fun _ z => absurd z hm, hB⟩
    · obtain ⟨y1, y2, y3⟩ := hz x
      refine ⟨y1, fun x => absurd x c, ?_⟩
      unfold fm_q
      rw [if_neg c]
      exact y2 c
    · rw [z1]
      exact (hx x).1 z1
  · intro c cb
    refine ⟨t0, fun h1 g1 g2 => ?_⟩
    have e := me_nil g2
    subst e
    refine hC zg 1 0 zm _ _ _ h1 og fm_in1 fm_in0 om (me_oi ob) (me_oi og) (me_oi on) ⟨⟨hS, hF, hf, fun x => ?_⟩, fun x _ => ?_, fun _ z => absurd z hm, hB⟩
    · obtain ⟨y1, y2, y3⟩ := hz x
      obtain ⟨y4, y5, y6⟩ := y3 c
      refine ⟨y1, fun _ => ⟨fun _ => y4, fun x => absurd rfl x⟩, ?_⟩
      unfold fm_q
      rw [if_pos c]
      exact y6
    · have := (hx x).2 c
      rw [if_neg cb] at this
      rw [c]
      exact this
  · intro c cb
    refine ⟨t0, fun h1 g1 g2 => ?_⟩
    have e := me_nil g2
    subst e
    refine hC zg 1 1 zm _ _ _ h1 og fm_in1 fm_in1 om (me_oi ob) (me_oi og) (me_oi on) ⟨⟨hS, hF, hf, fun x => ?_⟩, fun x _ => ?_, fun _ z => absurd z hm, hB⟩
    · obtain ⟨y1, y2, y3⟩ := hz x
      obtain ⟨y4, y5, y6⟩ := y3 c
      refine ⟨y1, fun _ => ⟨fun _ => y4, fun _ => y5 cb⟩, ?_⟩
      unfold fm_q
      rw [if_pos c]
      exact y6
    · have := (hx x).2 c
      rw [if_pos cb] at this
      rw [c]
      exact this
theorem x106 {zg zn : Int} (hS0 : ab_Sh sx_sk h0) (hC : fx_C d x0 h0 zt) (t0 : mi_in (zt + 1)) (ot : mi_in zt) (od : mi_in zd) (ow : mi_in zw) (op : mi_in zp) (om : mi_in zm) (ob : mi_in zb) (og : mi_in zg) (on : mi_in zn) (hm : zm ≠ 0) (hg : zg = 0 ∨ zg = 1) (hs : fx_S x0 h0 h zd zw zp zt) (hb : zb = mi_a h 151 (mi_f h 14003).toNat) (hip : ip_t (mi_f h 14001) (mx_l h 14004).toInt) (kg : zg ≠ 0 ↔ mi_f h 14001 = 40) (kn : zn ≠ 0 ↔ (mi_f h 14001 = 1 ∧ so_r (mx_l h 14004).toInt = 1)) : me_E (d + 12) 186 106 [some (.inr (.inr 109)), some (.inl zd), some (.inl zw), some (.inl zp), some (.inl zm), some (.inl zt), some (.inl zb), some (.inl zg), some (.inl zn)] [] h (fx_Q x0 h0) := by
  obtain ⟨⟨s1, s2, s3, s4, s5, Y, z, s6⟩, lk, g, k, a, za, an, rq, tr, tk⟩ := id hs
  obtain ⟨k0, k6⟩ := ip_ne hip
  refine mt_fmH s1 od ow op om ot ob og on (fun h1 g1 g2 => ?_)
  have e := me_nil g2
  subst e
  have at1 := s4.2.1 k0 k6
  have kk := tk_f an tk
  have ke := kk.2.2.1 k0 k6
  have pT : px_T h1 := ⟨hip, fun x => by rw [x] at tk; exact tk_f3 tk, fun x => by have := kk.2.2.2.2.1 x; omega⟩
  have pv : mi_f h1 14001 = 2 → (mx_l h1 14004).toInt32.toInt = (mx_l h1 14004).toInt := fun x => by
    have := kk.2.2.2.1 x
    exact tx_32 this.1 (by omega)
  have en1 : mi_f h1 13953 = mi_f h0 13953 := me_f (c := 13953) s2 hS0 rfl rfl
  have ec1 : mi_a h1 110 = mi_a h0 110 := funext (fun i => me_a (k := 110) s2 hS0 rfl rfl)
  refine ⟨_, (me_part (d := d + 2) ⟨s6, fm_q0, s1, s4, s3⟩).and (me_partx (d := d + 2) ⟨s6, fm_q0, s1, s4, s3⟩ rq pT lk pv), fun w h2 oww hq => ?_⟩
  obtain ⟨⟨rfl, p1, p2, p3, p4⟩, -, -, px⟩ := hq
  have F2 : ab_Fr fm_W h0 h2 := s2.trans (p2.wide (fun c hc => ab_swr_ok (by decide) hc))
  have e0 : mi_f h2 14000 = mi_f h1 14000 := me_f (c := 14000) p2 s1 rfl rfl
  have on1 : mi_f h2 13960 = 0 → mi_f h2 14000 ≤ 241 ∧ (zg ≠ 0 → ∃ Y z, rs_I h2 Y z 0) ∧ (zg = 0 → 0 ≤ mi_a h2 150 (mi_f h2 14003).toNat ∧ (zb = 0 → 0 ≤ mi_a h2 149 (mi_f h2 14003).toNat ∧ mi_a h2 124 (mi_a h2 149 (mi_f h2 14003).toNat).toNat < 0) ∧ ∃ Y z, rs_I h2 Y z 1) := fun x => by
    obtain ⟨y1, y2⟩ := p4 x
    refine ⟨by omega, fun c => y1 (kg.mp c), fun c => ?_⟩
    obtain ⟨v1, v2, v3, v4, v5⟩ := y2 (fun c2 => absurd c (kg.mpr c2))
    exact ⟨v2, fun c3 => v3 (by rw [← hb]; exact c3), v5⟩
  have pp : ft_p g = if zb = 0 then 1 else 0 := by
    unfold ft_p
    rw [hb, rq.1.2.2.2.2.2, rq.2.1 151 (by decide)]
  have bad : mi_f h2 13960 ≠ 0 → fx_B x0 h0 h2 := fun x => by
    rcases px with ⟨y1, y2⟩ | ⟨y1, y2, -⟩
    · unfold fx_B
      rw [y2]
      exact ⟨k, _, tr, _, _, _, _, tk, Or.inl ⟨hip, y1, rfl⟩⟩
    · exact absurd y2 x
  have good : mi_f h2 13960 = 0 → zn = 0 → (zg = 1 → fx_G x0 h0 h2 1 0 0 (zt + 1)) ∧ (zg = 0 → fx_G x0 h0 h2 0 1 (if zb = 0 then 1 else 0) (zt + 1)) := fun x xn => by
    rcases px with ⟨y1, y2⟩ | ⟨y1, y2, y3, g', y4, y5⟩
    · have := kk.1
      have b2 := me_fb (c := 14002) s1 rfl
      omega
    · have nn : ¬ (mi_f h1 14001 = 1 ∧ so_r (mx_l h1 14004).toInt = 1) := fun z => kn.mpr z xn
      refine ⟨fun z1 => ⟨by omega, by omega, y3, g', k + 1, y5, ?_⟩, fun z0 => ⟨by omega, by omega, y3, g', k + 1, y5, ?_⟩⟩
      · rw [e0]
        exact ft_snoc k x0 tr ⟨_, _, _, _, tk, Or.inl ⟨hip, y1, g', y4, Or.inl ⟨kg.mp (by omega), rfl⟩⟩⟩
      · rw [e0, ← pp]
        exact ft_snoc k x0 tr ⟨_, _, _, _, tk, Or.inl ⟨hip, y1, g', y4, Or.inr ⟨fun z => kg.mpr z z0, g', _, fun z => absurd z nn, fun _ => ⟨rfl, rfl⟩, rfl⟩⟩⟩
  refine mt_fmI p1 od ow op om ot ob og on ?_ ?_ ?_
  · intro c h3 g1 g2
    have e := me_nil g2
    subst e
    exact x126 hC t0 ot od ow op om ob og on hm hg p1 F2 p3 on1 (fun x => good x c) bad
  · intro b c c2 h3 g1 g2
    have e := me_nil g2
    subst e
    exact x126 hC t0 ot od ow op om ob og on hm hg p1 F2 p3 on1 (fun x => absurd x c2) bad
  · intro b c c2 h3 g1 g2
    have e := me_nil g2
    subst e
    have k1 := kn.mp c
    obtain ⟨-, y2⟩ := p4 c2
    obtain ⟨v1, v2, v3, v4, Y2, z2, v5⟩ := y2 (by omega)
    rcases px with ⟨y1, y2⟩ | ⟨w1, w2, w3, g', w4, w5⟩
    · have := kk.1
      have b2 := me_fb (c := 14002) s1 rfl
      omega
    have en3 : mi_f h3 13953 = mi_f h0 13953 := me_f (c := 13953) F2 hS0 rfl rfl
    have ec3 : mi_a h3 110 = mi_a h0 110 := funext (fun i => me_a (k := 110) F2 hS0 rfl rfl)
    refine ⟨_, (me_plus (d := d + 2) v5 p1 c2 (by omega) v1 (v4 k1.1)).and (me_plusx (d := d + 2) p1 w5 w3 c2 (by omega) v1), fun w h4 oww hq => ?_⟩
    obtain ⟨⟨rfl, r1, r2, r3, r4⟩, r5⟩ := hq
    unfold pl_X at r5
    rw [en3, ec3, e0] at r5
    have e3 : mi_f h4 14003 = mi_f h3 14003 := me_f (c := 14003) r2 p1 rfl rfl
    refine x126 hC t0 ot od ow op om ob og on hm hg r1 (F2.trans (r2.wide (fun c hc => ab_swr_ok (by decide) hc))) r3 (fun x => ?_) (fun x => ?_) (fun x => ?_)
    · obtain ⟨y1, y3⟩ := r4 x
      refine ⟨y1, fun c => by have := kg.mp c; omega, fun c => ⟨?_, fun c3 => ?_, Y2, z2, y3⟩⟩
      · rw [e3, me_a (k := 150) r2 p1 rfl rfl]
        exact v2
      · rw [e3, me_a (k := 149) r2 p1 rfl rfl, me_a (k := 124) r2 p1 rfl rfl]
        exact v3 (by rw [← hb]; exact c3)
    · rcases r5 with ⟨u1, u2, g2, u3, u4⟩ | ⟨p3, u1, u2⟩
      · have ab : mi_f h1 14000 ≤ mi_f h4 14000 ∧ mi_f h4 14000 ≤ mi_f h0 13953 := by
          obtain ⟨t2, v2, p2, e2, y1, y2⟩ := u3
          have m1 := tk_f (by omega) y1
          rcases y2 with ⟨-, -, y4⟩ | ⟨y3, v3, p3, y4, -⟩
          · omega
          · have m2 := m1.2.2.1 (by omega) (by omega)
            have m3 := tk_f (by omega) y4
            have m4 := m3.2.2.1 (by omega) (by omega)
            omega
        refine ⟨fun z1 => by have := kg.mp (by omega); omega, fun z0 => ⟨by omega, by omega, u2, g2, k + 1, u4, ?_⟩⟩
        rw [← pp]
        exact ft_snoc k x0 tr ⟨_, _, _, _, tk, Or.inl ⟨hip, w1, g', w4, Or.inr ⟨fun z => kg.mpr z z0, g2, _, fun _ => u3, fun z => absurd k1 z, rfl⟩⟩⟩
      · exfalso
        obtain ⟨v2, p2, e2, t3, v3, e3, y1, y2, y3⟩ := u1
        have m1 := tk_f (by omega) y1
        have m2 := m1.2.2.1 (by omega) (by omega)
        have m3 := tk_f (by omega) y2
        have b2 := me_fb (c := 14000) s1 rfl
        omega
    · rcases r5 with ⟨u1, -⟩ | ⟨p3, u1, u2⟩
      · exact absurd u1 x
      · unfold fx_B
        rw [u2]
        exact ⟨k, _, tr, _, _, _, _, tk, Or.inr (Or.inl ⟨hip, w1, k1, p3, u1, rfl⟩)⟩
theorem x424 {m : Int} {h1 : sm_H} (hC : fx_C d x0 h0 zt) (t0 : mi_in (zt + 1)) (ot : mi_in zt) (od : mi_in zd) (ow : mi_in zw) (op : mi_in zp) (om : mi_in m) (ob : mi_in zb) (o7 : (∀ v, q7 = some v → mi_ok v)) (o8 : (∀ v, q8 = some v → mi_ok v)) (hH : fx_H x0 h0 h1 zd zw zp m (zt + 1)) : me_E (d + 12) 186 424 [some (.inr (.inr 109)), some (.inl zd), some (.inl zw), some (.inl zp), some (.inl m), some (.inl zt), some (.inl zb), q7, q8] [] h1 (fx_Q x0 h0) := by
  refine mt_fmT hH.1.1 od ow op om ot ob o7 o8 ⟨t0, fun h2 g1 g2 => ?_⟩
  have e := me_nil g2
  subst e
  exact hC zd zw zp m _ _ _ h2 od ow op om (me_oi ob) o7 o8 hH
theorem x391 {a : Int} {h1 : sm_H} (hC : fx_C d x0 h0 zt) (t0 : mi_in (zt + 1)) (ot : mi_in zt) (od : mi_in zd) (ow : mi_in zw) (op : mi_in a) (om : mi_in zm) (ob : mi_in zb) (o7 : (∀ v, q7 = some v → mi_ok v)) (o8 : (∀ v, q8 = some v → mi_ok v)) (hH : fx_H x0 h0 h1 zd 1 a zm (zt + 1)) : me_E (d + 12) 186 391 [some (.inr (.inr 109)), some (.inl zd), some (.inl zw), some (.inl a), some (.inl zm), some (.inl zt), some (.inl zb), q7, q8] [] h1 (fx_Q x0 h0) := by
  refine mt_fmS hH.1.1 od ow op om ot ob o7 o8 ⟨t0, fun h2 g1 g2 => ?_⟩
  have e := me_nil g2
  subst e
  exact hC zd 1 a zm _ _ _ h2 od fm_in1 op om (me_oi ob) o7 o8 hH
theorem x330 (hS0 : ab_Sh sx_sk h0) (hC : fx_C d x0 h0 zt) (t0 : mi_in (zt + 1)) (ot : mi_in zt) (od : mi_in zd) (ow : mi_in zw) (op : mi_in zp) (om : mi_in zm) (ob : mi_in zb) (o7 : (∀ v, q7 = some v → mi_ok v)) (o8 : (∀ v, q8 = some v → mi_ok v)) (hm : zm ≠ 0) (hs : fx_S x0 h0 h zd zw zp zt) (hip : ¬ ip_t (mi_f h 14001) (mx_l h 14004).toInt) (hd : zd = 0) (n1 : ¬ ((mi_f h 14001 = 42 ∨ mi_f h 14001 = 63) ∧ zw ≠ 0)) (n2 : ¬ (mi_f h 14001 = 126 ∧ zp ≠ 0)) (n3 : mi_f h 14001 ≠ 124) : me_E (d + 12) 186 330 [some (.inr (.inr 109)), some (.inl zd), some (.inl zw), some (.inl zp), some (.inl zm), some (.inl zt), some (.inl zb), q7, q8] [] h (fx_Q x0 h0) := by
  obtain ⟨hs', lk, g, k, a, za, an, rq, tr, tk⟩ := id hs
  obtain ⟨s1, s2, s3, s4, s5, Y, z, s6⟩ := id hs'
  have kk := tk_f an tk
  have bl : ¬ (mi_f h 14001 = 41 ∧ 0 < mi_f h 14003) → ¬ (mi_f h 14001 = 59 ∧ mi_f h 14003 ≤ 0) → ∃ Q1, me_E (d + 11) 184 0 (mi_entry 3 [.inr (.inr 109), .inl 1, .inl (mi_f h 14002)]) [] h Q1 ∧ ∀ w h2, (∀ x, w = some x → mi_ok x) → Q1 w h2 → me_E (d + 12) 186 424 [some (.inr (.inr 109)), some (.inl zd), some (.inl zw), some (.inl zp), some (.inl 0), some (.inl zt), some (.inl zb), q7, q8] (mi_back w []) h2 (fx_Q x0 h0) := fun n4 n5 => by
    refine ⟨_, me_blamex (d := d + 11) s1 (by decide) (by decide) (by have := s4.1; omega) (by have := s4.1; omega) (by omega), fun w h2 oww hq => ?_⟩
    obtain ⟨rfl, t1, t2, t3⟩ := hq
    have p0 := s4.1
    refine x424 hC t0 ot od ow op fm_in0 ob o7 o8 (fx_blm (fm_bl hs' t1 t2 (by omega)) (by omega) (fx_flt hs t3 (fun g a r1 r3 => ⟨_, _, _, _, r3, Or.inr (Or.inr (Or.inr (Or.inr ⟨hip, hd, n1, n2, n3, ?_, ?_, rfl⟩)))⟩)))
    · show ¬ (mi_f h 14001 = 41 ∧ 0 < g 0 5)
      rw [r1.1.2.2.2.2.2]
      exact n4
    · show ¬ (mi_f h 14001 = 59 ∧ g 0 5 ≤ 0)
      rw [r1.1.2.2.2.2.2]
      exact n5
  have cl : ∀ {v : Int}, mi_in v → mi_f h 14001 = 41 → 0 < mi_f h 14003 → (v = if mi_a h 151 (mi_f h 14003 - 1).toNat = 0 then 1 else 0) → ((0 ≤ mi_f h 14003 ∧ mi_f h 14003 < 6) ∧ (-2147483648 ≤ mi_f h 14003 - 1 ∧ mi_f h 14003 - 1 ≤ 2147483647) ∧ (0 ≤ mi_f h 14003 - 1 ∧ mi_f h 14003 - 1 ≤ 5) ∧ (0 ≤ mi_f h 14003 - 1 ∧ mi_f h 14003 - 1 < 6)) ∧ ∀ h1, ab_Sh sx_sk h1 → mi_f h1 14003 = mi_f h 14003 - 1 → ab_Fr [(14003, 14004)] h h1 → ∃ Q1, me_E (d + 11) 192 0 (mi_entry 2 [.inr (.inr 109), .inl (mi_a h 148 (mi_f h 14003).toNat)]) [] h1 Q1 ∧ ∀ w h2, (∀ x, w = some x → mi_ok x) → Q1 w h2 → me_E (d + 12) 186 391 [some (.inr (.inr 109)), some (.inl zd), some (.inl zw), some (.inl v), some (.inl zm), some (.inl zt), some (.inl zb), some (.inl (mi_a h 148 (mi_f h 14003).toNat)), q8] (mi_back w []) h2 (fx_Q x0 h0) := fun {v} ov c1 c2 cv => by
    have L0 := (rs_lev s6 s1).1
    refine ⟨⟨⟨by omega, by omega⟩, ⟨by omega, by omega⟩, ⟨by omega, by omega⟩, ⟨by omega, by omega⟩⟩, fun h1 g1 g2 g3 => ?_⟩
    obtain ⟨c3, c4⟩ := rs_close s6 s1 c2 g3 g2
    have L1 := rs_lev c3 g1
    obtain ⟨⟨l1, l2⟩, -, l3, l4, l5, l6, -⟩ := L1
    have u0 := c4.1
    have u1 : mi_a h 148 (mi_f h 14003).toNat < wk_u Y := c4.2.1
    have nU := s6.1.1.1.2.1
    refine ⟨_, me_put (d := d + 11) g1 u0 (by omega) (by omega) l5 l6 l4, fun w h2 oww hq => ?_⟩
    obtain ⟨rfl, p1, p2, p3⟩ := hq
    obtain ⟨r1, r2, r3⟩ := rs_put c3 g1 c4 p2 p3
    have ef : mi_f h2 13960 = 0 := ((me_f (c := 13960) p2 g1 rfl rfl).trans (me_f (c := 13960) g3 s1 rfl rfl)).trans s3
    have ea : mi_f h2 14000 = mi_f h 14000 := (me_f (c := 14000) p2 g1 rfl rfl).trans (me_f (c := 14000) g3 s1 rfl rfl)
    have at1 := s4.2.1 (by omega) (by omega)
    have ke := kk.2.2.1 (by omega) (by omega)
    have R1 := RQ_lvl (k := mi_f h 14003 - 1) rq s1 g3 g2
    have R2 := RQ_put R1 g1 p2 p3
    have g5 : g 0 5 = mi_f h 14003 := rq.1.2.2.2.2.2
    have e148 : g 148 (g 0 5).toNat = mi_a h 148 (mi_f h 14003).toNat := by rw [g5, rq.2.1 148 (by decide)]
    have e151 : g 151 (mi_f h 14003 - 1).toNat = mi_a h 151 (mi_f h 14003 - 1).toNat := rq.2.1 151 (by decide) _
    refine x391 hC t0 ot od ow ov om ob (me_oi ⟨by omega, by omega⟩) o8 (fx_run hm ⟨p1, (s2.trans (g3.wide (fun c hc => ab_swr_ok (by decide) hc))).trans (p2.wide (fun c hc => ab_swr_ok (by decide) hc)), by omega, fun _ => ⟨by omega, fun _ => ⟨fun _ => r2, fun x => r3 ?_⟩, _, _, r1⟩⟩ ef ⟨by omega, by omega, lc_okf (lc_okf lk s1 g3 (by decide)) g1 p2 (by decide), _, k + 1, R2, ?_⟩)
    · rw [g2, me_a (k := 151) g3 s1 rfl rfl]
      by_cases cz : mi_a h 151 (mi_f h 14003 - 1).toNat = 0
      · exact cz
      · rw [if_neg cz] at cv
        exact absurd cv x
    · rw [ea, hd]
      refine ft_snoc k x0 tr ⟨_, _, _, _, tk, Or.inr ⟨hip, hd, Or.inr (Or.inr (Or.inr ⟨c1, by show 0 < g 0 5; omega, ?_⟩))⟩⟩
      show _ = (rf_put (rf_lvl g (g 0 5 - 1)) (g 148 (g 0 5).toNat), mi_f h 14000, 0, 1, ft_p (rf_lvl g (g 0 5 - 1)))
      have pv : ft_p (rf_lvl g (g 0 5 - 1)) = v := by
        show (if g 151 (g 0 5 - 1).toNat = 0 then 1 else 0) = v
        rw [cv, g5, e151]
      rw [pv, e148, g5]
  refine mt_fmR s1 od ow op om ot ob o7 o8 ?_ ?_ ?_ ?_ ?_ ?_ ?_
  · intro b c1 c2 h1 g1 g2
    have e := me_nil g2
    subst e
    exact bl (fun x => c1 x.1) (fun x => c2 x.1)
  · intro b b2 c1 c2 c3
    refine ⟨t0, fun h1 g1 g2 => ?_⟩
    have e := me_nil g2
    subst e
    have at1 := s4.2.1 (by omega) (by omega)
    have ke := kk.2.2.1 (by omega) (by omega)
    refine hC zd zw zp 0 _ _ _ h1 od ow op fm_in0 (me_oi ob) o7 o8 ⟨⟨s1, s2, by omega, fun _ => ⟨at1, s5, Y, z, s6⟩⟩, fun _ x => absurd rfl x, fun _ _ => ⟨by omega, lk, _, ⟨k, tr, (mx_l h1 14004).toInt, mi_f h1 14002, ?_, hd, ?_⟩, rq⟩, fun x => absurd s3 x⟩
    · rw [c2] at tk
      exact tk
    · show g 0 5 ≤ 0
      rw [rq.1.2.2.2.2.2]
      exact c3
  · intro b b2 c1 c2 c3 h1 g1 g2
    have e := me_nil g2
    subst e
    exact bl (fun x => c1 x.1) (fun x => by omega)
  · intro b b2 c1 c2 c3 h1 g1 g2
    have e := me_nil g2
    subst e
    exact bl (fun x => by omega) (fun x => c3 x.1)
  · intro b b2 c1 c2 c3
    exfalso
    omega
  · intro b b2 c1 c2 c3
    exact cl fm_in0 c1 c2 (by rw [if_neg c3])
  · intro b b2 c1 c2 c3
    exact cl fm_in1 c1 c2 (by rw [if_pos c3])
end FXP
