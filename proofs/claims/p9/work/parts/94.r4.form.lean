/-! reading: form -/
def fm_W : List (Nat × Nat) := [(13960, 13961), (13962, 13966), (14000, 14005), (14976, 14977), (15104, 15105), (15232, 16641), (18688, 19329)]
/-- what the flags say -/
def rs_F (h : sm_H) (zd zw zp : Int) : Prop := zd = 0 → (zw ≠ 0 → 0 ≤ mi_a h 150 (mi_f h 14003).toNat) ∧ (zp ≠ 0 → 0 ≤ mi_a h 149 (mi_f h 14003).toNat ∧ mi_a h 124 (mi_a h 149 (mi_f h 14003).toNat).toNat < 0)
def fm_q (zd : Int) : Int := if zd = 0 then 1 else 0
/-- at the loop's head -/
def fm_H (h0 h : sm_H) (zd zw zp : Int) : Prop := ab_Sh sx_sk h ∧ ab_Fr fm_W h0 h ∧ 0 ≤ mi_f h 13960 ∧ (mi_f h 13960 = 0 → mi_f h 14000 ≤ 241 ∧ rs_F h zd zw zp ∧ ∃ Y z, rs_I h Y z (fm_q zd))
def fm_Q (h0 : sm_H) (w : Option mi_V) (h' : sm_H) : Prop := w = none ∧ ab_Sh sx_sk h' ∧ ab_Fr fm_W h0 h' ∧ 0 ≤ mi_f h' 13960 ∧ (mi_f h' 13960 = 0 → mi_f h' 14000 ≤ 241 ∧ ∃ Y z, rs_B h' Y z 0)
/-- behind a scan -/
def fm_S (h0 h : sm_H) (zd zw zp : Int) : Prop := ab_Sh sx_sk h ∧ ab_Fr fm_W h0 h ∧ mi_f h 13960 = 0 ∧ sn_R h ∧ rs_F h zd zw zp ∧ ∃ Y z, rs_I h Y z (fm_q zd)
def fm_C (d : Nat) (h0 : sm_H) (zt : Int) : Prop := ∀ (zd zw zp zm : Int) (q6 q7 q8 : Option mi_V) (h : sm_H), mi_in zd → mi_in zw → mi_in zp → mi_in zm → (∀ v, q6 = some v → mi_ok v) → (∀ v, q7 = some v → mi_ok v) → (∀ v, q8 = some v → mi_ok v) → fm_H h0 h zd zw zp → me_E (d + 12) 186 22 [some (.inr (.inr 109)), some (.inl zd), some (.inl zw), some (.inl zp), some (.inl zm), some (.inl (zt + 1)), q6, q7, q8] [] h (fm_Q h0)
section FMP
variable {d : Nat} {h0 h : sm_H} {zd zw zp zm zt zb : Int} {q7 q8 : Option mi_V}
theorem fm_in0 : mi_in 0 := ⟨by decide, by decide⟩
theorem fm_in1 : mi_in 1 := ⟨by decide, by decide⟩
/-- blamed: on to the head -/
theorem fm_bl {h1 : sm_H} (hs : fm_S h0 h zd zw zp) (t1 : ab_Sh sx_sk h1) (t2 : ab_Fr [(13960, 13961)] h h1) (t3 : 0 < mi_f h1 13960) {a b c : Int} : fm_H h0 h1 a b c := ⟨t1, hs.2.1.trans (t2.wide (fun c hc => ab_swr_ok (by decide) hc)), by omega, fun x => by omega⟩
theorem fm_q0 : 0 ≤ fm_q zd := by
  unfold fm_q
  split <;> decide
theorem rs_weak {Y : wk_Y} {z : rd_Z} {q : Int} (hI : rs_B h Y z q) (q0 : 0 ≤ q) : rs_B h Y z 0 := by
  obtain ⟨i1, i2, i3, i4, i5, i6, i7, i9⟩ := hI
  exact ⟨i1, i2, i3, i4, by omega, i6, i7, i9⟩
theorem f126 {zg zn : Int} (hC : fm_C d h0 zt) (t0 : mi_in (zt + 1)) (ot : mi_in zt) (od : mi_in zd) (ow : mi_in zw) (op : mi_in zp) (om : mi_in zm) (ob : mi_in zb) (og : mi_in zg) (on : mi_in zn) (hS : ab_Sh sx_sk h) (hF : ab_Fr fm_W h0 h) (hf : 0 ≤ mi_f h 13960) (hz : mi_f h 13960 = 0 → mi_f h 14000 ≤ 241 ∧ (zg ≠ 0 → ∃ Y z, rs_I h Y z 0) ∧ (zg = 0 → 0 ≤ mi_a h 150 (mi_f h 14003).toNat ∧ (zb = 0 → 0 ≤ mi_a h 149 (mi_f h 14003).toNat ∧ mi_a h 124 (mi_a h 149 (mi_f h 14003).toNat).toNat < 0) ∧ ∃ Y z, rs_I h Y z 1)) : me_E (d + 12) 186 126 [some (.inr (.inr 109)), some (.inl zd), some (.inl zw), some (.inl zp), some (.inl zm), some (.inl zt), some (.inl zb), some (.inl zg), some (.inl zn)] [] h (fm_Q h0) := by
  refine mt_fmJ hS od ow op om ot ob og on ?_ ?_ ?_
  · intro c
    refine ⟨t0, fun h1 g1 g2 => ?_⟩
    have e := me_nil g2
    subst e
    refine hC zg 0 0 zm _ _ _ h1 og fm_in0 fm_in0 om (me_oi ob) (me_oi og) (me_oi on) ⟨hS, hF, hf, fun x => ?_⟩
    obtain ⟨y1, y2, y3⟩ := hz x
    refine ⟨y1, fun x => absurd x c, ?_⟩
    unfold fm_q
    rw [if_neg c]
    exact y2 c
  · intro c cb
    refine ⟨t0, fun h1 g1 g2 => ?_⟩
    have e := me_nil g2
    subst e
    refine hC zg 1 0 zm _ _ _ h1 og fm_in1 fm_in0 om (me_oi ob) (me_oi og) (me_oi on) ⟨hS, hF, hf, fun x => ?_⟩
    obtain ⟨y1, y2, y3⟩ := hz x
    obtain ⟨y4, y5, y6⟩ := y3 c
    refine ⟨y1, fun _ => ⟨fun _ => y4, fun x => absurd rfl x⟩, ?_⟩
    unfold fm_q
    rw [if_pos c]
    exact y6
  · intro c cb
    refine ⟨t0, fun h1 g1 g2 => ?_⟩
    have e := me_nil g2
    subst e
    refine hC zg 1 1 zm _ _ _ h1 og fm_in1 fm_in1 om (me_oi ob) (me_oi og) (me_oi on) ⟨hS, hF, hf, fun x => ?_⟩
    obtain ⟨y1, y2, y3⟩ := hz x
    obtain ⟨y4, y5, y6⟩ := y3 c
    refine ⟨y1, fun _ => ⟨fun _ => y4, fun _ => y5 cb⟩, ?_⟩
    unfold fm_q
    rw [if_pos c]
    exact y6
theorem f106 {zg zn : Int} (hC : fm_C d h0 zt) (t0 : mi_in (zt + 1)) (ot : mi_in zt) (od : mi_in zd) (ow : mi_in zw) (op : mi_in zp) (om : mi_in zm) (ob : mi_in zb) (og : mi_in zg) (on : mi_in zn) (hs : fm_S h0 h zd zw zp) (hb : zb = mi_a h 151 (mi_f h 14003).toNat) (k0 : mi_f h 14001 ≠ 0) (k6 : mi_f h 14001 ≠ 6) (kg : zg ≠ 0 ↔ mi_f h 14001 = 40) (kn : zn ≠ 0 → mi_f h 14001 = 1) : me_E (d + 12) 186 106 [some (.inr (.inr 109)), some (.inl zd), some (.inl zw), some (.inl zp), some (.inl zm), some (.inl zt), some (.inl zb), some (.inl zg), some (.inl zn)] [] h (fm_Q h0) := by
  obtain ⟨s1, s2, s3, s4, s5, Y, z, s6⟩ := hs
  refine mt_fmH s1 od ow op om ot ob og on (fun h1 g1 g2 => ?_)
  have e := me_nil g2
  subst e
  have at1 := s4.2.1 k0 k6
  refine ⟨_, me_part (d := d + 2) ⟨s6, fm_q0, s1, s4, s3⟩, fun w h2 oww hq => ?_⟩
  obtain ⟨rfl, p1, p2, p3, p4⟩ := hq
  have F2 : ab_Fr fm_W h0 h2 := s2.trans (p2.wide (fun c hc => ab_swr_ok (by decide) hc))
  have e0 : mi_f h2 14000 = mi_f h1 14000 := me_f (c := 14000) p2 s1 rfl rfl
  have on1 : mi_f h2 13960 = 0 → mi_f h2 14000 ≤ 241 ∧ (zg ≠ 0 → ∃ Y z, rs_I h2 Y z 0) ∧ (zg = 0 → 0 ≤ mi_a h2 150 (mi_f h2 14003).toNat ∧ (zb = 0 → 0 ≤ mi_a h2 149 (mi_f h2 14003).toNat ∧ mi_a h2 124 (mi_a h2 149 (mi_f h2 14003).toNat).toNat < 0) ∧ ∃ Y z, rs_I h2 Y z 1) := fun x => by
    obtain ⟨y1, y2⟩ := p4 x
    refine ⟨by omega, fun c => y1 (kg.mp c), fun c => ?_⟩
    obtain ⟨v1, v2, v3, v4, v5⟩ := y2 (fun c2 => absurd c (kg.mpr c2))
    exact ⟨v2, fun c3 => v3 (by rw [← hb]; exact c3), v5⟩
  refine mt_fmI p1 od ow op om ot ob og on ?_ ?_ ?_
  · intro c h3 g1 g2
    have e := me_nil g2
    subst e
    exact f126 hC t0 ot od ow op om ob og on p1 F2 p3 on1
  · intro b c c2 h3 g1 g2
    have e := me_nil g2
    subst e
    exact f126 hC t0 ot od ow op om ob og on p1 F2 p3 on1
  · intro b c c2 h3 g1 g2
    have e := me_nil g2
    subst e
    have k1 := kn c
    obtain ⟨-, y2⟩ := p4 c2
    obtain ⟨v1, v2, v3, v4, Y2, z2, v5⟩ := y2 (by omega)
    refine ⟨_, me_plus (d := d + 2) v5 p1 c2 (by omega) v1 (v4 k1), fun w h4 oww hq => ?_⟩
    obtain ⟨rfl, r1, r2, r3, r4⟩ := hq
    have e3 : mi_f h4 14003 = mi_f h3 14003 := me_f (c := 14003) r2 p1 rfl rfl
    refine f126 hC t0 ot od ow op om ob og on r1 (F2.trans (r2.wide (fun c hc => ab_swr_ok (by decide) hc))) r3 (fun x => ?_)
    obtain ⟨y1, y3⟩ := r4 x
    refine ⟨y1, fun c => by have := kg.mp c; omega, fun c => ⟨?_, fun c3 => ?_, Y2, z2, y3⟩⟩
    · rw [e3, me_a (k := 150) r2 p1 rfl rfl]
      exact v2
    · rw [e3, me_a (k := 149) r2 p1 rfl rfl, me_a (k := 124) r2 p1 rfl rfl]
      exact v3 (by rw [← hb]; exact c3)
theorem f424 {a m : Int} {h1 : sm_H} (hC : fm_C d h0 zt) (t0 : mi_in (zt + 1)) (ot : mi_in zt) (od : mi_in zd) (ow : mi_in zw) (op : mi_in zp) (om : mi_in m) (ob : mi_in zb) (o7 : (∀ v, q7 = some v → mi_ok v)) (o8 : (∀ v, q8 = some v → mi_ok v)) (hH : fm_H h0 h1 zd zw zp) : me_E (d + 12) 186 424 [some (.inr (.inr 109)), some (.inl zd), some (.inl zw), some (.inl zp), some (.inl m), some (.inl zt), some (.inl zb), q7, q8] [] h1 (fm_Q h0) := by
  refine mt_fmT hH.1 od ow op om ot ob o7 o8 ⟨t0, fun h2 g1 g2 => ?_⟩
  have e := me_nil g2
  subst e
  exact hC zd zw zp m _ _ _ h2 od ow op om (me_oi ob) o7 o8 hH
theorem f391 {a m : Int} {h1 : sm_H} (hC : fm_C d h0 zt) (t0 : mi_in (zt + 1)) (ot : mi_in zt) (od : mi_in zd) (ow : mi_in zw) (op : mi_in a) (om : mi_in zm) (ob : mi_in zb) (o7 : (∀ v, q7 = some v → mi_ok v)) (o8 : (∀ v, q8 = some v → mi_ok v)) (hH : fm_H h0 h1 zd 1 a) : me_E (d + 12) 186 391 [some (.inr (.inr 109)), some (.inl zd), some (.inl zw), some (.inl a), some (.inl zm), some (.inl zt), some (.inl zb), q7, q8] [] h1 (fm_Q h0) := by
  refine mt_fmS hH.1 od ow op om ot ob o7 o8 ⟨t0, fun h2 g1 g2 => ?_⟩
  have e := me_nil g2
  subst e
  exact hC zd 1 a zm _ _ _ h2 od fm_in1 op om (me_oi ob) o7 o8 hH
theorem f330 (hC : fm_C d h0 zt) (t0 : mi_in (zt + 1)) (ot : mi_in zt) (od : mi_in zd) (ow : mi_in zw) (op : mi_in zp) (om : mi_in zm) (ob : mi_in zb) (o7 : (∀ v, q7 = some v → mi_ok v)) (o8 : (∀ v, q8 = some v → mi_ok v)) (hs : fm_S h0 h zd zw zp) (hd : zd = 0) : me_E (d + 12) 186 330 [some (.inr (.inr 109)), some (.inl zd), some (.inl zw), some (.inl zp), some (.inl zm), some (.inl zt), some (.inl zb), q7, q8] [] h (fm_Q h0) := by
  obtain ⟨s1, s2, s3, s4, s5, Y, z, s6⟩ := id hs
  have bl : ∃ Q1, me_E (d + 11) 184 0 (mi_entry 3 [.inr (.inr 109), .inl 1, .inl (mi_f h 14002)]) [] h Q1 ∧ ∀ w h2, (∀ x, w = some x → mi_ok x) → Q1 w h2 → me_E (d + 12) 186 424 [some (.inr (.inr 109)), some (.inl zd), some (.inl zw), some (.inl zp), some (.inl 0), some (.inl zt), some (.inl zb), q7, q8] (mi_back w []) h2 (fm_Q h0) := by
    refine ⟨_, me_blame (d := d + 11) s1 (by decide) (by decide) (by have := s4.1; omega) (by have := s4.1; omega) (by omega), fun w h2 oww hq => ?_⟩
    obtain ⟨rfl, t1, t2, t3⟩ := hq
    exact f424 (a := 0) hC t0 ot od ow op fm_in0 ob o7 o8 (fm_bl hs t1 t2 t3)
  have cl : ∀ {v : Int}, mi_in v → mi_f h 14001 = 41 → 0 < mi_f h 14003 → (v ≠ 0 → mi_a h 151 (mi_f h 14003 - 1).toNat = 0) → ((0 ≤ mi_f h 14003 ∧ mi_f h 14003 < 6) ∧ (-2147483648 ≤ mi_f h 14003 - 1 ∧ mi_f h 14003 - 1 ≤ 2147483647) ∧ (0 ≤ mi_f h 14003 - 1 ∧ mi_f h 14003 - 1 ≤ 5) ∧ (0 ≤ mi_f h 14003 - 1 ∧ mi_f h 14003 - 1 < 6)) ∧ ∀ h1, ab_Sh sx_sk h1 → mi_f h1 14003 = mi_f h 14003 - 1 → ab_Fr [(14003, 14004)] h h1 → ∃ Q1, me_E (d + 11) 192 0 (mi_entry 2 [.inr (.inr 109), .inl (mi_a h 148 (mi_f h 14003).toNat)]) [] h1 Q1 ∧ ∀ w h2, (∀ x, w = some x → mi_ok x) → Q1 w h2 → me_E (d + 12) 186 391 [some (.inr (.inr 109)), some (.inl zd), some (.inl zw), some (.inl v), some (.inl zm), some (.inl zt), some (.inl zb), some (.inl (mi_a h 148 (mi_f h 14003).toNat)), q8] (mi_back w []) h2 (fm_Q h0) := fun {v} ov c1 c2 cv => by
    have L0 := (rs_lev s6 s1).1
    refine ⟨⟨⟨by omega, by omega⟩, ⟨by omega, by omega⟩, ⟨by omega, by omega⟩, ⟨by omega, by omega⟩⟩, fun h1 g1 g2 g3 => ?_⟩
    obtain ⟨c3, c4⟩ := rs_close s6 s1 c2 g3 g2
    have L1 := rs_lev c3 g1
    obtain ⟨⟨l1, l2⟩, -, l3, l4, l5, l6, -⟩ := L1
    have u0 := c4.1
    have u1 : mi_a h 148 (mi_f h 14003).toNat < wk_u Y := c4.2.1
    have nU := s6.1.1.1.2.1
    refine ⟨_, me_put (d := d + 11) g1 u0 (by omega) (by omega) l5 l6 l4, fun w h2 oww hq => ?_⟩
    obtain ⟨rfl, p1, p2, p3⟩ := hq
    obtain ⟨r1, r2, r3⟩ := rs_put c3 g1 c4 p2 p3
    have ef : mi_f h2 13960 = 0 := ((me_f (c := 13960) p2 g1 rfl rfl).trans (me_f (c := 13960) g3 s1 rfl rfl)).trans s3
    have ea : mi_f h2 14000 = mi_f h 14000 := (me_f (c := 14000) p2 g1 rfl rfl).trans (me_f (c := 14000) g3 s1 rfl rfl)
    have at1 := s4.2.1 (by omega) (by omega)
    refine f391 (m := 0) hC t0 ot od ow ov om ob (me_oi ⟨by omega, by omega⟩) o8 ⟨p1, (s2.trans (g3.wide (fun c hc => ab_swr_ok (by decide) hc))).trans (p2.wide (fun c hc => ab_swr_ok (by decide) hc)), by omega, fun _ => ⟨by omega, fun _ => ⟨fun _ => r2, fun x => r3 ?_⟩, _, _, r1⟩⟩
    rw [g2, me_a (k := 151) g3 s1 rfl rfl]
    exact cv x
  refine mt_fmR s1 od ow op om ot ob o7 o8 ?_ ?_ ?_ ?_ ?_ ?_ ?_
  · intro b c1 c2 h1 g1 g2
    have e := me_nil g2
    subst e
    exact bl
  · intro b b2 c1 c2 c3
    refine ⟨t0, fun h1 g1 g2 => ?_⟩
    have e := me_nil g2
    subst e
    have at1 := s4.2.1 (by omega) (by omega)
    exact hC zd zw zp 0 _ _ _ h1 od ow op fm_in0 (me_oi ob) o7 o8 ⟨s1, s2, by omega, fun _ => ⟨at1, s5, Y, z, s6⟩⟩
  · intro b b2 c1 c2 c3 h1 g1 g2
    have e := me_nil g2
    subst e
    exact bl
  · intro b b2 c1 c2 c3 h1 g1 g2
    have e := me_nil g2
    subst e
    exact bl
  · intro b b2 c1 c2 c3
    exfalso
    omega
  · intro b b2 c1 c2 c3
    exact cl fm_in0 c1 c2 (fun x => absurd rfl x)
  · intro b b2 c1 c2 c3
    exact cl fm_in1 c1 c2 (fun _ => c3)
theorem f277 (hC : fm_C d h0 zt) (t0 : mi_in (zt + 1)) (ot : mi_in zt) (od : mi_in zd) (ow : mi_in zw) (op : mi_in zp) (om : mi_in zm) (ob : mi_in zb) (o7 : (∀ v, q7 = some v → mi_ok v)) (o8 : (∀ v, q8 = some v → mi_ok v)) (hs : fm_S h0 h zd zw zp) (hd : zd = 0) : me_E (d + 12) 186 277 [some (.inr (.inr 109)), some (.inl zd), some (.inl zw), some (.inl zp), some (.inl zm), some (.inl zt), some (.inl zb), q7, q8] [] h (fm_Q h0) := by
  obtain ⟨s1, s2, s3, s4, s5, Y, z, s6⟩ := id hs
  have q1 : fm_q zd = 1 := if_pos hd
  rw [q1] at s6
  obtain ⟨⟨l1, l2⟩, ⟨l3, l4, l5⟩, l6, l7, -⟩ := rs_lev s6 s1
  refine mt_fmO s1 od ow op om ot ob o7 o8 ?_ ?_ ?_
  · intro b c h1 g1 g2
    have e := me_nil g2
    subst e
    exact f330 hC t0 ot od ow op om ob o7 o8 hs hd
  · intro b b2 c c2
    refine ⟨⟨⟨by omega, by omega⟩, ⟨by omega, by omega⟩⟩, fun h1 g1 g2 => ?_⟩
    have e := me_nil g2
    subst e
    have cc := s6.1.2.2.2.2.2.2.2 _ l3 l5
    have bA := s6.1.2.2.2.2.1
    have bU := me_fb (c := 13963) s1 rfl
    have bR := me_fb (c := 13961) s1 rfl
    refine ⟨_, me_begin (d := d + 11) s1 ⟨by have := s4.1; omega, by have := s4.1; omega⟩ (by omega) (by omega) l3 l4 cc (fun _ => l7), fun w h2 oww hq => ?_⟩
    obtain ⟨rfl, p1, p2, p3⟩ := hq
    obtain ⟨z', r1⟩ := rs_begin s6 s1 c2 p2 p3
    have ea : mi_f h2 14000 = mi_f h1 14000 := me_f (c := 14000) p2 s1 rfl rfl
    have ef : mi_f h2 13960 = 0 := (me_f (c := 13960) p2 s1 rfl rfl).trans s3
    have at1 := s4.2.1 (by omega) (by omega)
    refine mt_fmQ p1 od ow op om ot ob o7 o8 ⟨t0, fun h3 g1 g2 => ?_⟩
    have e := me_nil g2
    subst e
    exact hC 1 zw zp zm _ _ _ h3 fm_in1 ow op om (me_oi ob) o7 o8 ⟨p1, s2.trans (p2.wide (fun c hc => ab_swr_ok (by decide) hc)), by omega, fun _ => ⟨by omega, fun x => absurd x (by decide), Y, z', r1⟩⟩
  · intro b b2 c c2
    refine ⟨⟨⟨by omega, by omega⟩, ⟨by omega, by omega⟩⟩, fun h1 g1 g2 => ?_⟩
    have e := me_nil g2
    subst e
    refine ⟨_, me_blame (d := d + 11) s1 (by decide) (by decide) (by have := s4.1; omega) (by have := s4.1; omega) (by omega), fun w h2 oww hq => ?_⟩
    obtain ⟨rfl, t1, t2, t3⟩ := hq
    refine mt_fmP t1 od ow op om ot ob o7 o8 ⟨t0, fun h3 g1 g2 => ?_⟩
    have e := me_nil g2
    subst e
    exact hC 1 zw zp zm _ _ _ h3 fm_in1 ow op om (me_oi ob) o7 o8 (fm_bl hs t1 t2 t3)
theorem f245 (hC : fm_C d h0 zt) (t0 : mi_in (zt + 1)) (ot : mi_in zt) (od : mi_in zd) (ow : mi_in zw) (op : mi_in zp) (om : mi_in zm) (ob : mi_in zb) (o7 : (∀ v, q7 = some v → mi_ok v)) (o8 : (∀ v, q8 = some v → mi_ok v)) (hs : fm_S h0 h zd zw zp) (hd : zd = 0) : me_E (d + 12) 186 245 [some (.inr (.inr 109)), some (.inl zd), some (.inl zw), some (.inl zp), some (.inl zm), some (.inl zt), some (.inl zb), q7, q8] [] h (fm_Q h0) := by
  obtain ⟨s1, s2, s3, s4, s5, Y, z, s6⟩ := id hs
  have q1 : fm_q zd = 1 := if_pos hd
  rw [q1] at s6
  refine mt_fmN s1 od ow op om ot ob o7 o8 ?_ ?_ ?_
  · intro b c h1 g1 g2
    have e := me_nil g2
    subst e
    exact f277 hC t0 ot od ow op om ob o7 o8 hs hd
  · intro b c c2 h1 g1 g2
    have e := me_nil g2
    subst e
    exact f277 hC t0 ot od ow op om ob o7 o8 hs hd
  · intro b b2 c c2
    refine ⟨⟨⟨by omega, by omega⟩, t0⟩, fun h1 g1 g2 g3 => ?_⟩
    obtain ⟨x1, x2⟩ := (s5 hd).2 c2
    have r1 := rs_swap s6 s1 g3 (fun i hi => by rw [g2, if_neg hi]) x1 x2
    have ea : mi_f h1 14000 = mi_f h 14000 := me_f (c := 14000) g3 s1 rfl rfl
    have ef : mi_f h1 13960 = 0 := (me_f (c := 13960) g3 s1 rfl rfl).trans s3
    have at1 := s4.2.1 (by omega) (by omega)
    exact hC 1 0 0 zm _ _ _ h1 fm_in1 fm_in0 fm_in0 om (me_oi ob) o7 o8 ⟨g1, s2.trans (g3.wide (fun c hc => ab_swr_ok (by decide) hc)), by omega, fun _ => ⟨by omega, fun x => absurd x (by decide), Y, z, r1⟩⟩
theorem f175 (hC : fm_C d h0 zt) (t0 : mi_in (zt + 1)) (ot : mi_in zt) (od : mi_in zd) (ow : mi_in zw) (op : mi_in zp) (om : mi_in zm) (ob : mi_in zb) (o7 : (∀ v, q7 = some v → mi_ok v)) (o8 : (∀ v, q8 = some v → mi_ok v)) (hs : fm_S h0 h zd zw zp) (hd : zd = 0) : me_E (d + 12) 186 175 [some (.inr (.inr 109)), some (.inl zd), some (.inl zw), some (.inl zp), some (.inl zm), some (.inl zt), some (.inl zb), q7, q8] [] h (fm_Q h0) := by
  obtain ⟨s1, s2, s3, s4, s5, Y, z, s6⟩ := id hs
  obtain ⟨⟨l1, l2⟩, -, -, -, -, -, l8, -⟩ := rs_lev s6 s1
  have wr : ∀ {h1 : sm_H}, mi_f h 14001 ≠ 0 → mi_f h 14001 ≠ 6 → zw ≠ 0 → ab_Sh sx_sk h1 → ab_Fr [(15616, 15617), (15744, 15745)] h h1 → me_E (d + 12) 186 22 [some (.inr (.inr 109)), some (.inl zd), some (.inl 0), some (.inl zp), some (.inl zm), some (.inl (zt + 1)), some (.inl zb), some (.inl (mi_a h 150 (mi_f h 14003).toNat)), q8] [] h1 (fm_Q h0) := fun {h1} c0 c6 cw g1 g3 => by
    have ea : mi_f h1 14000 = mi_f h 14000 := me_f (c := 14000) g3 s1 rfl rfl
    have ef : mi_f h1 13960 = 0 := (me_f (c := 13960) g3 s1 rfl rfl).trans s3
    have e3 : mi_f h1 14003 = mi_f h 14003 := me_f (c := 14003) g3 s1 rfl rfl
    have at1 := s4.2.1 c0 c6
    have x0 := (s5 hd).1 cw
    refine hC zd 0 zp zm _ _ _ h1 od fm_in0 op om (me_oi ob) (me_oi ⟨by omega, by omega⟩) o8 ⟨g1, s2.trans (g3.wide (fun c hc => ab_swr_ok (by decide) hc)), by omega, fun _ => ⟨by omega, fun _ => ⟨fun x => absurd rfl x, fun x => ?_⟩, Y, z, rs_fr s6 s1 g3 (by decide)⟩⟩
    rw [e3, me_a (k := 149) g3 s1 rfl rfl, me_a (k := 124) g3 s1 rfl rfl]
    exact (s5 hd).2 x
  refine mt_fmM s1 od ow op om ot ob o7 o8 ?_ ?_ ?_ ?_ ?_
  · intro b c c2 h1 g1 g2
    have e := me_nil g2
    subst e
    exact f245 hC t0 ot od ow op om ob o7 o8 hs hd
  · intro b b2 c c2
    have x0 := (s5 hd).1 c2
    refine ⟨⟨⟨by omega, by omega⟩, ⟨by omega, by omega⟩, t0⟩, fun h1 g1 g2 g3 g4 => wr (by omega) (by omega) c2 g1 g4⟩
  · intro b c c2 h1 g1 g2
    have e := me_nil g2
    subst e
    exact f245 hC t0 ot od ow op om ob o7 o8 hs hd
  · intro b c c2 c3 h1 g1 g2
    have e := me_nil g2
    subst e
    exact f245 hC t0 ot od ow op om ob o7 o8 hs hd
  · intro b b2 c c2 c3
    have x0 := (s5 hd).1 c3
    refine ⟨⟨⟨by omega, by omega⟩, ⟨by omega, by omega⟩, t0⟩, fun h1 g1 g2 g3 g4 => wr (by omega) (by omega) c3 g1 g4⟩
theorem f159 (hC : fm_C d h0 zt) (t0 : mi_in (zt + 1)) (ot : mi_in zt) (od : mi_in zd) (ow : mi_in zw) (op : mi_in zp) (om : mi_in zm) (ob : mi_in zb) (o7 : (∀ v, q7 = some v → mi_ok v)) (o8 : (∀ v, q8 = some v → mi_ok v)) (hs : fm_S h0 h zd zw zp) : me_E (d + 12) 186 159 [some (.inr (.inr 109)), some (.inl zd), some (.inl zw), some (.inl zp), some (.inl zm), some (.inl zt), some (.inl zb), q7, q8] [] h (fm_Q h0) := by
  have s1 := hs.1
  have s4 := hs.2.2.2.1
  have s3 := hs.2.2.1
  refine mt_fmK s1 od ow op om ot ob o7 o8 ?_ ?_
  · intro c h1 g1 g2
    have e := me_nil g2
    subst e
    exact f175 hC t0 ot od ow op om ob o7 o8 hs c
  · intro c h1 g1 g2
    have e := me_nil g2
    subst e
    refine ⟨_, me_blame (d := d + 11) s1 (by decide) (by decide) (by have := s4.1; omega) (by have := s4.1; omega) (by omega), fun w h2 oww hq => ?_⟩
    obtain ⟨rfl, t1, t2, t3⟩ := hq
    refine mt_fmL t1 od ow op om ot ob o7 o8 ⟨t0, fun h3 g1 g2 => ?_⟩
    have e := me_nil g2
    subst e
    exact hC zd zw zp zm _ _ _ h3 od ow op om (me_oi ob) o7 o8 (fm_bl hs t1 t2 t3)
theorem f46 {q6 : Option mi_V} (hC : fm_C d h0 zt) (t0 : mi_in (zt + 1)) (ot : mi_in zt) (od : mi_in zd) (ow : mi_in zw) (op : mi_in zp) (om : mi_in zm) (o6 : (∀ v, q6 = some v → mi_ok v)) (o7 : (∀ v, q7 = some v → mi_ok v)) (o8 : (∀ v, q8 = some v → mi_ok v)) (hs : fm_S h0 h zd zw zp) : me_E (d + 12) 186 46 [some (.inr (.inr 109)), some (.inl zd), some (.inl zw), some (.inl zp), some (.inl zm), some (.inl zt), q6, q7, q8] [] h (fm_Q h0) := by
  have s1 := hs.1
  have b3 := me_fb (c := 14003) s1 rfl
  have bb := me_ab (k := 151) (i := (mi_f h 14003).toNat) s1 rfl (by decide) (by omega)
  have ob : mi_in (mi_a h 151 (mi_f h 14003).toNat) := ⟨by omega, by omega⟩
  refine mt_fmD s1 od ow op om ot o6 o7 o8 ?_
  intro b
  refine ⟨⟨by omega, by omega⟩, fun h1 g1 g2 => ?_⟩
  have e := me_nil g2
  subst e
  refine ⟨_, me_isPart (d := d + 10) s1, fun w h2 oww hq => ?_⟩
  obtain ⟨rfl, v, rfl, v0, v1, v2⟩ := hq
  refine mt_fmE (zz := v) s1 od ow op om ot ob ⟨by omega, by omega⟩ o7 o8 ?_ ?_ ?_
  · intro c h3 g1 g2
    have e := me_nil g2
    subst e
    exact f159 hC t0 ot od ow op om ob o7 o8 hs
  · intro b c c2 h3 g1 g2
    have e := me_nil g2
    subst e
    obtain ⟨k0, k6⟩ := v2 c
    refine mt_fmF s1 od ow op om ot ob fm_in0 o8 ?_ ?_
    · intro b c3 h4 g1 g2
      have e := me_nil g2
      subst e
      exact f106 hC t0 ot od ow op om ob fm_in0 fm_in0 hs rfl k0 k6 ⟨fun x => absurd rfl x, fun x => absurd x c2⟩ (fun x => absurd rfl x)
    · intro b c3 h4 g1 g2
      have e := me_nil g2
      subst e
      refine ⟨_, me_sortOf (d := d + 11) s1, fun w h5 oww hq => ?_⟩
      obtain ⟨rfl, y, rfl, y0, y1⟩ := hq
      refine mt_fmG (zz := y) s1 od ow op om ot ob fm_in0 ⟨by omega, by omega⟩ o8 ?_ ?_
      · intro c4 h6 g1 g2
        have e := me_nil g2
        subst e
        exact f106 hC t0 ot od ow op om ob fm_in0 fm_in0 hs rfl k0 k6 ⟨fun x => absurd rfl x, fun x => absurd x c2⟩ (fun x => absurd rfl x)
      · intro c4 h6 g1 g2
        have e := me_nil g2
        subst e
        exact f106 hC t0 ot od ow op om ob fm_in0 fm_in1 hs rfl k0 k6 ⟨fun x => absurd rfl x, fun x => absurd x c2⟩ (fun _ => c3)
  · intro b c c2 h3 g1 g2
    have e := me_nil g2
    subst e
    obtain ⟨k0, k6⟩ := v2 c
    refine mt_fmF s1 od ow op om ot ob fm_in1 o8 ?_ ?_
    · intro b c3 h4 g1 g2
      have e := me_nil g2
      subst e
      exact f106 hC t0 ot od ow op om ob fm_in1 fm_in0 hs rfl k0 k6 ⟨fun _ => c2, fun _ => by decide⟩ (fun x => absurd rfl x)
    · intro b c3 h4 g1 g2
      exfalso
      omega
theorem fm_loop : ∀ (N : Nat) (zt zd zw zp zm : Int) (q6 q7 q8 : Option mi_V) (h : sm_H), 300 - zt < N → 0 ≤ zt → zt ≤ 300 → mi_in zd → mi_in zw → mi_in zp → mi_in zm → (∀ v, q6 = some v → mi_ok v) → (∀ v, q7 = some v → mi_ok v) → (∀ v, q8 = some v → mi_ok v) → fm_H h0 h zd zw zp → me_E (d + 12) 186 22 [some (.inr (.inr 109)), some (.inl zd), some (.inl zw), some (.inl zp), some (.inl zm), some (.inl zt), q6, q7, q8] [] h (fm_Q h0) := by
  intro N
  induction N with
  | zero => intro zt zd zw zp zm q6 q7 q8 h hN t0 t1; exfalso; omega
  | succ N ih =>
    intro zt zd zw zp zm q6 q7 q8 h hN t0 t1 od ow op om o6 o7 o8 hH
    obtain ⟨s1, s2, s3, s4⟩ := id hH
    have ot : mi_in zt := ⟨by omega, by omega⟩
    have fin : ∀ h1, ab_Sh sx_sk h1 → ab_Fr [] h h1 → fm_Q h0 none h1 := fun h1 g1 g2 => by
      have e := me_nil g2
      subst e
      refine ⟨rfl, s1, s2, s3, fun x => ?_⟩
      obtain ⟨y1, y2, Y, z, y3⟩ := s4 x
      exact ⟨y1, Y, z, rs_weak y3.1 fm_q0⟩
    refine mt_fmC s1 od ow op om ot o6 o7 o8 ?_ ?_ ?_ ?_
    · intro c
      exact fin
    · intro c c2
      exact fin
    · intro b c c2 c3
      exact fin
    · intro b c c2 c3 h1 g1 g2
      have e := me_nil g2
      subst e
      obtain ⟨y1, y2, Y, z, y3⟩ := s4 c3
      refine ⟨_, me_scan (d := d + 9) s1 y1, fun w h2 oww hq => ?_⟩
      obtain ⟨rfl, r1, r2, r3⟩ := hq
      have e3 : mi_f h2 14003 = mi_f h1 14003 := me_f (c := 14003) r2 s1 rfl rfl
      have ef : mi_f h2 13960 = 0 := (me_f (c := 13960) r2 s1 rfl rfl).trans c3
      refine f46 (zt := zt) (fun zd zw zp zm q6 q7 q8 h od ow op om o6 o7 o8 hH => ih (zt + 1) zd zw zp zm q6 q7 q8 h (by omega) (by omega) (by omega) od ow op om o6 o7 o8 hH) ⟨by omega, by omega⟩ ot od ow op om o6 o7 o8 ⟨r1, s2.trans (r2.wide (fun c hc => ab_swr_ok (by decide) hc)), ef, r3, ?_, Y, z, rs_fr y3 s1 r2 (by decide)⟩
      intro x
      rw [e3, me_a (k := 150) r2 s1 rfl rfl, me_a (k := 149) r2 s1 rfl rfl, me_a (k := 124) r2 s1 rfl rfl]
      exact y2 x
end FMP
