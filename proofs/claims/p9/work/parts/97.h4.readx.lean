/-! the reference's form from its begin, readRule, read: the program -/
def rx_Q (n : Int) (c : Nat → Int) (g : wk_g) (a : Int) (_ : Option mi_V) (h' : sm_H) : Prop := (mi_f h' 13960 = 0 → mi_f h' 14000 ≤ n ∧ lc_ok h' ∧ mi_f h' 13961 = g 0 3 + 1 ∧ ∃ g', ru_T n c (g, a) (g', mi_f h' 14000) ∧ RQ g' h') ∧ (mi_f h' 13960 ≠ 0 → ru_F n c (g, a) (mi_f h' 13960))
section RXF
variable {d : Nat} {h0 h : sm_H} {Y : wk_Y} {z : rd_Z} {g : wk_g}
theorem me_formx (hS0 : ab_Sh sx_sk h0) (hf : mi_f h0 13960 = 0) (ha : mi_f h0 14000 ≤ 241) (hP : fm_P h0 Y z) (hq : RQ g h0) (hl : lc_ok h0) (han : mi_f h0 14000 ≤ mi_f h0 13953) : me_E (d + 12) 186 0 [some (.inr (.inr 109)), none, none, none, none, none, none, none, none] [] h0 (fx_Q (rf_beg (rf_lvl g 0) 0, mi_f h0 14000, 1, 0, 0) h0) := by
  have bU := me_fb (c := 13963) hS0 rfl
  have bR := me_fb (c := 13961) hS0 rfl
  have bT := me_fb (c := 14000) hS0 rfl
  obtain ⟨j1, j2, j3, j4, j5, j6, j7, j8, j9, j10, j11⟩ := hP
  obtain ⟨⟨f0, f1, -⟩, -⟩ := j1.2.2.2.2.1 0 (Int.le_refl _) (by omega)
  have f0 : 0 ≤ mi_a h0 146 0 := f0
  have f1 : mi_a h0 146 0 < wk_f Y := f1
  refine mt_fmA hS0 (fun h1 g1 g2 g3 => ?_)
  have R1 := RQ_lvl (k := 0) hq hS0 g3 g2
  have a1 : ∀ j, j ∈ [115, 119, 120, 124, 125, 126, 128, 129, 130, 146, 147, 148, 149, 150, 151] → ∀ i, mi_a h1 j i = mi_a h0 j i := me_as _ g3 hS0 (by decide)
  have e64 : mi_f h1 13964 = mi_f h0 13964 := me_f (c := 13964) g3 hS0 rfl rfl
  have e146 := a1 146 (by decide)
  have e130 := a1 130 (by decide)
  have z0 : (mi_f h1 14003).toNat = 0 := by rw [g2]; rfl
  have ch : mi_a h1 130 (mi_a h1 146 (mi_f h1 14003).toNat).toNat = 0 := by rw [z0, e146, e130]; exact j10
  refine ⟨_, me_beginx (d := d + 11) (zp := 0) g1 fm_in0 (by omega) (by omega) (by rw [z0, e146]; exact f0) (by rw [z0, e146]; have := j1.1; omega) (by rw [ch]; decide) (fun c => absurd ch c), fun w h2 oww hq2 => ?_⟩
  obtain ⟨rfl, t1, t2, tb, t127⟩ := hq2
  have R2 := RQ_beg R1 g1 t2 tb t127
  obtain ⟨t3, t4, t5, t6, t7, t8, t9, t10, t11⟩ := tb
  rw [z0] at t5 t6 t7 t8 t9 t10 t11
  rw [e64] at t3 t4 t5 t6 t8
  have kz : (rd_k z).toNat = 0 := by rw [j2]; rfl
  have F2 : ab_Fr fm_W h0 h2 := (g3.wide (fun c hc => ab_swr_ok (by decide) hc)).trans (t2.wide (fun c hc => ab_swr_ok (by decide) hc))
  have BG := rd_begin (g := mi_a h0) (g' := mi_a h2) j1 (by omega) (by omega) (fun j hj i => (me_as [115, 119, 120, 124, 125, 146, 148] t2 g1 (by decide) j hj i).trans (me_as [115, 119, 120, 124, 125, 146, 148] g3 hS0 (by decide) j hj i))
    (fun i => by rw [t4, a1 126 (by decide), j5])
    (fun i => by rw [t5, e130, e146, a1 147 (by decide), a1 128 (by decide), kz, j5])
    (fun i => by rw [t6, e130, e146, a1 129 (by decide), kz, j5])
    (fun i => by rw [t7, e146, e130, kz])
    (fun i => by rw [t8, a1 147 (by decide), kz, j5])
    (fun i => by rw [t9, a1 149 (by decide), kz])
    (fun i => by rw [t10, a1 150 (by decide), kz])
    (fun i => by rw [t11, a1 151 (by decide), kz])
  have e61 : mi_f h2 13961 = mi_f h0 13961 := me_f (c := 13961) F2 hS0 rfl rfl
  have e63 : mi_f h2 13963 = mi_f h0 13963 := (me_f (c := 13963) t2 g1 rfl rfl).trans (me_f (c := 13963) g3 hS0 rfl rfl)
  have e65 : mi_f h2 13965 = mi_f h0 13965 := (me_f (c := 13965) t2 g1 rfl rfl).trans (me_f (c := 13965) g3 hS0 rfl rfl)
  have e3 : mi_f h2 14003 = 0 := (me_f (c := 14003) t2 g1 rfl rfl).trans g2
  have ef : mi_f h2 13960 = 0 := ((me_f (c := 13960) t2 g1 rfl rfl).trans (me_f (c := 13960) g3 hS0 rfl rfl)).trans hf
  have ea : mi_f h2 14000 = mi_f h0 14000 := (me_f (c := 14000) t2 g1 rfl rfl).trans (me_f (c := 14000) g3 hS0 rfl rfl)
  have g146 : ∀ i, mi_a h2 146 i = mi_a h0 146 i := fun i => (me_a (k := 146) t2 g1 rfl rfl).trans (e146 i)
  have F3 : ab_Fr [(13964, 13965), (14003, 14004), (16128, 16641), (18816, 19329)] h0 h2 := (g3.wide (fun c hc => ab_swr_ok (by decide) hc)).trans (t2.wide (fun c hc => ab_swr_ok (by decide) hc))
  refine mt_fmB t1 (fun h3 g4 g5 => ?_)
  have e := me_nil g5
  subst e
  refine fx_loop (d := d) hS0 302 0 1 0 0 1 none none none h3 (by decide) (by decide) (by decide) fm_in1 fm_in0 fm_in0 fm_in1 me_on me_on me_on (fx_run (by decide) ⟨t1, F2, by omega, fun _ => ⟨by omega, fun x => absurd x (by decide), Y, _, ⟨BG, by omega, by omega, ?_, ?_, by omega, rs_Rt j8 F2 hS0 rfl (fun _ x => x) (rs_Pf j8 F3 hS0 rfl), fun f x0 x1 => ?_⟩, ?_, ?_⟩⟩ ef ⟨by omega, by omega, lc_okf hl hS0 F3 (by decide), _, 0, R2, ?_⟩)
  · show rd_a z + 1 = _
    omega
  · show mi_f h3 13964 + 0 ≤ _
    omega
  · rw [t7, e146, e130]
    by_cases c : f.toNat = (mi_a h0 146 0).toNat
    · rw [if_pos c, c, j10]
      decide
    · rw [if_neg c]
      exact j9 f x0 (by omega)
  · show rd_k z = _
    omega
  · rw [g146]
    exact j11
  · rw [ea]
    rfl
theorem rx68 {n a e zp zn : Int} {c : Nat → Int} (hn : mi_f h 13953 = n) (hc : mi_a h 110 = c) (hq : RQ g h) (hl : lc_ok h) (han : e ≤ n) (tk1 : tk_T n c a 2 zn zp e) (u1 : g 115 zn.toNat < 0) (tk2 : tk_T n c e (mi_f h 14001) (mx_l h 14004).toInt (mi_f h 14002) (mi_f h 14000)) (hI : rs_B h Y z 0) (hS : ab_Sh sx_sk h) (hf : mi_f h 13960 = 0) (hR : sn_R h) (r10 : mi_f h 13961 ≠ 10) (p0 : 0 ≤ zp) (p1 : zp ≤ 241) (n0 : 0 ≤ zn) (n1 : zn < 26) : me_E (d + 14) 183 68 [some (.inr (.inr 109)), some (.inl zp), some (.inl zn)] [] h (rx_Q n c g a) := by
  have op : mi_in zp := ⟨by omega, by omega⟩
  have on : mi_in zn := ⟨by omega, by omega⟩
  have bU := me_fb (c := 13963) hS rfl
  have bF := me_fb (c := 13965) hS rfl
  have bR := me_fb (c := 13961) hS rfl
  have gR : g 0 3 = mi_f h 13961 := hq.1.2.2.2.1
  obtain ⟨i1, i2, i3, i4, i5, i6, i7, i9⟩ := hI
  have kk := tk_f han tk2
  refine mt_rrC hS op on ?_ ?_
  · intro b b2 c61
    refine ⟨⟨⟨by omega, by omega⟩, ⟨by omega, by omega⟩, ⟨by omega, by omega⟩⟩, fun h1 g1 g2 g3 g4 g5 => ?_⟩
    have eF1 : mi_f h1 13965 = mi_f h 13965 := me_f (c := 13965) g5 hS rfl rfl
    have eR1 : mi_f h1 13961 = mi_f h 13961 := me_f (c := 13961) g5 hS rfl rfl
    refine ⟨_, me_newForm (d := d + 13) g1 (by omega), fun w h2 oww hq2 => ?_⟩
    obtain ⟨rfl, p2, p3, p4, p5, p6⟩ := hq2
    have eR2 : mi_f h2 13961 = mi_f h 13961 := (me_f (c := 13961) p3 g1 rfl rfl).trans eR1
    refine mt_rrD (zz := mi_f h1 13965) (z0 := 0) p2 op on ⟨by omega, by omega⟩ fm_in0 ?_
    intro b3
    refine ⟨⟨⟨by omega, by omega⟩, ⟨by omega, by omega⟩, ⟨by omega, by omega⟩, ⟨by rw [if_pos rfl]; omega, by rw [if_pos rfl]; omega⟩, ⟨by omega, by omega⟩, ⟨by omega, by omega⟩⟩, fun h3 r1 r2 r3 r4 r5 => ?_⟩
    have F3a : ab_Fr [(13961, 13962), (13965, 13966), (14003, 14004), (14464, 14721), (16512, 16513), (16640, 16641), (18688, 18689)] h h3 := ((g5.wide (fun c hc => ab_swr_ok (by decide) hc)).trans (p3.wide (fun c hc => ab_swr_ok (by decide) hc))).trans (r5.wide (fun c hc => ab_swr_ok (by decide) hc))
    have ef3 : mi_f h3 13960 = 0 := (me_f (c := 13960) F3a hS rfl rfl).trans hf
    have ea3 : mi_f h3 14000 = mi_f h 14000 := me_f (c := 14000) F3a hS rfl rfl
    have eU3 : mi_f h3 13963 = mi_f h 13963 := me_f (c := 13963) F3a hS rfl rfl
    have eA3 : mi_f h3 13964 = mi_f h 13964 := me_f (c := 13964) F3a hS rfl rfl
    have eF3 : mi_f h3 13965 = mi_f h 13965 + 1 := by rw [me_f (c := 13965) r5 p2 rfl rfl, p4, eF1]
    have eR3 : mi_f h3 13961 = mi_f h 13961 + 1 := by rw [r2, eR2]
    have e53 : mi_f h3 14003 = 0 := by rw [me_f (c := 14003) r5 p2 rfl rfl, me_f (c := 14003) p3 g1 rfl rfl, g2]
    have G129 : ∀ i, mi_a h3 129 i = if i = (mi_f h 13965).toNat then -1 else mi_a h 129 i := fun i => by rw [me_a (k := 129) r5 p2 rfl rfl, p5, eF1, me_a (k := 129) g5 hS rfl rfl]
    have G130 : ∀ i, mi_a h3 130 i = if i = (mi_f h 13965).toNat then 0 else mi_a h 130 i := fun i => by rw [me_a (k := 130) r5 p2 rfl rfl, p6, eF1, me_a (k := 130) g5 hS rfl rfl]
    have G146a : ∀ i, mi_a h3 146 i = if i = 0 then mi_f h 13965 else mi_a h 146 i := fun i => by rw [r4, eF1, me_a (k := 146) p3 g1 rfl rfl, me_a (k := 146) g5 hS rfl rfl]; rfl
    have G146 : mi_a h3 146 0 = mi_f h 13965 := by rw [r4, if_pos (show 0 = Int.toNat 0 from rfl), eF1]
    have G114 : ∀ i, mi_a h3 114 i = if i = (mi_f h 13961).toNat then mi_f h 13965 else mi_a h 114 i := fun i => by rw [r3, if_pos rfl, eF1, eR2, me_a (k := 114) p3 g1 rfl rfl, me_a (k := 114) g5 hS rfl rfl]
    have G115 : ∀ i, mi_a h3 115 i = if i = zn.toNat then mi_f h 13961 else mi_a h 115 i := fun i => by rw [me_a (k := 115) r5 p2 rfl rfl, me_a (k := 115) p3 g1 rfl rfl, g4]
    have G113 : ∀ i, mi_a h3 113 i = if i = (mi_f h 13961).toNat then zp else mi_a h 113 i := fun i => by rw [me_a (k := 113) r5 p2 rfl rfl, me_a (k := 113) p3 g1 rfl rfl, g3]
    have R3 := RQ_rule (v := zn) (p := zp) hq hS F3a eF3 eR3 e53 G113 G114 G115 G129 G130 G146a
    obtain ⟨J, LR⟩ := rd_rule (g' := mi_a h3) i1 (by omega) (me_as _ F3a hS (by decide)) (fun i => by rw [i3]; exact G129 i) (fun i => by rw [i3]; exact G130 i) (by rw [G146, i3])
    have at1 := hR.2.1 (by omega) (by omega)
    have ke := kk.2.2.1 (by omega) (by omega)
    have en3 : mi_f h3 13953 = n := (me_f (c := 13953) F3a hS rfl rfl).trans hn
    have ec3 : mi_a h3 110 = c := (funext (fun i => me_a (k := 110) F3a hS rfl rfl)).trans hc
    refine ⟨_, me_formx (d := d + 1) (Y := rd_yr Y) (z := rd_zr z) r1 ef3 (by omega) ⟨J, rfl, ?_, ?_, ?_, by omega, by omega, ⟨fun r x0 x1 => ?_, fun n hn => ?_, ?_⟩, fun f x0 x1 => ?_, ?_, ?_⟩ R3 (lc_okf hl hS F3a (by decide)) (by omega), fun w h4 oww hq2 => ?_⟩
    · show wk_u Y = _
      omega
    · show wk_f Y + 1 = _
      omega
    · show rd_a z = _
      omega
    · rw [G114]
      by_cases c2 : r.toNat = (mi_f h 13961).toNat
      · rw [if_pos c2, ← i3]
        exact LR
      · rw [if_neg c2]
        obtain ⟨y1, y2, y3⟩ := i7.1 r x0 (by omega)
        refine ⟨y1, ?_, ?_⟩
        · show _ < wk_f Y + 1
          omega
        · show (if mi_a h 114 r.toNat = wk_f Y then 60 else wk_x Y (mi_a h 114 r.toNat)) - (if mi_a h 114 r.toNat = wk_f Y then wk_u Y - 1 else wk_b Y (mi_a h 114 r.toNat)) ≤ 61
          rw [if_neg (by omega), if_neg (by omega)]
          exact y3
    · rw [G115, eR3]
      have := i7.2.1 n hn
      split <;> omega
    · exact rs_Pf i7 F3a hS rfl
    · rw [G130]
      by_cases c2 : f.toNat = (mi_f h 13965).toNat
      · rw [if_pos c2]
        decide
      · rw [if_neg c2]
        exact i9 f x0 (by omega)
    · rw [G146, G130, if_pos rfl]
    · show (if mi_a h3 146 0 = wk_f Y then wk_u Y - 1 else wk_b Y (mi_a h3 146 0)) < wk_u Y
      rw [if_pos (by omega)]
      omega
    · obtain ⟨⟨rfl, v1, v2, v3, v4⟩, v5, v6⟩ := hq2
      unfold fx_D at v5
      unfold fx_B at v6
      rw [en3, ec3, ea3] at v5
      rw [en3, ec3, ea3] at v6
      rw [c61] at tk2
      refine mt_rr151 v1 op on (fun h5 u1' u2 => ?_)
      have e := me_nil u2
      subst e
      have eR5 : mi_f h5 13961 = mi_f h3 13961 := me_f (c := 13961) v2 r1 rfl rfl
      refine ⟨fun x => ?_, fun x => ?_⟩
      · obtain ⟨y1, y2, y, y3, y4⟩ := v5 x
        exact ⟨y1, y2, by omega, y.1, ⟨zn, zp, e, _, _, _, y, tk1, u1, by show g 0 3 ≠ 10; omega, tk2, y3, rfl⟩, y4⟩
      · exact ⟨2, zn, zp, e, tk1, fun y => absurd y.1 (by decide), Or.inr (Or.inr (Or.inr ⟨rfl, u1, by show g 0 3 ≠ 10; omega, _, _, _, _, tk2, Or.inr ⟨rfl, v6 x⟩⟩))⟩
  · intro b c61 h1 g1 g2
    have e := me_nil g2
    subst e
    refine ⟨_, me_blamex (d := d + 13) hS (by decide) (by decide) (by have := hR.1; omega) (by have := hR.1; omega) (by omega), fun w h2 oww hq2 => ?_⟩
    obtain ⟨rfl, t1, t2, t3⟩ := hq2
    refine mt_rr86 t1 op on (fun h3 g1 g2 => ?_)
    have e := me_nil g2
    subst e
    have p0' := hR.1
    refine ⟨fun x => by omega, fun x => ?_⟩
    rw [t3]
    exact ⟨2, zn, zp, _, tk1, fun y => absurd y.1 (by decide), Or.inr (Or.inr (Or.inr ⟨rfl, u1, by show g 0 3 ≠ 10; omega, _, _, _, _, tk2, Or.inl ⟨c61, rfl⟩⟩))⟩
theorem me_rulex {n a : Int} {c : Nat → Int} (hn : mi_f h 13953 = n) (hc : mi_a h 110 = c) (hq : RQ g h) (hl : lc_ok h) (han : a ≤ n) (tk : tk_T n c a (mi_f h 14001) (mx_l h 14004).toInt (mi_f h 14002) (mi_f h 14000)) (nE : ¬ (mi_f h 14001 = 0 ∧ mi_f h 13961 ≠ 0)) (hI : rs_B h Y z 0) (hS : ab_Sh sx_sk h) (hf : mi_f h 13960 = 0) (hR : sn_R h) : me_E (d + 14) 183 0 [some (.inr (.inr 109)), none, none] [] h (rx_Q n c g a) := by
  have bp := hR.1
  have op : mi_in (mi_f h 14002) := ⟨by omega, by omega⟩
  have gR : g 0 3 = mi_f h 13961 := hq.1.2.2.2.1
  have kk := tk_f han tk
  have nE' : ¬ (mi_f h 14001 = 0 ∧ g 0 3 ≠ 0) := by rw [gR]; exact nE
  refine mt_rrA hS ?_ ?_
  · intro b c2 h1 g1 g2
    have e := me_nil g2
    subst e
    obtain ⟨n0, n1⟩ := hR.2.2.1 c2
    have on : mi_in ((mx_l h1 14004).toInt32.toInt) := ⟨by omega, by omega⟩
    have v26 := kk.2.2.2.1 c2
    have ev : (mx_l h1 14004).toInt32.toInt = (mx_l h1 14004).toInt := tx_32 v26.1 (by omega)
    have ke := kk.2.2.1 (by omega) (by omega)
    have g115 : g 115 (mx_l h1 14004).toInt.toNat = mi_a h1 115 ((mx_l h1 14004).toInt32.toInt).toNat := by rw [ev, hq.2.1 115 (by decide)]
    have bl : ∀ f : Int, 1 ≤ f → f ≤ 9 → ru_F n c (g, a) (f + 16 * mi_f h1 14002) → ∃ Q1, me_E (d + 13) 184 0 (mi_entry 3 [.inr (.inr 109), .inl f, .inl (mi_f h1 14002)]) [] h1 Q1 ∧ ∀ w h2, (∀ x, w = some x → mi_ok x) → Q1 w h2 → me_E (d + 14) 183 63 [some (.inr (.inr 109)), some (.inl (mi_f h1 14002)), some (.inl ((mx_l h1 14004).toInt32.toInt))] (mi_back w []) h2 (rx_Q n c g a) := fun f f1 f2 hF => by
      refine ⟨_, me_blamex (d := d + 13) hS f1 f2 (by omega) (by omega) hf, fun w h2 oww hq2 => ?_⟩
      obtain ⟨rfl, t1, t2, t3⟩ := hq2
      refine mt_rr63 t1 op on (fun h3 g1 g2 => ?_)
      have e := me_nil g2
      subst e
      exact ⟨fun x => by omega, fun x => by rw [t3]; exact hF⟩
    refine mt_rrB hS op on ?_ ?_ ?_
    · intro c3
      refine ⟨⟨n0, n1⟩, fun h3 g1 g2 => ?_⟩
      have e := me_nil g2
      subst e
      exact bl 2 (by decide) (by decide) ⟨_, _, _, _, tk, nE', Or.inr (Or.inl ⟨c2, by show 0 ≤ g 115 _; rw [g115]; exact c3, rfl⟩)⟩
    · intro b2 c3 c4
      refine ⟨⟨n0, n1⟩, fun h3 g1 g2 => ?_⟩
      have e := me_nil g2
      subst e
      refine ⟨_, (me_scan (d := d + 11) hS (hR.2.1 (by omega) (by omega))).and (me_scanx (d := d + 11) hS (by omega)), fun w h4 oww hq2 => ?_⟩
      obtain ⟨⟨rfl, r1, r2, r3⟩, -, -, -, r4⟩ := hq2
      rw [hn, hc] at r4
      have eR : mi_f h4 13961 = mi_f h3 13961 := me_f (c := 13961) r2 hS rfl rfl
      have ef : mi_f h4 13960 = 0 := (me_f (c := 13960) r2 hS rfl rfl).trans hf
      rw [c2] at tk
      rw [ev]
      exact rx68 ((me_f (c := 13953) r2 hS rfl rfl).trans hn) ((funext (fun i => me_a (k := 110) r2 hS rfl rfl)).trans hc) (RQ_same hq hS r2 (by decide)) (lc_okf hl hS r2 (by decide)) (by omega) tk (by rw [g115]; exact c3) r4 (rs_Bfr hI hS r2 (by decide)) r1 ef r3 (by omega) bp.1 bp.2 (by omega) (by omega)
    · intro b2 c3 c4
      refine ⟨⟨n0, n1⟩, fun h3 g1 g2 => ?_⟩
      have e := me_nil g2
      subst e
      exact bl 3 (by decide) (by decide) ⟨_, _, _, _, tk, nE', Or.inr (Or.inr (Or.inl ⟨c2, by show g 115 _ < 0; rw [g115]; exact c3, by show g 0 3 = 10; omega, rfl⟩))⟩
  · intro b c2 h1 g1 g2
    have e := me_nil g2
    subst e
    have x1 := (mx_l h1 14004).toInt32.le_toInt
    have x2 := (mx_l h1 14004).toInt32.toInt_lt
    refine ⟨_, me_blamex (d := d + 13) hS (by decide) (by decide) (by omega) (by omega) hf, fun w h2 oww hq2 => ?_⟩
    obtain ⟨rfl, t1, t2, t3⟩ := hq2
    refine mt_rr25 t1 op ⟨by omega, by omega⟩ (fun h3 g1 g2 => ?_)
    have e := me_nil g2
    subst e
    exact ⟨fun x => by omega, fun x => by rw [t3]; exact ⟨_, _, _, _, tk, nE', Or.inl ⟨c2, rfl⟩⟩⟩
end RXF
