/-! the loop of the reference's walk that prints; the walk -/
section ZPL
variable {d : Nat} {h0 : sm_H} {Y : wk_Y} {zh : Int} {N : Nat} {sN : gm_S} {R : Option ox} {LN : List (Int × Int)}
/-- a turn that prints nothing -/
theorem zp_rest {zt e w a : Int} {h h' : sm_H} {r : List wk_E} {wr : List (Nat × Nat)} (hS0 : ab_Sh sx_sk h0) (hG : zp_G Y h0 N sN LN) (hI : zp_I Y h0 N sN R zt h) (z0 : 0 ≤ zt) (hst : wk_stk h = (e, w, a) :: r) (he : e = 2 ∨ e = 3 ∨ e = 4) (g1 : ab_Sh sx_sk h') (hF : ab_Fr wr h h') (hw : (ab_in wr 14036 || ab_in wr 14037 || ab_in wr 14044 || ab_in wr 14045 || ab_in wr 14046 || ab_in wr 21760) = false) (hH : wl_H Y h0 2 (tp_I h0) (zt + 1) h') : zp_H Y h0 N sN R (zt + 1) h' := by
  obtain ⟨s, o, c1, t1, t2, t3, t4, b0, b1, t5⟩ := zp_turn hS0 hG hI z0 hst
  have edv : dv (mi_a h0) (yv h0) (e, w, a) s = [] := by
    unfold dv
    rw [if_neg (show ¬ e = 0 by omega), if_neg (show ¬ e = 5 by omega)]
  rw [edv] at t5
  have hS := hI.1.1.1
  have w1 : ab_in wr 14036 = false := by
    simp only [Bool.or_eq_false_iff] at hw
    exact hw.1.1.1.1.1
  have e36 := me_f (c := 14036) hF hS rfl w1
  exact t5 h' hH (oR_fr t1 hF hS hw) (by omega) (by omega)
theorem zp_loop (hT : wl_T Y h0 2 (tp_I h0)) (hL0 : wk_L (mi_a h0) Y) (hS0 : ab_Sh sx_sk h0) (hG : zp_G Y h0 N sN LN) (oh : mi_in zh) : ∀ (J : Nat) (zt : Int) (q3 q4 : Option mi_V) (h : sm_H), 40000 - zt < J → 0 ≤ zt → zt ≤ 40000 → (∀ v, q3 = some v → mi_ok v) → (∀ v, q4 = some v → mi_ok v) → zp_H Y h0 N sN R zt h → me_E (d + 7) 206 52 [some (.inr (.inr 109)), some (.inl zh), some (.inl zt), q3, q4] [] h (zp_End h0 R) := by
  intro J
  induction J with
  | zero => intro zt q3 q4 h hN z0 z1; exfalso; omega
  | succ J ih =>
    intro zt q3 q4 h hN z0 z1 o3 o4 hH
    have ot : mi_in zt := ⟨by omega, by omega⟩
    have hS : ab_Sh sx_sk h := by
      rcases hH with hH | hH
      · exact hH.1
      · exact hH.1.1.1
    have toI : mi_f h 14034 < 0 → mi_f h 14044 = 0 → zp_I Y h0 N sN R zt h := fun a b => by
      rcases hH with hH | hH
      · exfalso
        have := hH.2.2.1
        omega
      · exact hH
    have o2 : ∀ x : Int32, ∀ v : mi_V, some (Sum.inl x.toInt : mi_V) = some v → mi_ok v := fun x v e => by
      cases e
      exact mi_inT x
    have nx : ∀ (x y : Int32) (h' : sm_H), zt < 40000 → zp_H Y h0 N sN R (zt + 1) h' → ab_Sh sx_sk h' ∧ me_E (d + 7) 206 52 [some (.inr (.inr 109)), some (.inl zh), some (.inl (zt + 1)), some (.inl x.toInt), some (.inl y.toInt)] [] h' (zp_End h0 R) := fun x y h' hlt hq => by
      refine ⟨?_, ih (zt + 1) _ _ h' (by omega) (by omega) (by omega) (o2 x) (o2 y) hq⟩
      rcases hq with hq | hq
      · exact hq.1
      · exact hq.1.1.1
    have nx175 : ∀ (x y : Int32) (h' : sm_H), zt < 40000 → zp_H Y h0 N sN R (zt + 1) h' → me_E (d + 7) 206 175 [some (.inr (.inr 109)), some (.inl zh), some (.inl zt), some (.inl x.toInt), some (.inl y.toInt)] [] h' (zp_End h0 R) := fun x y h' hlt hq => mt_wb175 (nx x y h' hlt hq).1 oh ot (mi_inT x) (mi_inT y) ⟨by omega, fun h3 r1 r2 => by
      have e3 := me_nil r2
      subst e3
      exact (nx x y _ hlt hq).2⟩
    have nx183 : ∀ (x y : Int32) (h' : sm_H), zt < 40000 → zp_H Y h0 N sN R (zt + 1) h' → me_E (d + 7) 206 183 [some (.inr (.inr 109)), some (.inl zh), some (.inl zt), some (.inl x.toInt), some (.inl y.toInt)] [] h' (zp_End h0 R) := fun x y h' hlt hq => mt_wb183 (nx x y h' hlt hq).1 oh ot (mi_inT x) (mi_inT y) ⟨by omega, fun h3 r1 r2 => by
      have e3 := me_nil r2
      subst e3
      exact (nx x y _ hlt hq).2⟩
    have nx208 : ∀ (x y : Int32) (h' : sm_H), zt < 40000 → zp_H Y h0 N sN R (zt + 1) h' → me_E (d + 7) 206 208 [some (.inr (.inr 109)), some (.inl zh), some (.inl zt), some (.inl x.toInt), some (.inl y.toInt)] [] h' (zp_End h0 R) := fun x y h' hlt hq => mt_wb208 (nx x y h' hlt hq).1 oh ot (mi_inT x) (mi_inT y) ⟨by omega, fun h3 r1 r2 => by
      have e3 := me_nil r2
      subst e3
      exact (nx x y _ hlt hq).2⟩
    have nx218 : ∀ (x y : Int32) (h' : sm_H), zt < 40000 → zp_H Y h0 N sN R (zt + 1) h' → me_E (d + 7) 206 218 [some (.inr (.inr 109)), some (.inl zh), some (.inl zt), some (.inl x.toInt), some (.inl y.toInt)] [] h' (zp_End h0 R) := fun x y h' hlt hq => mt_wb218 (nx x y h' hlt hq).1 oh ot (mi_inT x) (mi_inT y) ⟨by omega, fun h3 r1 r2 => by
      have e3 := me_nil r2
      subst e3
      exact (nx x y _ hlt hq).2⟩
    refine mt_waC hS oh ot o3 o4 ?_ ?_ ?_ ?_ ?_ ?_ ?_ ?_ ?_ ?_ ?_ ?_
    · intro c h1 g1 g2
      have e1 := me_nil g2
      subst e1
      exact zp_247 oh ot o3 o4 hG.2.1 hH (fun _ => Or.inr (by omega))
    · intro b1 c1 c2 h1 g1 g2
      have e1 := me_nil g2
      subst e1
      exact zp_247 oh ot o3 o4 hG.2.1 hH (fun _ => Or.inl c2)
    · intro b1 b2 c1 c2 c3 h1 g1 g2
      have e1 := me_nil g2
      subst e1
      exact zp_247 oh ot o3 o4 hG.2.1 hH (fun hI => by have := hI.1.1.2.2.2.2.1; omega)
    · intro b1 b2 b3 c1 c2 c3 c4 h1 g1 g2
      have e1 := me_nil g2
      subst e1
      exact zp_247 oh ot o3 o4 hG.2.1 hH (fun hI => by have := hI.1.1.2.2.2.1; omega)
    · intro b1 b2 b3 c1 c2 c3 c4 s k
      have hP := toI c3 c4
      have hI := hP.1
      have hL : wk_L (mi_a h) Y := wk_L_g hL0 (wk_gc_fr hI.2.1 hS0 rfl)
      have hb29 := hI.2.2.2.2.1
      have htop := hI.2.2.1
      rw [wk_stk_pop c2] at htop
      have hcs := wk_cases htop
      dsimp only at hcs
      refine ⟨by omega, fun h1 g1 g2 g3 => ⟨_, zp_u hS0 hT hL hG hP z0 c1 c2 g1 g2 g3 (by omega) rfl (by omega) (by omega), fun v h' ov hq => ?_⟩⟩
      obtain ⟨rfl, hq⟩ := hq
      exact nx175 _ _ h' c1 hq
    · intro b1 b2 b3 c1 c2 c3 c4 s k
      have hP := toI c3 c4
      have hI := hP.1
      have hL : wk_L (mi_a h) Y := wk_L_g hL0 (wk_gc_fr hI.2.1 hS0 rfl)
      have hb29 := hI.2.2.2.2.1
      have htop := hI.2.2.1
      rw [wk_stk_pop c2] at htop
      have hcs := wk_cases htop
      dsimp only at hcs
      refine ⟨by omega, fun h1 g1 g2 g3 => ⟨_, zp_u hS0 hT hL hG hP z0 c1 c2 g1 g2 g3 (by omega) rfl (by omega) (by omega), fun v h' ov hq => ?_⟩⟩
      obtain ⟨rfl, hq⟩ := hq
      exact nx175 _ _ h' c1 hq
    · intro b1 b2 b3 c1 c2 c3 c4 s
      have hP := toI c3 c4
      have hI := hP.1
      have hL : wk_L (mi_a h) Y := wk_L_g hL0 (wk_gc_fr hI.2.1 hS0 rfl)
      have hb29 := hI.2.2.2.2.1
      have htop := hI.2.2.1
      rw [wk_stk_pop c2] at htop
      have hcs := wk_cases htop
      dsimp only at hcs
      refine ⟨by omega, fun h1 g1 g2 g3 => ⟨_, zp_c hS0 hT hL hG hP z0 c1 c2 g1 g2 g3 (by omega) rfl rfl, fun v h' ov hq => ?_⟩⟩
      obtain ⟨rfl, hq⟩ := hq
      exact nx183 _ _ h' c1 hq
    · intro b1 b2 b3 b4 c1 c2 c3 c4 s
      have hP := toI c3 c4
      have hI := hP.1
      have hb29 := hI.2.2.2.2.1
      have htop := hI.2.2.1
      have hst := wk_stk_pop c2
      have es : mi_a h 165 (mi_f h 14029 - 1).toNat = 2 := by omega
      rw [es] at hst
      rw [hst] at htop
      obtain ⟨w1, w2, w3, w4, w5⟩ := wk_out htop
      refine ⟨by omega, fun h1 g1 g2 g3 g4 g5 => ?_⟩
      have e30 : mi_f h1 14030 = mi_f h 14030 := me_f (c := 14030) g5 hS rfl rfl
      have e16 : mi_f h1 14016 = mi_f h 14016 := me_f (c := 14016) g5 hS rfl rfl
      refine (nx _ _ h1 c1 (zp_rest hS0 hG hP z0 hst (Or.inl rfl) g1 g5 rfl (Or.inr (wl_rest hT hI z0 c1 c2 g2 hst (Or.inl rfl) g1 g5 (by decide) ?_ (by omega) (by have := hI.2.2.2.2.2; omega))))).2
      rw [e30, g4]
      exact wk_SI_Z _ _ _ _ w5 (fun i _ => ⟨me_a (k := 168) g5 hS rfl rfl, me_a (k := 169) g5 hS rfl rfl⟩) (by show mi_f h 14016 ≤ mi_f h1 14016; omega)
    · intro b1 b2 b3 b4 b5 c1 c2 c3 c4 s
      have hP := toI c3 c4
      have hI := hP.1
      have hb29 := hI.2.2.2.2.1
      have hp60 := hI.2.2.2.2.2
      have htop := hI.2.2.1
      have hst := wk_stk_pop c2
      have es : mi_a h 165 (mi_f h 14029 - 1).toNat = 3 := by omega
      rw [es] at hst
      rw [hst] at htop
      obtain ⟨w1, w2, w3⟩ := wk_mid htop
      refine ⟨by omega, fun h1 g1 g2 g4 g5 => ?_⟩
      have e30 : mi_f h1 14030 = mi_f h 14030 := me_f (c := 14030) g5 hS rfl rfl
      have e32 : mi_f h1 14032 = mi_f h 14032 := me_f (c := 14032) g5 hS rfl rfl
      have e16 : mi_f h1 14016 = mi_f h 14016 := me_f (c := 14016) g5 hS rfl rfl
      refine (nx _ _ h1 c1 (zp_rest hS0 hG hP z0 hst (Or.inr (Or.inl rfl)) g1 g5 rfl (Or.inr (wl_rest hT hI z0 c1 c2 g2 hst (Or.inr (Or.inl rfl)) g1 g5 (by decide) ?_ (by rw [e32]; exact hI.1.2.2.2.2.2.2.2.2.1) (by omega))))).2
      rw [e30, e32]
      refine wk_middle (wk_SI_Z (Z' := wl_Z h1) _ _ _ _ w3 (fun i hi => ⟨me_a (k := 168) g5 hS rfl rfl, ?_⟩) (by show mi_f h 14016 ≤ mi_f h1 14016; omega)) ?_
      · rw [if_neg (by decide)] at hi
        show mi_a h1 169 i = mi_a h 169 i
        rw [g4, if_neg (by omega)]
      · have w2 : 0 ≤ mi_a h 168 (mi_f h 14030 - 1).toNat ∧ mi_a h 168 (mi_f h 14030 - 1).toNat ≤ mi_f h 14016 := w2
        show 0 ≤ mi_a h1 168 (mi_f h 14030 - 1).toNat ∧ mi_a h1 168 (mi_f h 14030 - 1).toNat ≤ mi_a h1 169 (mi_f h 14030 - 1).toNat ∧ mi_a h1 169 (mi_f h 14030 - 1).toNat ≤ mi_f h1 14016
        rw [g4, if_pos rfl, me_a (k := 168) g5 hS rfl rfl, e16]
        exact ⟨w2.1, w2.2, Int.le_refl _⟩
    · intro b1 b2 b3 c1 c2 c3 c4 s
      have hP := toI c3 c4
      have hI := hP.1
      have hb29 := hI.2.2.2.2.1
      have hp60 := hI.2.2.2.2.2
      have htop := hI.2.2.1
      have hst := wk_stk_pop c2
      have es : mi_a h 165 (mi_f h 14029 - 1).toNat = 4 := by omega
      rw [es] at hst
      rw [hst] at htop
      obtain ⟨w1, w2, w3⟩ := wk_turn htop
      have w2 : 0 ≤ mi_a h 168 (mi_f h 14030 - 1).toNat ∧ mi_a h 168 (mi_f h 14030 - 1).toNat ≤ mi_a h 169 (mi_f h 14030 - 1).toNat ∧ mi_a h 169 (mi_f h 14030 - 1).toNat ≤ mi_f h 14016 := w2
      refine ⟨by omega, fun h1 g1 g2 g3 => ?_⟩
      have e30 : mi_f h1 14030 = mi_f h 14030 := me_f (c := 14030) g3 hS rfl rfl
      have e16 : mi_f h1 14016 = mi_f h 14016 := me_f (c := 14016) g3 hS rfl rfl
      have e168 : mi_a h1 168 (mi_f h 14030 - 1).toNat = mi_a h 168 (mi_f h 14030 - 1).toNat := me_a (k := 168) g3 hS rfl rfl
      have e169 : mi_a h1 169 (mi_f h 14030 - 1).toNat = mi_a h 169 (mi_f h 14030 - 1).toNat := me_a (k := 169) g3 hS rfl rfl
      refine ⟨_, me_swap g1 (by omega) (by omega) (by rw [e30, e168]; exact w2.1) (by rw [e30, e168, e169]; exact w2.2.1) (by rw [e30, e169, e16]; exact w2.2.2), fun v h' ov hq => ?_⟩
      obtain ⟨rfl, q1, q2, q3⟩ := hq
      have hF : ab_Fr ([(14029, 14031), (18560, 18561), (20480, 20481)]) h h' := (g3.wide (fun c hc => ab_swr_ok (by decide) hc)).trans (q2.wide (fun c hc => ab_swr_ok (by decide) hc))
      have f29 : mi_f h' 14029 = mi_f h 14029 - 1 := (me_f (c := 14029) q2 g1 rfl rfl).trans g2
      have f16 : mi_f h' 14016 = mi_f h 14016 := me_f (c := 14016) hF hS rfl rfl
      have f32 : mi_f h' 14032 = mi_f h 14032 := me_f (c := 14032) hF hS rfl rfl
      have f30 : mi_f h' 14030 = mi_f h 14030 - 1 := by omega
      refine nx208 _ _ h' c1 (zp_rest hS0 hG hP z0 hst (Or.inr (Or.inr rfl)) q1 hF rfl (Or.inr (wl_rest hT hI z0 c1 c2 f29 hst (Or.inr (Or.inr rfl)) q1 hF (by decide) ?_ (by rw [f32]; exact hI.1.2.2.2.2.2.2.2.2.1) (by omega))))
      rw [f30, f32]
      exact wk_SI_Z _ _ _ _ w3 (fun i _ => ⟨me_a (k := 168) hF hS rfl rfl, me_a (k := 169) hF hS rfl rfl⟩) (by show mi_f h 14016 ≤ mi_f h' 14016; omega)
    · intro b1 b2 b3 c1 c2 c3 c4 s
      have hP := toI c3 c4
      have hI := hP.1
      have hL : wk_L (mi_a h) Y := wk_L_g hL0 (wk_gc_fr hI.2.1 hS0 rfl)
      have hb29 := hI.2.2.2.2.1
      have htop := hI.2.2.1
      rw [wk_stk_pop c2] at htop
      have hcs := wk_cases htop
      dsimp only at hcs
      refine ⟨by omega, fun h1 g1 g2 g3 => ⟨_, zp_a hS0 hT hL hG hP z0 c1 c2 g1 g2 g3 (by omega) rfl rfl, fun v h' ov hq => ?_⟩⟩
      obtain ⟨rfl, hq⟩ := hq
      exact nx218 _ _ h' c1 hq
    · intro b1 b2 b3 b4 c1 c2 c3 c4 s
      exfalso
      have hP := toI c3 c4
      have hI := hP.1
      have htop := hI.2.2.1
      rw [wk_stk_pop c2] at htop
      have hcs := wk_cases htop
      dsimp only at hcs
      omega
/-- from the begin: nothing is printed yet -/
theorem me_walky {n : Nat} {h : sm_H} (hS : ab_Sh sx_sk h) (hL : wk_L (mi_a h) Y) (hr : wk_Lrule Y (mi_a h 114 0)) (hN : tp_N (mi_a h) (wk_K 2 h) (wk_V 2 h) n) (hn : n ≤ 100) (hG : zp_G Y h N sN LN) (ho : mi_f h 14037 = 0 ∧ mi_f h 14045 = 0 ∧ mi_f h 14046 = 0 ∧ mi_f h 14036 = 0) : me_E (d + 7) 206 0 [some (.inr (.inr 109)), some (.inl (2 : Int)), none, none, none] [] h (zp_End h (zp_f h LN (some ([], 0, 0, 0)))) := by
  have oh : mi_in 2 := ⟨by decide, by decide⟩
  have hT := tp_T (Y := Y) hS hN hn
  refine mt_waA hS oh ?_
  intro h1 g1 f16 f28 f29 f30 f31 f32 f33 f34 f44 g2
  have est : wk_stk h1 = [] := by unfold wk_stk; rw [f29]; rfl
  have en : wk_n 2 h1 = 0 := f33
  have e36 : mi_f h1 14036 = 0 := (me_f (c := 14036) g2 hS rfl rfl).trans ho.2.2.2
  have R1 : oR h1 (some ([], 0, 0, 0)) := Or.inr ⟨_, rfl, f44, (me_f (c := 14037) g2 hS rfl rfl).trans ho.1, fun k hk => absurd hk (Nat.not_lt_zero _), (me_f (c := 14045) g2 hS rfl rfl).trans ho.2.1, (me_f (c := 14046) g2 hS rfl rfl).trans ho.2.2.1, e36⟩
  refine ⟨_, (me_enter (d := d + 4) 2 g1 f28 (by decide) (by decide) (by omega) (by omega) (by omega) (by omega) (fun _ => by omega)).and (me_entero (d := d + 4) (o := ([], 0, 0, 0)) ⟨g1, f28, R1, by omega, by omega, by omega, by omega, by omega, by omega, by omega⟩ (by omega) (by decide) (by decide)), fun v h2 ov hq => ?_⟩
  obtain ⟨⟨rfl, q1, q2, q3, q4⟩, -, -, y1, y2, y3⟩ := hq
  have hF : ab_Fr wr_WK h h2 := (g2.wide (fun c hc => ab_swr_ok (by decide) hc)).trans (q2.wide (fun c hc => ab_swr_ok (by decide) hc))
  refine mt_waB q1 oh ?_
  intro h3 r1 r2
  have e3 := me_nil r2
  subst e3
  refine zp_loop hT hL hS hG oh 40001 0 none none _ (by decide) (by decide) (by decide) (fun v e => by cases e) (fun v e => by cases e) ?_
  rcases q4 with q4 | ⟨q4, q5, q6, q7, q8, q9⟩
  · exfalso
    have := (oR_len y1).1
    omega
  · refine Or.inr ?_
    obtain ⟨v1, v2, v3, v4⟩ := q9
    rw [est] at q8
    have e114 : mi_a h1 114 (Int.toNat 0) = mi_a h 114 0 := me_a (k := 114) g2 hS rfl rfl
    rw [e114] at q8
    have p30 : mi_f h3 14030 = 0 := (me_f (c := 14030) q2 g1 rfl rfl).trans f30
    have p28 : mi_f h3 14028 = 2 := (me_f (c := 14028) q2 g1 rfl rfl).trans f28
    have ul : wk_ul [(1, mi_a h 114 0, 0), (2, 1, 0)] = 1 := by
      rw [wk_ul_c (by decide)]
      rfl
    have n1 : wk_n 2 h3 = 1 := by omega
    refine ⟨⟨⟨q1, p28, Or.inr (Or.inr rfl), q4, by omega, fun e => absurd e (by decide), by omega, by omega, by omega, by rw [q8, ul]; omega, by omega⟩, hF, ?_, ?_, by omega, by omega⟩, (tr_0 (mi_a h)).2, LN, ([], 0, 0, 0), N, ?_, Int.zero_add _, ?_, rfl, y1, y2, by omega⟩
    · obtain ⟨l1, l2, l3⟩ := hr
      have hd := (hL.2.2.2 _ l1 l2).1
      rw [q8, p30, q6, f32]
      refine wk_pform ⟨l1, l2, ?_, by decide, by omega, by decide, by decide⟩ (wk_pout (Or.inr rfl) (by decide) (by decide) (by decide) ?_)
      · show (1 : Int) + _ - 4 ≤ _
        omega
      · unfold wk_SI
        exact ⟨rfl, rfl, by decide⟩
    · unfold tp_I
      rw [q8, n1]
      rfl
    · rw [q8]
      exact hG.1
    · show (1 : Int) = wk_n 2 h3
      omega
end ZPL
