/-! the growing walk of the reference, exactly: the loop -/
section GLP
variable {g g' : wk_g} {kw : Int → Bool} {s : gm_S} {r : List wk_E}
theorem gm_lo_g (hg : wk_gc g g') (h3 : ∀ i, g' 143 i = g 143 i) : ∀ (m : Nat) (a n b hi : Int), gm_lo g' m a n b hi = gm_lo g m a n b hi := by
  intro m
  induction m with
  | zero => intro a n b hi; rw [gm_lo_0, gm_lo_0]
  | succ m ih => intro a n b hi; rw [gm_lo_s, gm_lo_s, hg 128 (by decide), h3, ih]
theorem gm_w_g (hg : wk_gc g g') (h3 : ∀ i, g' 143 i = g 143 i) {f : Int} : gm_w g' f s = gm_w g f s := by
  unfold gm_w
  rw [gm_lo_g hg h3, hg 130 (by decide), hg 129 (by decide)]
theorem gm_fo_g (hg : wk_gc g g') (h3 : ∀ i, g' 143 i = g 143 i) {f : Int} : gm_fo g' f r s = gm_fo g f r s := by
  unfold gm_fo
  rw [gm_w_g hg h3, hg 130 (by decide), hg 129 (by decide), wk_alt_g hg, hg 126 (by decide), wk_it_g hg, hg 126 (by decide), wk_it_g hg]
theorem gm_u_g (hg : wk_gc g g') {u : Int} : gm_u g' kw u r s = gm_u g kw u r s := by
  unfold gm_u
  rw [hg 122 (by decide), gm_sg_g hg]
  simp only [gm_sg_g hg]
theorem gm_ag_g (hg : wk_gc g g') {u a : Int} : gm_ag g' kw u a r s = gm_ag g kw u a r s := by
  unfold gm_ag
  rw [gm_sg_g hg]
end GLP
def gl_TT : Int → sm_H → Prop := fun _ _ => True
def gl_I (Y : wk_Y) (h0 : sm_H) (c0 : gm_C) (zt : Int) (h : sm_H) : Prop := wl_I Y h0 1 gl_TT zt h ∧ ∃ s, gx_R h s ∧ gm_to (mi_a h0) (gx_k h0) zt.toNat c0 (wk_stk h, s) ∧ gm_I (wk_stk h, s)
def gl_H (Y : wk_Y) (h0 : sm_H) (c0 : gm_C) (zt : Int) (h : sm_H) : Prop := (ab_Sh sx_sk h ∧ ab_Fr wr_WK h0 h ∧ mi_f h 14044 = 1 ∧ ∃ n, gm_no (mi_a h0) (gx_k h0) n c0) ∨ gl_I Y h0 c0 zt h
def gl_End (Y : wk_Y) (h0 : sm_H) (c0 : gm_C) (w : Option mi_V) (h' : sm_H) : Prop := w = none ∧ ab_Sh sx_sk h' ∧ ab_Fr wr_WK h0 h' ∧ ((mi_f h' 14044 = 1 ∧ ∃ n, gm_no (mi_a h0) (gx_k h0) n c0) ∨ ∃ zt, 0 ≤ zt ∧ zt ≤ 40000 ∧ (wk_stk h' = [] ∨ zt = 40000) ∧ gl_I Y h0 c0 zt h')
theorem gl_T {Y : wk_Y} {h0 : sm_H} : wl_T Y h0 1 gl_TT := by
  refine ⟨fun e => absurd e (by decide), fun e => absurd e (by decide), ?_, fun e => absurd e (by decide), fun e => absurd e (by decide), fun e => absurd e (by decide)⟩
  intros
  exact trivial
section GLM
variable {d : Nat} {h0 : sm_H} {Y : wk_Y} {c0 : gm_C} {zt : Int}
theorem gl_next {h h1 h' : sm_H} {e : wk_E} {s : gm_S} {v : Option mi_V} {hq : sm_H} (he : e.1 = 0 ∨ e.1 = 1 ∨ e.1 = 2 ∨ e.1 = 3 ∨ e.1 = 4 ∨ e.1 = 5) (z0 : 0 ≤ zt) (hst : wk_stk h = e :: wk_stk h1) (hto : gm_to (mi_a h0) (gx_k h0) zt.toNat c0 (wk_stk h, s)) (hI : gm_I (wk_stk h, s)) (hW : wl_H Y h0 1 gl_TT (zt + 1) h') (hU : ux_Q hq (gm_st (mi_a h0) (gx_k h0) e (wk_stk h1) s) v h') : gl_H Y h0 c0 (zt + 1) h' := by
  rw [hst] at hto hI
  have et : (zt + 1).toNat = zt.toNat + 1 := by omega
  obtain ⟨-, u1, u2⟩ := hU
  rcases hW with ⟨w1, w2, w3⟩ | hI'
  · have w3 : mi_f h' 14044 = 1 := by
      rcases w3 with w3 | ⟨w3, -⟩
      · exact w3
      · exact absurd w3 (by decide)
    rcases u2 with ⟨u2, -⟩ | ⟨u2, -⟩
    · exact Or.inl ⟨w1, w2, w3, _, gm_appn (gm_none u2) _ _ hto⟩
    · exfalso; omega
  · have i4 := hI'.1.2.2.2.1
    rcases u2 with ⟨-, u2⟩ | ⟨-, c, u3, u4, u5, u6⟩
    · exfalso; omega
    · refine Or.inr ⟨hI', c.2, u5, ?_, ?_⟩
      · rw [et, u4]
        exact gm_app (gm_one u3) _ _ hto
      · rw [u4]
        exact gm_st_I he hI u3
theorem gl_in {h h1 : sm_H} {s : gm_S} {e : wk_E} (hi : wk_in 1 h1) (hS : ab_Sh sx_sk h) (g3 : ab_Fr [(14029, 14030)] h h1) (hR : gx_R h s) (hI : gm_I (e :: wk_stk h1, s)) : gx_in h1 s := by
  obtain ⟨i1, i2, i3, i4, i5, i6, i7, i8, i9, i10, i11⟩ := hi
  obtain ⟨j1, j2, j3, j4, -⟩ := hI
  dsimp only at j1 j2 j3 j4
  have := gm_outs_nn (e :: wk_stk h1)
  exact ⟨i1, i2, i4, i7, i10.symm, i8, i9, gx_R_fr hR g3 hS rfl rfl rfl rfl, by omega, by omega, by omega⟩
theorem gl_g {h h1 : sm_H} (hS0 : ab_Sh sx_sk h0) (hS : ab_Sh sx_sk h) (hF : ab_Fr wr_WK h0 h) (g3 : ab_Fr [(14029, 14030)] h h1) : wk_gc (mi_a h0) (mi_a h1) ∧ (∀ i, mi_a h1 143 i = mi_a h0 143 i) ∧ gx_k h1 = gx_k h0 := by
  have F : ab_Fr wr_WK h0 h1 := hF.trans (g3.wide (fun c hc => ab_swr_ok (by decide) hc))
  exact ⟨wk_gc_fr F hS0 rfl, fun i => me_a (k := 143) F hS0 rfl rfl, gx_k_fr F hS0 rfl rfl⟩
/-- a unit on the top -/
theorem gl_u {h h1 : sm_H} {w a : Int} (hS0 : ab_Sh sx_sk h0) (hL : wk_L (mi_a h) Y) (hG : gl_I Y h0 c0 zt h) (z0 : 0 ≤ zt) (z1 : zt < 40000) (ht : 0 < mi_f h 14029) (g1 : ab_Sh sx_sk h1) (g2 : mi_f h1 14029 = mi_f h 14029 - 1) (g3 : ab_Fr [(14029, 14030)] h h1) (e0 : mi_a h 165 (mi_f h 14029 - 1).toNat = 0) (ew : mi_a h 166 (mi_f h 14029 - 1).toNat = w) (ea : mi_a h 167 (mi_f h 14029 - 1).toNat = a) (ha : a = 0 ∨ a = 1) : me_E (d + 6) 210 0 [some (.inr (.inr 109)), some (.inl w), some (.inl a), none, none] [] h1 (fun v h' => v = none ∧ gl_H Y h0 c0 (zt + 1) h') := by
  obtain ⟨hI, s, hR, hto, hJ⟩ := hG
  obtain ⟨e1, hg, hn, hag, hK2, hV2, hZ, e30, e32, e16, hlen⟩ := wl_pop hI ht g1 g2 g3
  rw [e0, ew, ea] at e1
  have hSI := hI.2.2.1
  rw [e1] at hSI
  have hU : wk_U Y w ((wk_stk h1).length : Int) (mi_f h 14030) (mi_f h 14032) (1 - a) := by
    rcases ha with rfl | rfl
    · exact (wk_unit0 hSI).1
    · exact (wk_unit1 hSI).1
  obtain ⟨u1, u2, u3, u4, u5, u6, u7⟩ := hU
  obtain ⟨⟨a1, -, -, a4, a5⟩, -⟩ := hL.2.2.1 w u1 u2
  have hd := (hL.2.2.2 _ a4 a5).2.1
  have hi := wl_in1 hI ht g1 g2 g3 (by omega)
  have hJ' := hJ
  rw [e1] at hJ'
  obtain ⟨k1, k2, k3⟩ := gl_g hS0 hI.1.1 hI.2.1 g3
  refine ((wl_u (d := d) gl_T hL hI z0 z1 ht g1 g2 g3 e0 ew ea ha).and (me_unitx (d := d) (gl_in hi hI.1.1 g3 hR hJ') (by have j2 := hJ'.2.1; have j3 := hJ'.2.2.1.2; dsimp only at j2 j3; omega) (wl_us hL hg u1 u2) (by omega) ha (fun z => by omega))).imp (fun v h' hq => ?_)
  obtain ⟨⟨q1, q2⟩, q3⟩ := hq
  refine ⟨q1, ?_⟩
  rw [gm_st_0, gm_u_g k1, k3, ← gm_st_0] at q3
  exact gl_next (Or.inl rfl) z0 e1 hto hJ q2 q3
theorem gl_f {h h1 : sm_H} {f a : Int} (hS0 : ab_Sh sx_sk h0) (hL : wk_L (mi_a h) Y) (hG : gl_I Y h0 c0 zt h) (z0 : 0 ≤ zt) (z1 : zt < 40000) (ht : 0 < mi_f h 14029) (g1 : ab_Sh sx_sk h1) (g2 : mi_f h1 14029 = mi_f h 14029 - 1) (g3 : ab_Fr [(14029, 14030)] h h1) (e0 : mi_a h 165 (mi_f h 14029 - 1).toNat = 1) (ew : mi_a h 166 (mi_f h 14029 - 1).toNat = f) (ea : mi_a h 167 (mi_f h 14029 - 1).toNat = a) : me_E (d + 6) 223 0 [some (.inr (.inr 109)), some (.inl f), none, none, none, none] [] h1 (fun v h' => v = none ∧ gl_H Y h0 c0 (zt + 1) h') := by
  obtain ⟨hI, s, hR, hto, hJ⟩ := hG
  obtain ⟨e1, hg, hn, hag, hK2, hV2, hZ, e30, e32, e16, hlen⟩ := wl_pop hI ht g1 g2 g3
  rw [e0, ew, ea] at e1
  have hSI := hI.2.2.1
  rw [e1] at hSI
  obtain ⟨hF, hb⟩ := wk_form hSI
  have hL1 : wk_L (mi_a h1) Y := wk_L_g hL hg
  obtain ⟨f1, f2, -⟩ := id hF
  obtain ⟨d1, d2, d3, d4, dB, d5⟩ := hL1.2.2.2 f f1 f2
  have hf80 := hL.2.1
  have hi := wl_in1 hI ht g1 g2 g3 (by omega)
  have hJ' := hJ
  rw [e1] at hJ'
  obtain ⟨k1, k2, k3⟩ := gl_g hS0 hI.1.1 hI.2.1 g3
  refine ((wl_f (d := d) gl_T hL hI z0 z1 ht g1 g2 g3 e0 ew ea).and (me_choosex (d := d) (U := wk_u Y) (gl_in hi hI.1.1 g3 hR hJ') f1 (by omega) ⟨d3, d4, fun j hj => ⟨(d5 j hj).1, (d5 j hj).2.1⟩⟩ (wk_L_C hL1) (fun j hj => ?_) (fun j hj => ?_))).imp (fun v h' hq => ?_)
  · rcases (d5 j hj).2.2 with x | x
    · exact Or.inl x
    · exact Or.inr x.1
  · have := (wl_D hL1 hF hb hj).1
    omega
  · obtain ⟨⟨q1, q2⟩, q3⟩ := hq
    refine ⟨q1, ?_⟩
    have q3 := gx_Q_u (h := h1) q3
    rw [gm_fo_g k1 k2, ← gm_st_1 (kw := gx_k h0) (a := a)] at q3
    exact gl_next (Or.inr (Or.inl rfl)) z0 e1 hto hJ q2 q3
theorem gl_a {h h1 : sm_H} {w a : Int} (hS0 : ab_Sh sx_sk h0) (hL : wk_L (mi_a h) Y) (hG : gl_I Y h0 c0 zt h) (z0 : 0 ≤ zt) (z1 : zt < 40000) (ht : 0 < mi_f h 14029) (g1 : ab_Sh sx_sk h1) (g2 : mi_f h1 14029 = mi_f h 14029 - 1) (g3 : ab_Fr [(14029, 14030)] h h1) (e0 : mi_a h 165 (mi_f h 14029 - 1).toNat = 5) (ew : mi_a h 166 (mi_f h 14029 - 1).toNat = w) (ea : mi_a h 167 (mi_f h 14029 - 1).toNat = a) : me_E (d + 6) 227 0 [some (.inr (.inr 109)), some (.inl w), some (.inl a), none] [] h1 (fun v h' => v = none ∧ gl_H Y h0 c0 (zt + 1) h') := by
  obtain ⟨hI, s, hR, hto, hJ⟩ := hG
  obtain ⟨e1, hg, hn, hag, hK2, hV2, hZ, e30, e32, e16, hlen⟩ := wl_pop hI ht g1 g2 g3
  rw [e0, ew, ea] at e1
  have oa : mi_in a := by rw [← ea]; exact mi_inT _
  have hSI := hI.2.2.1
  rw [e1] at hSI
  obtain ⟨⟨u1, u2, u3, u4, u5, u6, u7⟩, hb⟩ := wk_again hSI
  obtain ⟨⟨a1, -⟩, -⟩ := hL.2.2.1 w u1 u2
  have hi := wl_in1 hI ht g1 g2 g3 (by omega)
  have hJ' := hJ
  rw [e1] at hJ'
  obtain ⟨k1, k2, k3⟩ := gl_g hS0 hI.1.1 hI.2.1 g3
  refine ((wl_a (d := d) gl_T hL hI z0 z1 ht g1 g2 g3 e0 ew ea).and (me_againx (d := d) (gl_in hi hI.1.1 g3 hR hJ') (wl_us hL hg u1 u2) (by omega) oa)).imp (fun v h' hq => ?_)
  obtain ⟨⟨q1, q2⟩, q3⟩ := hq
  refine ⟨q1, ?_⟩
  have q3 := gx_Q_u (h := h1) q3
  rw [gm_ag_g k1, k3, ← gm_st_5] at q3
  exact gl_next (Or.inr (Or.inr (Or.inr (Or.inr (Or.inr rfl))))) z0 e1 hto hJ q2 q3
/-- what only takes the top away -/
theorem gl_ux {h' hq : sm_H} {r : List wk_E} {t : gm_S} (q1 : ab_Sh sx_sk h') (e44 : mi_f h' 14044 = 0) (est : wk_stk h' = r) (hR : gx_R h' t) (e32 : mi_f h' 14032 = wk_ul r) : ux_Q hq (some (r, t)) none h' := ⟨rfl, q1, Or.inr ⟨e44, (r, t), rfl, est, hR, e32⟩⟩
theorem gl_247 {zh : Int} {q3 q4 : Option mi_V} {h : sm_H} (oh : mi_in zh) (ot : mi_in zt) (o3 : ∀ v, q3 = some v → mi_ok v) (o4 : ∀ v, q4 = some v → mi_ok v) (h1 : 0 ≤ zt) (h2 : zt ≤ 40000) (hH : gl_H Y h0 c0 zt h) (he : wl_I Y h0 1 gl_TT zt h → mi_f h 14029 ≤ 0 ∨ zt = 40000) : me_E (d + 7) 206 247 [some (.inr (.inr 109)), some (.inl zh), some (.inl zt), q3, q4] [] h (gl_End Y h0 c0) := by
  have hS : ab_Sh sx_sk h := by
    rcases hH with hH | hH
    · exact hH.1
    · exact hH.1.1.1
  have fin : gl_End Y h0 c0 none h := by
    rcases hH with ⟨k1, k2, k3⟩ | hG
    · exact ⟨rfl, k1, k2, Or.inl k3⟩
    · have hI := hG.1
      refine ⟨rfl, hS, hI.2.1, Or.inr ⟨zt, h1, h2, ?_, hG⟩⟩
      rcases he hI with e | e
      · refine Or.inl ?_
        have := hI.1.2.2.2.2.2.2.1
        have e0 : mi_f h 14029 = 0 := by omega
        unfold wk_stk
        rw [e0]
        rfl
      · exact Or.inr e
  refine mt_waE hS oh ot o3 o4 ?_ ?_ ?_ ?_ ?_
  · intro b c h3 r1 r2
    have e3 := me_nil r2
    subst e3
    exact fin
  · intro b1 b2 c1 c2 h3 r1 r2
    have e3 := me_nil r2
    subst e3
    exact fin
  · intro b1 b2 b3 c1 c2 c3 h3 r1 r2
    have e3 := me_nil r2
    subst e3
    exact fin
  · intro b1 b2 b3 b4 c1 c2 c3
    rcases hH with hH | hG
    · have := hH.2.2.1
      exfalso; omega
    · have := hG.1.1.2.1
      exfalso; omega
  · intro b1 b2 b3 b4 c1 c2 c3
    rcases hH with hH | hG
    · have := hH.2.2.1
      exfalso; omega
    · have := hG.1.1.2.1
      exfalso; omega
theorem gl_loop {zh : Int} (hS0 : ab_Sh sx_sk h0) (hL0 : wk_L (mi_a h0) Y) (oh : mi_in zh) : ∀ (N : Nat) (zt : Int) (q3 q4 : Option mi_V) (h : sm_H), 40000 - zt < N → 0 ≤ zt → zt ≤ 40000 → (∀ v, q3 = some v → mi_ok v) → (∀ v, q4 = some v → mi_ok v) → gl_H Y h0 c0 zt h → me_E (d + 7) 206 52 [some (.inr (.inr 109)), some (.inl zh), some (.inl zt), q3, q4] [] h (gl_End Y h0 c0) := by
  intro N
  induction N with
  | zero => intro zt q3 q4 h hN z0 z1; exfalso; omega
  | succ N ih =>
    intro zt q3 q4 h hN z0 z1 o3 o4 hH
    have ot : mi_in zt := ⟨by omega, by omega⟩
    have hS : ab_Sh sx_sk h := by
      rcases hH with hH | hH
      · exact hH.1
      · exact hH.1.1.1
    have toI : mi_f h 14044 = 0 → gl_I Y h0 c0 zt h := fun b => by
      rcases hH with hH | hH
      · exfalso
        have := hH.2.2.1
        omega
      · exact hH
    have o2 : ∀ x : Int32, ∀ v : mi_V, some (Sum.inl x.toInt : mi_V) = some v → mi_ok v := fun x v e => by
      cases e
      exact mi_inT x
    have nx : ∀ (x y : Int32) (h' : sm_H), zt < 40000 → gl_H Y h0 c0 (zt + 1) h' → ab_Sh sx_sk h' ∧ me_E (d + 7) 206 52 [some (.inr (.inr 109)), some (.inl zh), some (.inl (zt + 1)), some (.inl x.toInt), some (.inl y.toInt)] [] h' (gl_End Y h0 c0) := fun x y h' hlt hq => by
      refine ⟨?_, ih (zt + 1) _ _ h' (by omega) (by omega) (by omega) (o2 x) (o2 y) hq⟩
      rcases hq with hq | hq
      · exact hq.1
      · exact hq.1.1.1
    have nx175 : ∀ (x y : Int32) (h' : sm_H), zt < 40000 → gl_H Y h0 c0 (zt + 1) h' → me_E (d + 7) 206 175 [some (.inr (.inr 109)), some (.inl zh), some (.inl zt), some (.inl x.toInt), some (.inl y.toInt)] [] h' (gl_End Y h0 c0) := fun x y h' hlt hq => mt_wb175 (nx x y h' hlt hq).1 oh ot (mi_inT x) (mi_inT y) ⟨by omega, fun h3 r1 r2 => by
      have e3 := me_nil r2
      subst e3
      exact (nx x y _ hlt hq).2⟩
    have nx183 : ∀ (x y : Int32) (h' : sm_H), zt < 40000 → gl_H Y h0 c0 (zt + 1) h' → me_E (d + 7) 206 183 [some (.inr (.inr 109)), some (.inl zh), some (.inl zt), some (.inl x.toInt), some (.inl y.toInt)] [] h' (gl_End Y h0 c0) := fun x y h' hlt hq => mt_wb183 (nx x y h' hlt hq).1 oh ot (mi_inT x) (mi_inT y) ⟨by omega, fun h3 r1 r2 => by
      have e3 := me_nil r2
      subst e3
      exact (nx x y _ hlt hq).2⟩
    have nx208 : ∀ (x y : Int32) (h' : sm_H), zt < 40000 → gl_H Y h0 c0 (zt + 1) h' → me_E (d + 7) 206 208 [some (.inr (.inr 109)), some (.inl zh), some (.inl zt), some (.inl x.toInt), some (.inl y.toInt)] [] h' (gl_End Y h0 c0) := fun x y h' hlt hq => mt_wb208 (nx x y h' hlt hq).1 oh ot (mi_inT x) (mi_inT y) ⟨by omega, fun h3 r1 r2 => by
      have e3 := me_nil r2
      subst e3
      exact (nx x y _ hlt hq).2⟩
    have nx218 : ∀ (x y : Int32) (h' : sm_H), zt < 40000 → gl_H Y h0 c0 (zt + 1) h' → me_E (d + 7) 206 218 [some (.inr (.inr 109)), some (.inl zh), some (.inl zt), some (.inl x.toInt), some (.inl y.toInt)] [] h' (gl_End Y h0 c0) := fun x y h' hlt hq => mt_wb218 (nx x y h' hlt hq).1 oh ot (mi_inT x) (mi_inT y) ⟨by omega, fun h3 r1 r2 => by
      have e3 := me_nil r2
      subst e3
      exact (nx x y _ hlt hq).2⟩
    have stk1 : ∀ (h1 : sm_H) (wr : List (Nat × Nat)), 0 < mi_f h 14029 → mi_f h1 14029 = mi_f h 14029 - 1 → ab_Fr wr h h1 → (ab_in wr 21120 || ab_in wr 21248 || ab_in wr 21376) = false → wk_stk h1 = wk_st h (mi_f h 14029 - 1).toNat := by
      intro h1 wr c2 g2 g5 hw
      simp only [Bool.or_eq_false_iff] at hw
      unfold wk_stk
      rw [g2]
      exact wk_st_eq _ (fun i _ => ⟨me_a (k := 165) g5 hS rfl hw.1.1, me_a (k := 166) g5 hS rfl hw.1.2, me_a (k := 167) g5 hS rfl hw.2⟩)
    refine mt_waC hS oh ot o3 o4 ?_ ?_ ?_ ?_ ?_ ?_ ?_ ?_ ?_ ?_ ?_ ?_
    · intro c h1 g1 g2
      have e1 := me_nil g2
      subst e1
      exact gl_247 oh ot o3 o4 z0 z1 hH (fun _ => Or.inr (by omega))
    · intro b1 c1 c2 h1 g1 g2
      have e1 := me_nil g2
      subst e1
      exact gl_247 oh ot o3 o4 z0 z1 hH (fun _ => Or.inl c2)
    · intro b1 b2 c1 c2 c3 h1 g1 g2
      have e1 := me_nil g2
      subst e1
      exact gl_247 oh ot o3 o4 z0 z1 hH (fun hI => by have := hI.1.2.2.2.2.1; omega)
    · intro b1 b2 b3 c1 c2 c3 c4 h1 g1 g2
      have e1 := me_nil g2
      subst e1
      exact gl_247 oh ot o3 o4 z0 z1 hH (fun hI => by have := hI.1.2.2.2.1; omega)
    · intro b1 b2 b3 c1 c2 c3 c4 s k
      have hG := toI c4
      have hI := hG.1
      have hL : wk_L (mi_a h) Y := wk_L_g hL0 (wk_gc_fr hI.2.1 hS0 rfl)
      have hb29 := hI.2.2.2.2.1
      have htop := hI.2.2.1
      rw [wk_stk_pop c2] at htop
      have hcs := wk_cases htop
      dsimp only at hcs
      refine ⟨by omega, fun h1 g1 g2 g3 => ⟨_, gl_u (d := d) hS0 hL hG z0 c1 c2 g1 g2 g3 (by omega) rfl (by omega) (by omega), fun v h' ov hq => ?_⟩⟩
      obtain ⟨rfl, hq⟩ := hq
      exact nx175 _ _ h' c1 hq
    · intro b1 b2 b3 c1 c2 c3 c4 s k
      have hG := toI c4
      have hI := hG.1
      have hL : wk_L (mi_a h) Y := wk_L_g hL0 (wk_gc_fr hI.2.1 hS0 rfl)
      have hb29 := hI.2.2.2.2.1
      have htop := hI.2.2.1
      rw [wk_stk_pop c2] at htop
      have hcs := wk_cases htop
      dsimp only at hcs
      refine ⟨by omega, fun h1 g1 g2 g3 => ⟨_, gl_u (d := d) hS0 hL hG z0 c1 c2 g1 g2 g3 (by omega) rfl (by omega) (by omega), fun v h' ov hq => ?_⟩⟩
      obtain ⟨rfl, hq⟩ := hq
      exact nx175 _ _ h' c1 hq
    · intro b1 b2 b3 c1 c2 c3 c4 s
      have hG := toI c4
      have hI := hG.1
      have hL : wk_L (mi_a h) Y := wk_L_g hL0 (wk_gc_fr hI.2.1 hS0 rfl)
      have hb29 := hI.2.2.2.2.1
      refine ⟨by omega, fun h1 g1 g2 g3 => ⟨_, gl_f (d := d) hS0 hL hG z0 c1 c2 g1 g2 g3 (by omega) rfl rfl, fun v h' ov hq => ?_⟩⟩
      obtain ⟨rfl, hq⟩ := hq
      exact nx183 _ _ h' c1 hq
    · intro b1 b2 b3 b4 c1 c2 c3 c4 s
      obtain ⟨hI, gs, hR, hto, hJ⟩ := toI c4
      have hb29 := hI.2.2.2.2.1
      have htop := hI.2.2.1
      have hst := wk_stk_pop c2
      have es : mi_a h 165 (mi_f h 14029 - 1).toNat = 2 := by omega
      rw [es] at hst
      rw [hst] at htop
      obtain ⟨w1, w2, w3, w4, w5⟩ := wk_out htop
      refine ⟨by omega, fun h1 g1 g2 g3 g4 g5 => ?_⟩
      have e30 : mi_f h1 14030 = mi_f h 14030 := me_f (c := 14030) g5 hS rfl rfl
      have e16 : mi_f h1 14016 = mi_f h 14016 := me_f (c := 14016) g5 hS rfl rfl
      have k1 := stk1 h1 _ c2 g2 g5 rfl
      have hW : wl_H Y h0 1 gl_TT (zt + 1) h1 := Or.inr (wl_rest gl_T hI z0 c1 c2 g2 hst (Or.inl rfl) g1 g5 (by decide) (by
        rw [e30, g4]
        exact wk_SI_Z _ _ _ _ w5 (fun i _ => ⟨me_a (k := 168) g5 hS rfl rfl, me_a (k := 169) g5 hS rfl rfl⟩) (by show mi_f h 14016 ≤ mi_f h1 14016; omega)) (by omega) (by have := hI.2.2.2.2.2; omega))
      refine (nx _ _ h1 c1 (gl_next (hq := h) (v := none) (h1 := h1) (Or.inr (Or.inr (Or.inl rfl))) z0 (by rw [k1]; exact hst) hto hJ hW ?_)).2
      rw [gm_st_2]
      have jd := hJ.1
      have jl := hJ.2.1
      have jn := hJ.2.2.1
      dsimp only at jd jl jn
      rw [hst, gm_outs_2] at jd
      have := gm_outs_nn (wk_st h (mi_f h 14029 - 1).toNat)
      obtain ⟨r1, r2, r3, r4, r5, r6⟩ := hR
      refine gl_ux g1 ((me_f (c := 14044) g5 hS rfl rfl).trans c4) rfl ?_ ?_
      · unfold gx_R
        simp only [gm_T_mk, gm_X_mk, gm_F_mk, gm_D_mk, gm_P_mk]
        refine ⟨gx_T_fr r1 g5 hS rfl, (me_l (c := 14047) g5 hS rfl rfl).trans r2, (me_f (c := 14035) g5 hS rfl rfl).trans r3, ?_, e30.trans r5, gx_P_fr g5 hS rfl _ r6⟩
        rw [g3, r4]
        exact (gx_wrap (by omega) (by omega)).1
      · have i10 := hI.1.2.2.2.2.2.2.2.2.2.1
        rw [hst, wk_ul_o] at i10
        rw [g4, k1]
        omega
    · intro b1 b2 b3 b4 b5 c1 c2 c3 c4 s
      obtain ⟨hI, gs, hR, hto, hJ⟩ := toI c4
      have hb29 := hI.2.2.2.2.1
      have hp60 := hI.2.2.2.2.2
      have htop := hI.2.2.1
      have hst := wk_stk_pop c2
      have es : mi_a h 165 (mi_f h 14029 - 1).toNat = 3 := by omega
      rw [es] at hst
      rw [hst] at htop
      obtain ⟨w1, w2, w3⟩ := wk_mid htop
      refine ⟨by omega, fun h1 g1 g2 g4 g5 => ?_⟩
      have e30 : mi_f h1 14030 = mi_f h 14030 := me_f (c := 14030) g5 hS rfl rfl
      have e32 : mi_f h1 14032 = mi_f h 14032 := me_f (c := 14032) g5 hS rfl rfl
      have e16 : mi_f h1 14016 = mi_f h 14016 := me_f (c := 14016) g5 hS rfl rfl
      have k1 := stk1 h1 _ c2 g2 g5 rfl
      have hW : wl_H Y h0 1 gl_TT (zt + 1) h1 := Or.inr (wl_rest gl_T hI z0 c1 c2 g2 hst (Or.inr (Or.inl rfl)) g1 g5 (by decide) (by
        rw [e30, e32]
        refine wk_middle (wk_SI_Z (Z' := wl_Z h1) _ _ _ _ w3 (fun i hi => ⟨me_a (k := 168) g5 hS rfl rfl, ?_⟩) (by show mi_f h 14016 ≤ mi_f h1 14016; omega)) ?_
        · rw [if_neg (by decide)] at hi
          show mi_a h1 169 i = mi_a h 169 i
          rw [g4, if_neg (by omega)]
        · have w2 : 0 ≤ mi_a h 168 (mi_f h 14030 - 1).toNat ∧ mi_a h 168 (mi_f h 14030 - 1).toNat ≤ mi_f h 14016 := w2
          show 0 ≤ mi_a h1 168 (mi_f h 14030 - 1).toNat ∧ mi_a h1 168 (mi_f h 14030 - 1).toNat ≤ mi_a h1 169 (mi_f h 14030 - 1).toNat ∧ mi_a h1 169 (mi_f h 14030 - 1).toNat ≤ mi_f h1 14016
          rw [g4, if_pos rfl, me_a (k := 168) g5 hS rfl rfl, e16]
          exact ⟨w2.1, w2.2, Int.le_refl _⟩) (by rw [e32]; exact hI.1.2.2.2.2.2.2.2.2.1) (by omega))
      refine (nx _ _ h1 c1 (gl_next (hq := h) (v := none) (h1 := h1) (Or.inr (Or.inr (Or.inr (Or.inl rfl)))) z0 (by rw [k1]; exact hst) hto hJ hW ?_)).2
      rw [gm_st_3]
      obtain ⟨r1, r2, r3, r4, r5, r6⟩ := hR
      refine gl_ux g1 ((me_f (c := 14044) g5 hS rfl rfl).trans c4) rfl ?_ ?_
      · unfold gx_R gm_mid
        simp only [gm_T_mk, gm_X_mk, gm_F_mk, gm_D_mk, gm_P_mk]
        refine ⟨gx_T_fr r1 g5 hS rfl, (me_l (c := 14047) g5 hS rfl rfl).trans r2, (me_f (c := 14035) g5 hS rfl rfl).trans r3, (me_f (c := 14031) g5 hS rfl rfl).trans r4, ?_, ?_⟩
        · rw [e30, r5]
          cases gm_P gs with
          | nil => rfl
          | cons p q => rfl
        · cases hP : gm_P gs with
          | nil => exact trivial
          | cons p q =>
            rw [hP] at r5 r6
            rw [List.length_cons] at r5
            obtain ⟨x1, x2, x3⟩ := r6
            have ei : (mi_f h 14030 - 1).toNat = q.length := by omega
            refine ⟨(me_a (k := 168) g5 hS rfl rfl).trans x1, Or.inr ?_, gx_P_lt (L := q.length) (fun i hi => ⟨me_a (k := 168) g5 hS rfl rfl, ?_⟩) _ (Nat.le_refl _) x3⟩
            · rw [g4, if_pos ei.symm]
              exact r1.1
            · rw [g4, if_neg (by omega)]
      · have i10 := hI.1.2.2.2.2.2.2.2.2.2.1
        rw [hst, wk_ul_c (by decide)] at i10
        rw [e32, k1]
        exact i10.symm
    · intro b1 b2 b3 c1 c2 c3 c4 s
      obtain ⟨hI, gs, hR, hto, hJ⟩ := toI c4
      have hb29 := hI.2.2.2.2.1
      have hp60 := hI.2.2.2.2.2
      have htop := hI.2.2.1
      have hst := wk_stk_pop c2
      have es : mi_a h 165 (mi_f h 14029 - 1).toNat = 4 := by omega
      rw [es] at hst
      rw [hst] at htop
      obtain ⟨w1, w2, w3⟩ := wk_turn htop
      have w2 : 0 ≤ mi_a h 168 (mi_f h 14030 - 1).toNat ∧ mi_a h 168 (mi_f h 14030 - 1).toNat ≤ mi_a h 169 (mi_f h 14030 - 1).toNat ∧ mi_a h 169 (mi_f h 14030 - 1).toNat ≤ mi_f h 14016 := w2
      refine ⟨by omega, fun h1 g1 g2 g3 => ?_⟩
      have e30 : mi_f h1 14030 = mi_f h 14030 := me_f (c := 14030) g3 hS rfl rfl
      have e16 : mi_f h1 14016 = mi_f h 14016 := me_f (c := 14016) g3 hS rfl rfl
      have e168 : mi_a h1 168 (mi_f h 14030 - 1).toNat = mi_a h 168 (mi_f h 14030 - 1).toNat := me_a (k := 168) g3 hS rfl rfl
      have e169 : mi_a h1 169 (mi_f h 14030 - 1).toNat = mi_a h 169 (mi_f h 14030 - 1).toNat := me_a (k := 169) g3 hS rfl rfl
      -- the pair on the top
      obtain ⟨p, q, hP, hp0⟩ : ∃ p q, gm_P gs = p :: q ∧ p.2 ≠ 0 := by
        have j5 := hJ.2.2.2.2
        dsimp only at j5
        rw [hst] at j5
        cases hP : gm_P gs with
        | nil =>
          rw [hP] at j5
          exact absurd j5 gm_fl_40
        | cons p q =>
          rw [hP] at j5
          have j5 : gm_fl ((4, mi_a h 166 (mi_f h 14029 - 1).toNat, mi_a h 167 (mi_f h 14029 - 1).toNat) :: wk_st h (mi_f h 14029 - 1).toNat) (decide (p.2 ≠ 0) :: gm_fg q) := j5
          rw [gm_fl_4] at j5
          exact ⟨p, q, rfl, of_decide_eq_true j5.1⟩
      obtain ⟨r1, r2, r3, r4, r5, r6⟩ := id hR
      have r16 := r1.1
      rw [hP] at r5 r6
      rw [List.length_cons] at r5
      obtain ⟨x1, x2, x3⟩ := r6
      have x2 := x2.resolve_left hp0
      have ei : (mi_f h 14030 - 1).toNat = q.length := by omega
      rw [ei, x1, x2, r16] at w2
      refine ⟨_, (me_swap (d := d + 6) g1 (by omega) (by omega) (by rw [e30, e168, ei, x1]; omega) (by rw [e30, e168, e169, ei, x1, x2]; omega) (by rw [e30, e169, e16, ei, x2]; omega)).and (me_swapx (d := d + 6) g1 (gx_R_fr hR g3 hS rfl rfl rfl rfl) hP (by omega) hp0 (by omega) (by omega)), fun v h' ov hq => ?_⟩
      obtain ⟨⟨rfl, q1, q2, q3⟩, ⟨-, -, -, q4⟩⟩ := hq
      have hF : ab_Fr ([(14029, 14031), (18560, 18561), (20480, 20481)]) h h' := (g3.wide (fun c hc => ab_swr_ok (by decide) hc)).trans (q2.wide (fun c hc => ab_swr_ok (by decide) hc))
      have f29 : mi_f h' 14029 = mi_f h 14029 - 1 := (me_f (c := 14029) q2 g1 rfl rfl).trans g2
      have f16 : mi_f h' 14016 = mi_f h 14016 := me_f (c := 14016) hF hS rfl rfl
      have f32 : mi_f h' 14032 = mi_f h 14032 := me_f (c := 14032) hF hS rfl rfl
      have f30 : mi_f h' 14030 = mi_f h 14030 - 1 := by omega
      have k1 := stk1 h' _ c2 f29 hF rfl
      have hW : wl_H Y h0 1 gl_TT (zt + 1) h' := Or.inr (wl_rest gl_T hI z0 c1 c2 f29 hst (Or.inr (Or.inr rfl)) q1 hF (by decide) (by
        rw [f30, f32]
        exact wk_SI_Z _ _ _ _ w3 (fun i _ => ⟨me_a (k := 168) hF hS rfl rfl, me_a (k := 169) hF hS rfl rfl⟩) (by show mi_f h 14016 ≤ mi_f h' 14016; omega)) (by rw [f32]; exact hI.1.2.2.2.2.2.2.2.2.1) (by omega))
      refine nx208 _ _ h' c1 (gl_next (hq := h) (v := none) (h1 := h') (Or.inr (Or.inr (Or.inr (Or.inr (Or.inl rfl))))) z0 (by rw [k1]; exact hst) hto hJ hW ?_)
      rw [gm_st_4]
      refine gl_ux q1 ((me_f (c := 14044) hF hS rfl rfl).trans c4) rfl q4 ?_
      have i10 := hI.1.2.2.2.2.2.2.2.2.2.1
      rw [hst, wk_ul_c (by decide)] at i10
      rw [f32, k1]
      exact i10.symm
    · intro b1 b2 b3 c1 c2 c3 c4 s
      have hG := toI c4
      have hI := hG.1
      have hL : wk_L (mi_a h) Y := wk_L_g hL0 (wk_gc_fr hI.2.1 hS0 rfl)
      have hb29 := hI.2.2.2.2.1
      refine ⟨by omega, fun h1 g1 g2 g3 => ⟨_, gl_a (d := d) hS0 hL hG z0 c1 c2 g1 g2 g3 (by omega) rfl rfl, fun v h' ov hq => ?_⟩⟩
      obtain ⟨rfl, hq⟩ := hq
      exact nx218 _ _ h' c1 hq
    · intro b1 b2 b3 b4 c1 c2 c3 c4 s
      exfalso
      have hI := (toI c4).1
      have htop := hI.2.2.1
      rw [wk_stk_pop c2] at htop
      have hcs := wk_cases htop
      dsimp only at hcs
      omega
/-- from the begin -/
theorem me_walkx {h : sm_H} (hS : ab_Sh sx_sk h) (hL : wk_L (mi_a h) Y) (hr : wk_Lrule Y (mi_a h 114 0)) (hf0 : 0 ≤ mi_f h 14035) (hf1 : mi_f h 14035 ≤ 20) : me_E (d + 7) 206 0 [some (.inr (.inr 109)), some (.inl (1 : Int)), none, none, none] [] h (gl_End Y h ([(1, mi_a h 114 0, 0), (2, 1, 0)], (mx_l h 14047, mi_f h 14035 - 1, [(1, 0, 0)], 1, []))) := by
  have oh : mi_in 1 := ⟨by decide, by decide⟩
  refine mt_waA hS oh ?_
  intro h1 g1 f16 f28 f29 f30 f31 f32 f33 f34 f44 g2
  have est : wk_stk h1 = [] := by unfold wk_stk; rw [f29]; rfl
  have e14 : mi_a h1 114 (Int.toNat 0) = mi_a h 114 0 := me_a (k := 114) g2 hS rfl rfl
  have hR1 : gx_R h1 (mx_l h 14047, mi_f h 14035, [], 0, []) := by
    unfold gx_R
    simp only [gm_T_mk, gm_X_mk, gm_F_mk, gm_D_mk, gm_P_mk]
    exact ⟨⟨f16, fun k hk => absurd hk (Nat.not_lt_zero _), fun k j hk => absurd hk (Nat.not_lt_zero _)⟩, me_l (c := 14047) g2 hS rfl rfl, me_f (c := 14035) g2 hS rfl rfl, f31, f30, trivial⟩
  refine ⟨_, (me_enter (d := d + 4) 1 g1 f28 (by decide) (by decide) (by omega) (by omega) (by omega) (by omega) (fun _ => by omega)).and (me_enterx (d := d + 4) g1 f28 (by omega) (by omega) (by rw [est, f32]; rfl) (by omega) (by omega) (by decide) (by decide) hR1 (by rw [gm_F_mk]; omega) (by rw [gm_F_mk]; omega) (by rw [gm_D_mk]; decide) (by rw [gm_D_mk]; decide)), fun v h2 ov hq => ?_⟩
  obtain ⟨⟨rfl, q1, q2, q3, q4⟩, qx⟩ := hq
  have hF : ab_Fr wr_WK h h2 := (g2.wide (fun c hc => ab_swr_ok (by decide) hc)).trans (q2.wide (fun c hc => ab_swr_ok (by decide) hc))
  have een : gm_en (mi_a h1) 0 (wk_stk h1) (mx_l h 14047, mi_f h 14035, [], 0, []) = some ([(1, mi_a h 114 0, 0), (2, 1, 0)], (mx_l h 14047, mi_f h 14035 - 1, [(1, 0, 0)], 1, [])) := by
    unfold gm_en gm_c
    rw [est, if_neg (show ¬ (12 : Int) ≤ wk_ul [] by decide), gm_X_mk, gm_F_mk, gm_T_mk, gm_D_mk, gm_P_mk, gm_X_mk, gm_F_mk, gm_T_mk, gm_D_mk, gm_P_mk, if_neg (show ¬ 100 ≤ ([] : List (Int × Int × Int)).length by decide), e14]
    rfl
  rw [een] at qx
  obtain ⟨-, -, -, -, -, q5⟩ := qx
  refine mt_waB q1 oh ?_
  intro h3 r1 r2
  have e3 := me_nil r2
  subst e3
  refine gl_loop hS hL oh 40001 0 none none _ (by decide) (by decide) (by decide) (fun v e => by cases e) (fun v e => by cases e) ?_
  rcases q5 with ⟨q5, -⟩ | ⟨q5, c, q6, q7, q8, q9⟩
  · cases q5
  · injection q6 with q6
    subst q6
    dsimp only at q7 q8 q9
    rcases q4 with q4 | ⟨-, p5, p6, p7, p8, p9⟩
    · exfalso; omega
    · obtain ⟨v1, v2, v3, v4⟩ := p9
      have p30 : mi_f h3 14030 = 0 := (me_f (c := 14030) q2 g1 rfl rfl).trans f30
      have p28 : mi_f h3 14028 = 1 := (me_f (c := 14028) q2 g1 rfl rfl).trans f28
      have ul : wk_ul [(1, mi_a h 114 0, 0), (2, 1, 0)] = 1 := by
        rw [wk_ul_c (by decide)]
        rfl
      have en : wk_n 1 h1 = 0 := by unfold wk_n; rw [if_neg (by decide)]; exact f16
      refine Or.inr ⟨⟨⟨q1, p28, Or.inr (Or.inl rfl), q5, by omega, fun e => absurd e (by decide), by omega, by omega, by omega, by rw [q7, ul]; omega, by omega⟩, hF, ?_, trivial, by omega, by omega⟩, _, q8, ?_, ?_⟩
      · obtain ⟨l1, l2, l3⟩ := hr
        have hd := (hL.2.2.2 _ l1 l2).1
        rw [q7, p30, p6, f32]
        refine wk_pform ⟨l1, l2, ?_, by decide, by omega, by decide, by decide⟩ (wk_pout (Or.inr rfl) (by decide) (by decide) (by decide) ?_)
        · show (1 : Int) + _ - 4 ≤ _
          omega
        · unfold wk_SI
          exact ⟨rfl, rfl, by decide⟩
      · rw [q7]
        rfl
      · rw [q7]
        unfold gm_I gm_len
        dsimp only
        simp only [gm_T_mk, gm_F_mk, gm_D_mk, gm_P_mk]
        exact ⟨rfl, by decide, by decide, by show -(1 : Int) ≤ _ ∧ _; omega, trivial⟩
end GLM
