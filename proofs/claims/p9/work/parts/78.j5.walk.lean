/-! the walk -/
section WLO
variable {d : Nat} {h0 : sm_H} {Y : wk_Y} {μ zh : Int} {T : Int → sm_H → Prop}
theorem wl_top {h : sm_H} {zt : Int} (hI : wl_I Y h0 μ T zt h) (ht : 0 < mi_f h 14029) : ∃ e w a r, wk_stk h = (e, w, a) :: r ∧ mi_a h 165 (mi_f h 14029 - 1).toNat = e ∧ mi_a h 166 (mi_f h 14029 - 1).toNat = w ∧ mi_a h 167 (mi_f h 14029 - 1).toNat = a ∧ wk_SI Y (wl_Z h) ((e, w, a) :: r) 0 (mi_f h 14030) (mi_f h 14032) ∧ ((r.length : Int) = mi_f h 14029 - 1) := by
  refine ⟨_, _, _, _, wk_stk_pop ht, rfl, rfl, rfl, ?_, ?_⟩
  · rw [← wk_stk_pop ht]
    exact hI.2.2.1
  · rw [wk_st_len]
    omega
/-- a unit on the top -/
theorem wl_u {h h1 : sm_H} {zt w a : Int} (hT : wl_T Y h0 μ T) (hL : wk_L (mi_a h) Y) (hI : wl_I Y h0 μ T zt h) (z0 : 0 ≤ zt) (z1 : zt < 40000) (ht : 0 < mi_f h 14029) (g1 : ab_Sh sx_sk h1) (g2 : mi_f h1 14029 = mi_f h 14029 - 1) (g3 : ab_Fr [(14029, 14030)] h h1) (e0 : mi_a h 165 (mi_f h 14029 - 1).toNat = 0) (ew : mi_a h 166 (mi_f h 14029 - 1).toNat = w) (ea : mi_a h 167 (mi_f h 14029 - 1).toNat = a) (ha : a = 0 ∨ a = 1) : me_E (d + 6) 210 0 [some (.inr (.inr 109)), some (.inl w), some (.inl a), none, none] [] h1 (fun v h' => v = none ∧ wl_H Y h0 μ T (zt + 1) h') := by
  obtain ⟨e1, hg, hn, hag, hK2, hV2, hZ, e30, e32, e16, hlen⟩ := wl_pop hI ht g1 g2 g3
  rw [e0, ew, ea] at e1
  have hSI := hI.2.2.1
  rw [e1] at hSI
  have hU : wk_U Y w ((wk_stk h1).length : Int) (mi_f h 14030) (mi_f h 14032) (1 - a) := by
    rcases ha with rfl | rfl
    · exact (wk_unit0 hSI).1
    · exact (wk_unit1 hSI).1
  obtain ⟨u1, u2, u3, u4, u5, u6, u7⟩ := hU
  obtain ⟨⟨a1, -, -, a4, a5⟩, -⟩ := hL.2.2.1 w u1 u2
  have hd := (hL.2.2.2 _ a4 a5).2.1
  refine (me_unit (wl_in1 hI ht g1 g2 g3 (by omega)) (wl_us hL hg u1 u2) (by omega) ha (fun z => by omega) (fun e => ?_)).imp (fun v h' hq => ?_)
  · obtain ⟨s', x1, x2⟩ := hT.1 e zt h hI (by rw [e1]; intro z; cases z) z0 z1
    refine ⟨s', ?_, x2⟩
    rw [wk_pf_g hg, hK2, hV2, hn, ← e1]
    exact x1
  · obtain ⟨q1, q2, q3, q4⟩ := hq
    refine ⟨q1, ?_⟩
    rcases q4 with q4 | ⟨q4, q5, q6, q7⟩
    · exact Or.inl ⟨q2, (hI.2.1.trans (g3.wide (fun c hc => ab_swr_ok (by decide) hc))).trans (q3.wide (fun c hc => ab_swr_ok (by decide) hc)), q4⟩
    · exact Or.inr (wl_unit (r := []) hT hL hI z0 z1 ht g1 g2 g3 e1 ha q2 q3 q4 q5 q6 q7)
theorem wl_f {h h1 : sm_H} {zt f a : Int} (hT : wl_T Y h0 μ T) (hL : wk_L (mi_a h) Y) (hI : wl_I Y h0 μ T zt h) (z0 : 0 ≤ zt) (z1 : zt < 40000) (ht : 0 < mi_f h 14029) (g1 : ab_Sh sx_sk h1) (g2 : mi_f h1 14029 = mi_f h 14029 - 1) (g3 : ab_Fr [(14029, 14030)] h h1) (e0 : mi_a h 165 (mi_f h 14029 - 1).toNat = 1) (ew : mi_a h 166 (mi_f h 14029 - 1).toNat = f) (ea : mi_a h 167 (mi_f h 14029 - 1).toNat = a) : me_E (d + 6) 223 0 [some (.inr (.inr 109)), some (.inl f), none, none, none, none] [] h1 (fun v h' => v = none ∧ wl_H Y h0 μ T (zt + 1) h') := by
  obtain ⟨e1, hg, hn, hag, hK2, hV2, hZ, e30, e32, e16, hlen⟩ := wl_pop hI ht g1 g2 g3
  rw [e0, ew, ea] at e1
  have hSI := hI.2.2.1
  rw [e1] at hSI
  obtain ⟨hF, hb⟩ := wk_form hSI
  have hL1 : wk_L (mi_a h1) Y := wk_L_g hL hg
  obtain ⟨f1, f2, -⟩ := id hF
  obtain ⟨d1, d2, d3, d4, dB, d5⟩ := hL1.2.2.2 f f1 f2
  have hf80 := hL.2.1
  refine (me_choose (wl_in1 hI ht g1 g2 g3 (by omega)) f1 (by omega) ⟨d3, d4, fun j hj => ⟨(d5 j hj).1, (d5 j hj).2.1⟩⟩ (wk_L_C hL1) (fun j hj => ?_) (fun j hj => ?_) (fun e hc => ?_)).imp (fun v h' hq => ?_)
  · rcases (d5 j hj).2.2 with x | x
    · exact Or.inl x
    · exact Or.inr x.1
  · have := (wl_D hL1 hF hb hj).1
    omega
  · obtain ⟨s', x1, x2⟩ := hT.1 e zt h hI (by rw [e1]; intro z; cases z) z0 z1
    rw [e1] at x1
    unfold wk_pf at x1
    dsimp only at x1
    rw [hg 130 (by decide)] at hc
    rw [if_neg (by decide), if_pos rfl, if_pos hc] at x1
    rw [hK2, hV2, hn, hg 130 (by decide)]
    have i11 := hI.1.2.2.2.2.2.2.2.2.2.2
    rw [e] at i11
    split at x1
    · rename_i hk
      cases x1
      have x2 : (wk_n 2 h).toNat + 1 ≤ 100 := x2
      exact ⟨hk.1, hk.2.1, hk.2.2, by omega⟩
    · cases x1
  · have hv := hq.1
    subst hv
    exact ⟨rfl, wl_form hT hL hI z0 z1 ht g1 g2 g3 e1 hq⟩
theorem wl_a {h h1 : sm_H} {zt w a : Int} (hT : wl_T Y h0 μ T) (hL : wk_L (mi_a h) Y) (hI : wl_I Y h0 μ T zt h) (z0 : 0 ≤ zt) (z1 : zt < 40000) (ht : 0 < mi_f h 14029) (g1 : ab_Sh sx_sk h1) (g2 : mi_f h1 14029 = mi_f h 14029 - 1) (g3 : ab_Fr [(14029, 14030)] h h1) (e0 : mi_a h 165 (mi_f h 14029 - 1).toNat = 5) (ew : mi_a h 166 (mi_f h 14029 - 1).toNat = w) (ea : mi_a h 167 (mi_f h 14029 - 1).toNat = a) : me_E (d + 6) 227 0 [some (.inr (.inr 109)), some (.inl w), some (.inl a), none] [] h1 (fun v h' => v = none ∧ wl_H Y h0 μ T (zt + 1) h') := by
  obtain ⟨e1, hg, hn, hag, hK2, hV2, hZ, e30, e32, e16, hlen⟩ := wl_pop hI ht g1 g2 g3
  rw [e0, ew, ea] at e1
  have oa : mi_in a := by rw [← ea]; exact mi_inT _
  have hSI := hI.2.2.1
  rw [e1] at hSI
  obtain ⟨⟨u1, u2, u3, u4, u5, u6, u7⟩, hb⟩ := wk_again hSI
  obtain ⟨⟨a1, -⟩, -⟩ := hL.2.2.1 w u1 u2
  have hi1 : wk_in μ h1 := wl_in1 hI ht g1 g2 g3 (by omega)
  have p0 : μ = 0 → 0 ≤ a ∧ a < 100 ∧ wk_V 0 h a.toNat ≤ 1000000 ∧ 0 ≤ wk_V 0 h a.toNat := fun e => hT.2.1 e zt h w a _ hI z0 z1 e1
  have eV0 : wk_V 0 h1 a.toNat = wk_V 0 h a.toNat := by
    unfold wk_V
    rw [if_neg (by decide), if_neg (by decide), me_b (k := 163) g3 hI.1.1 rfl rfl]
  refine (me_again hi1 (wl_us hL hg u1 u2) (by omega) oa (fun e => ⟨(p0 e).1, (p0 e).2.1⟩) (fun e => ?_) (fun e hz => ?_)).imp (fun v h' hq => ?_)
  · rw [eV0]
    exact (p0 e).2.2
  · obtain ⟨s', x1, x2⟩ := hT.1 e zt h hI (by rw [e1]; intro z; cases z) z0 z1
    refine ⟨s', ?_, x2⟩
    rw [wk_sg_g hg, hK2, hn]
    rw [e1] at x1
    unfold wk_pf at x1
    dsimp only at x1
    rw [if_neg (by decide), if_neg (by decide), if_pos rfl, if_pos hz] at x1
    exact x1
  · have hv := hq.1
    subst hv
    exact ⟨rfl, wl_again hT hL hI z0 z1 ht g1 g2 g3 e1 hi1 hq⟩
theorem wl_loop (hT : wl_T Y h0 μ T) (hL0 : wk_L (mi_a h0) Y) (hS0 : ab_Sh sx_sk h0) (oh : mi_in zh) : ∀ (N : Nat) (zt : Int) (q3 q4 : Option mi_V) (h : sm_H), 40000 - zt < N → 0 ≤ zt → zt ≤ 40000 → (∀ v, q3 = some v → mi_ok v) → (∀ v, q4 = some v → mi_ok v) → wl_H Y h0 μ T zt h → me_E (d + 7) 206 52 [some (.inr (.inr 109)), some (.inl zh), some (.inl zt), q3, q4] [] h (wl_End Y h0 μ T) := by
  intro N
  induction N with
  | zero => intro zt q3 q4 h hN z0 z1; exfalso; omega
  | succ N ih =>
    intro zt q3 q4 h hN z0 z1 o3 o4 hH
    have ot : mi_in zt := ⟨by omega, by omega⟩
    have hS : ab_Sh sx_sk h := by
      rcases hH with hH | hH
      · exact hH.1
      · exact hH.1.1
    have toI : mi_f h 14034 < 0 → mi_f h 14044 = 0 → wl_I Y h0 μ T zt h := fun a b => by
      rcases hH with hH | hH
      · exfalso
        have := hH.2.2
        omega
      · exact hH
    have o2 : ∀ x : Int32, ∀ v : mi_V, some (Sum.inl x.toInt : mi_V) = some v → mi_ok v := fun x v e => by
      cases e
      exact mi_inT x
    have nx : ∀ (x y : Int32) (h' : sm_H), zt < 40000 → wl_H Y h0 μ T (zt + 1) h' → ab_Sh sx_sk h' ∧ me_E (d + 7) 206 52 [some (.inr (.inr 109)), some (.inl zh), some (.inl (zt + 1)), some (.inl x.toInt), some (.inl y.toInt)] [] h' (wl_End Y h0 μ T) := fun x y h' hlt hq => by
      refine ⟨?_, ih (zt + 1) _ _ h' (by omega) (by omega) (by omega) (o2 x) (o2 y) hq⟩
      rcases hq with hq | hq
      · exact hq.1
      · exact hq.1.1
    have nx175 : ∀ (x y : Int32) (h' : sm_H), zt < 40000 → wl_H Y h0 μ T (zt + 1) h' → me_E (d + 7) 206 175 [some (.inr (.inr 109)), some (.inl zh), some (.inl zt), some (.inl x.toInt), some (.inl y.toInt)] [] h' (wl_End Y h0 μ T) := fun x y h' hlt hq => mt_wb175 (nx x y h' hlt hq).1 oh ot (mi_inT x) (mi_inT y) ⟨by omega, fun h3 r1 r2 => by
      have e3 := me_nil r2
      subst e3
      exact (nx x y _ hlt hq).2⟩
    have nx183 : ∀ (x y : Int32) (h' : sm_H), zt < 40000 → wl_H Y h0 μ T (zt + 1) h' → me_E (d + 7) 206 183 [some (.inr (.inr 109)), some (.inl zh), some (.inl zt), some (.inl x.toInt), some (.inl y.toInt)] [] h' (wl_End Y h0 μ T) := fun x y h' hlt hq => mt_wb183 (nx x y h' hlt hq).1 oh ot (mi_inT x) (mi_inT y) ⟨by omega, fun h3 r1 r2 => by
      have e3 := me_nil r2
      subst e3
      exact (nx x y _ hlt hq).2⟩
    have nx208 : ∀ (x y : Int32) (h' : sm_H), zt < 40000 → wl_H Y h0 μ T (zt + 1) h' → me_E (d + 7) 206 208 [some (.inr (.inr 109)), some (.inl zh), some (.inl zt), some (.inl x.toInt), some (.inl y.toInt)] [] h' (wl_End Y h0 μ T) := fun x y h' hlt hq => mt_wb208 (nx x y h' hlt hq).1 oh ot (mi_inT x) (mi_inT y) ⟨by omega, fun h3 r1 r2 => by
      have e3 := me_nil r2
      subst e3
      exact (nx x y _ hlt hq).2⟩
    have nx218 : ∀ (x y : Int32) (h' : sm_H), zt < 40000 → wl_H Y h0 μ T (zt + 1) h' → me_E (d + 7) 206 218 [some (.inr (.inr 109)), some (.inl zh), some (.inl zt), some (.inl x.toInt), some (.inl y.toInt)] [] h' (wl_End Y h0 μ T) := fun x y h' hlt hq => mt_wb218 (nx x y h' hlt hq).1 oh ot (mi_inT x) (mi_inT y) ⟨by omega, fun h3 r1 r2 => by
      have e3 := me_nil r2
      subst e3
      exact (nx x y _ hlt hq).2⟩
    refine mt_waC hS oh ot o3 o4 ?_ ?_ ?_ ?_ ?_ ?_ ?_ ?_ ?_ ?_ ?_ ?_
    · intro c h1 g1 g2
      have e1 := me_nil g2
      subst e1
      exact wl_247 oh ot o3 o4 z0 z1 hH (fun _ => Or.inr (by omega))
    · intro b1 c1 c2 h1 g1 g2
      have e1 := me_nil g2
      subst e1
      exact wl_247 oh ot o3 o4 z0 z1 hH (fun _ => Or.inl c2)
    · intro b1 b2 c1 c2 c3 h1 g1 g2
      have e1 := me_nil g2
      subst e1
      exact wl_247 oh ot o3 o4 z0 z1 hH (fun hI => by have := hI.1.2.2.2.2.1; omega)
    · intro b1 b2 b3 c1 c2 c3 c4 h1 g1 g2
      have e1 := me_nil g2
      subst e1
      exact wl_247 oh ot o3 o4 z0 z1 hH (fun hI => by have := hI.1.2.2.2.1; omega)
    · intro b1 b2 b3 c1 c2 c3 c4 s k
      have hI := toI c3 c4
      have hL : wk_L (mi_a h) Y := wk_L_g hL0 (wk_gc_fr hI.2.1 hS0 rfl)
      have hb29 := hI.2.2.2.2.1
      have htop := hI.2.2.1
      rw [wk_stk_pop c2] at htop
      have hcs := wk_cases htop
      dsimp only at hcs
      refine ⟨by omega, fun h1 g1 g2 g3 => ⟨_, wl_u hT hL hI z0 c1 c2 g1 g2 g3 (by omega) rfl (by omega) (by omega), fun v h' ov hq => ?_⟩⟩
      obtain ⟨rfl, hq⟩ := hq
      exact nx175 _ _ h' c1 hq
    · intro b1 b2 b3 c1 c2 c3 c4 s k
      have hI := toI c3 c4
      have hL : wk_L (mi_a h) Y := wk_L_g hL0 (wk_gc_fr hI.2.1 hS0 rfl)
      have hb29 := hI.2.2.2.2.1
      have htop := hI.2.2.1
      rw [wk_stk_pop c2] at htop
      have hcs := wk_cases htop
      dsimp only at hcs
      refine ⟨by omega, fun h1 g1 g2 g3 => ⟨_, wl_u hT hL hI z0 c1 c2 g1 g2 g3 (by omega) rfl (by omega) (by omega), fun v h' ov hq => ?_⟩⟩
      obtain ⟨rfl, hq⟩ := hq
      exact nx175 _ _ h' c1 hq
    · intro b1 b2 b3 c1 c2 c3 c4 s
      have hI := toI c3 c4
      have hL : wk_L (mi_a h) Y := wk_L_g hL0 (wk_gc_fr hI.2.1 hS0 rfl)
      have hb29 := hI.2.2.2.2.1
      have htop := hI.2.2.1
      rw [wk_stk_pop c2] at htop
      have hcs := wk_cases htop
      dsimp only at hcs
      refine ⟨by omega, fun h1 g1 g2 g3 => ⟨_, wl_f hT hL hI z0 c1 c2 g1 g2 g3 (by omega) rfl rfl, fun v h' ov hq => ?_⟩⟩
      obtain ⟨rfl, hq⟩ := hq
      exact nx183 _ _ h' c1 hq
    · intro b1 b2 b3 b4 c1 c2 c3 c4 s
      have hI := toI c3 c4
      have hb29 := hI.2.2.2.2.1
      have htop := hI.2.2.1
      have hst := wk_stk_pop c2
      have es : mi_a h 165 (mi_f h 14029 - 1).toNat = 2 := by omega
      rw [es] at hst
      rw [hst] at htop
      obtain ⟨w1, w2, w3, w4, w5⟩ := wk_out htop
      refine ⟨by omega, fun h1 g1 g2 g3 g4 g5 => ?_⟩
      have e30 : mi_f h1 14030 = mi_f h 14030 := me_f (c := 14030) g5 hS rfl rfl
      have e16 : mi_f h1 14016 = mi_f h 14016 := me_f (c := 14016) g5 hS rfl rfl
      refine (nx _ _ h1 c1 (Or.inr (wl_rest hT hI z0 c1 c2 g2 hst (Or.inl rfl) g1 g5 (by decide) ?_ (by omega) (by have := hI.2.2.2.2.2; omega)))).2
      rw [e30, g4]
      exact wk_SI_Z _ _ _ _ w5 (fun i _ => ⟨me_a (k := 168) g5 hS rfl rfl, me_a (k := 169) g5 hS rfl rfl⟩) (by show mi_f h 14016 ≤ mi_f h1 14016; omega)
    · intro b1 b2 b3 b4 b5 c1 c2 c3 c4 s
      have hI := toI c3 c4
      have hb29 := hI.2.2.2.2.1
      have hp60 := hI.2.2.2.2.2
      have htop := hI.2.2.1
      have hst := wk_stk_pop c2
      have es : mi_a h 165 (mi_f h 14029 - 1).toNat = 3 := by omega
      rw [es] at hst
      rw [hst] at htop
      obtain ⟨w1, w2, w3⟩ := wk_mid htop
      refine ⟨by omega, fun h1 g1 g2 g4 g5 => ?_⟩
      have e30 : mi_f h1 14030 = mi_f h 14030 := me_f (c := 14030) g5 hS rfl rfl
      have e32 : mi_f h1 14032 = mi_f h 14032 := me_f (c := 14032) g5 hS rfl rfl
      have e16 : mi_f h1 14016 = mi_f h 14016 := me_f (c := 14016) g5 hS rfl rfl
      refine (nx _ _ h1 c1 (Or.inr (wl_rest hT hI z0 c1 c2 g2 hst (Or.inr (Or.inl rfl)) g1 g5 (by decide) ?_ (by rw [e32]; exact hI.1.2.2.2.2.2.2.2.2.1) (by omega)))).2
      rw [e30, e32]
      refine wk_middle (wk_SI_Z (Z' := wl_Z h1) _ _ _ _ w3 (fun i hi => ⟨me_a (k := 168) g5 hS rfl rfl, ?_⟩) (by show mi_f h 14016 ≤ mi_f h1 14016; omega)) ?_
      · rw [if_neg (by decide)] at hi
        show mi_a h1 169 i = mi_a h 169 i
        rw [g4, if_neg (by omega)]
      · have w2 : 0 ≤ mi_a h 168 (mi_f h 14030 - 1).toNat ∧ mi_a h 168 (mi_f h 14030 - 1).toNat ≤ mi_f h 14016 := w2
        show 0 ≤ mi_a h1 168 (mi_f h 14030 - 1).toNat ∧ mi_a h1 168 (mi_f h 14030 - 1).toNat ≤ mi_a h1 169 (mi_f h 14030 - 1).toNat ∧ mi_a h1 169 (mi_f h 14030 - 1).toNat ≤ mi_f h1 14016
        rw [g4, if_pos rfl, me_a (k := 168) g5 hS rfl rfl, e16]
        exact ⟨w2.1, w2.2, Int.le_refl _⟩
    · intro b1 b2 b3 c1 c2 c3 c4 s
      have hI := toI c3 c4
      have hb29 := hI.2.2.2.2.1
      have hp60 := hI.2.2.2.2.2
      have htop := hI.2.2.1
      have hst := wk_stk_pop c2
      have es : mi_a h 165 (mi_f h 14029 - 1).toNat = 4 := by omega
      rw [es] at hst
      rw [hst] at htop
      obtain ⟨w1, w2, w3⟩ := wk_turn htop
      have w2 : 0 ≤ mi_a h 168 (mi_f h 14030 - 1).toNat ∧ mi_a h 168 (mi_f h 14030 - 1).toNat ≤ mi_a h 169 (mi_f h 14030 - 1).toNat ∧ mi_a h 169 (mi_f h 14030 - 1).toNat ≤ mi_f h 14016 := w2
      refine ⟨by omega, fun h1 g1 g2 g3 => ?_⟩
      have e30 : mi_f h1 14030 = mi_f h 14030 := me_f (c := 14030) g3 hS rfl rfl
      have e16 : mi_f h1 14016 = mi_f h 14016 := me_f (c := 14016) g3 hS rfl rfl
      have e168 : mi_a h1 168 (mi_f h 14030 - 1).toNat = mi_a h 168 (mi_f h 14030 - 1).toNat := me_a (k := 168) g3 hS rfl rfl
      have e169 : mi_a h1 169 (mi_f h 14030 - 1).toNat = mi_a h 169 (mi_f h 14030 - 1).toNat := me_a (k := 169) g3 hS rfl rfl
      refine ⟨_, me_swap g1 (by omega) (by omega) (by rw [e30, e168]; exact w2.1) (by rw [e30, e168, e169]; exact w2.2.1) (by rw [e30, e169, e16]; exact w2.2.2), fun v h' ov hq => ?_⟩
      obtain ⟨rfl, q1, q2, q3⟩ := hq
      have hF : ab_Fr ([(14029, 14031), (18560, 18561), (20480, 20481)]) h h' := (g3.wide (fun c hc => ab_swr_ok (by decide) hc)).trans (q2.wide (fun c hc => ab_swr_ok (by decide) hc))
      have f29 : mi_f h' 14029 = mi_f h 14029 - 1 := (me_f (c := 14029) q2 g1 rfl rfl).trans g2
      have f16 : mi_f h' 14016 = mi_f h 14016 := me_f (c := 14016) hF hS rfl rfl
      have f32 : mi_f h' 14032 = mi_f h 14032 := me_f (c := 14032) hF hS rfl rfl
      have f30 : mi_f h' 14030 = mi_f h 14030 - 1 := by omega
      refine nx208 _ _ h' c1 (Or.inr (wl_rest hT hI z0 c1 c2 f29 hst (Or.inr (Or.inr rfl)) q1 hF (by decide) ?_ (by rw [f32]; exact hI.1.2.2.2.2.2.2.2.2.1) (by omega)))
      rw [f30, f32]
      exact wk_SI_Z _ _ _ _ w3 (fun i _ => ⟨me_a (k := 168) hF hS rfl rfl, me_a (k := 169) hF hS rfl rfl⟩) (by show mi_f h 14016 ≤ mi_f h' 14016; omega)
    · intro b1 b2 b3 c1 c2 c3 c4 s
      have hI := toI c3 c4
      have hL : wk_L (mi_a h) Y := wk_L_g hL0 (wk_gc_fr hI.2.1 hS0 rfl)
      have hb29 := hI.2.2.2.2.1
      have htop := hI.2.2.1
      rw [wk_stk_pop c2] at htop
      have hcs := wk_cases htop
      dsimp only at hcs
      refine ⟨by omega, fun h1 g1 g2 g3 => ⟨_, wl_a hT hL hI z0 c1 c2 g1 g2 g3 (by omega) rfl rfl, fun v h' ov hq => ?_⟩⟩
      obtain ⟨rfl, hq⟩ := hq
      exact nx218 _ _ h' c1 hq
    · intro b1 b2 b3 b4 c1 c2 c3 c4 s
      exfalso
      have hI := toI c3 c4
      have htop := hI.2.2.1
      rw [wk_stk_pop c2] at htop
      have hcs := wk_cases htop
      dsimp only at hcs
      omega
end WLO
