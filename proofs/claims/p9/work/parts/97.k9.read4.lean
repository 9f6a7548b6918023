/-! the class's read -/
def cr_Q (n : Int) (c : Nat → Int) (g0 : wk_g) (h0 : sm_H) (w : Option mi_V) (h' : sm_H) : Prop := w = some (.inl (kF h')) ∧ ab_Sh sx_sk h' ∧ ab_Fr cw_W h0 h' ∧
  (mi_f h' 9730 = 0 → mi_f h' 9731 = 0 ∧ ∃ f ow g, rz_D n c g0 g ∧ rz_U g ∧ PR ow g ∧ FI f g ∧ CU f ow g (g 0 0) h' ∧ PV n g ∧ g 0 1 ≤ g 0 0 ∧ PW g) ∧
  (mi_f h' 9730 ≠ 0 → rz_B n c g0 (kF h') ∧ kb h')
/-- between rules -/
def cr_H (n : Int) (c : Nat → Int) (g0 g : wk_g) (a : Int) (h : sm_H) : Prop := cr_S n c g a h ∧ ∃ k, ru_Tr n c k (g0, 0) (g, a)
section KRG
variable {n : Int} {c : Nat → Int} {g0 : wk_g} {h0 : sm_H}
theorem cr_end {d : Nat} {zn : Int} {q2 : Option mi_V} {h : sm_H} {Q : Option mi_V → sm_H → Prop} (on : mi_in zn) (oq : ∀ v, q2 = some v → mi_ok v) (hS : ab_Sh sx_sk h) (hb : (mi_f h 9730 = 0 ∧ mi_f h 9731 = 0) ∨ kb h) (hQ : Q (some (.inl (kF h))) h) : me_E (d + 32) 14 93 [some (.inr (.inr 76)), some (.inl zn), q2] [] h Q := by
  refine mt_rdJ hS on oq (fun b1 b2 => ⟨?_, fun h1 g1 g2 => ?_⟩)
  · rcases hb with ⟨x1, x2⟩ | ⟨⟨x1, x2⟩, x3, x4⟩
    · omega
    · omega
  · have e0 := me_nil g2
    subst e0
    exact hQ
theorem cr_tailB {d : Nat} {zn : Int} {q2 : Option mi_V} {h : sm_H} (on : mi_in zn) (oq : ∀ v, q2 = some v → mi_ok v) (hS : ab_Sh sx_sk h) (hF : ab_Fr cw_W h0 h) (hf : mi_f h 9730 ≠ 0) (hR : rz_R n c g0 (kF h)) (hb : kb h) : me_E (d + 32) 14 82 [some (.inr (.inr 76)), some (.inl zn), q2] [] h (cr_Q n c g0 h0) := by
  refine mt_rdI hS on oq ?_ (fun _ q => absurd q hf)
  intro b q h1 g1 g2
  have e0 := me_nil g2
  subst e0
  exact cr_end on oq hS (Or.inr hb) ⟨rfl, hS, hF, fun q => absurd q hf, fun _ => ⟨Or.inl hR, hb⟩⟩
theorem cr_tailE {d : Nat} {zn a : Int} {q2 : Option mi_V} {h : sm_H} {g : wk_g} (h0V : PV n g0) (h0W : PW g0) (n0 : 0 ≤ n) (on : mi_in zn) (oq : ∀ v, q2 = some v → mi_ok v) (hF : ab_Fr cw_W h0 h) (hf : mi_f h 9730 = 0) (hH : cr_H n c g0 g a h) (hE : rz_E n c (g, a)) : me_E (d + 32) 14 82 [some (.inr (.inr 76)), some (.inl zn), q2] [] h (cr_Q n c g0 h0) := by
  obtain ⟨⟨hx, f, ow, t, v, e, y1, y2, y3, y4, y5, y6⟩, k, hk⟩ := hH
  have hV := (PV_ruTr k _ (show (0 : Int) ≤ 0 ∧ (0 : Int) ≤ n from ⟨by decide, n0⟩) h0V hk).2
  refine mt_rdI hx.1 on oq (fun _ q => absurd hf q) ?_
  intro b q h1 g1 g2
  have e0 := me_nil g2
  subst e0
  have n240 := (CT_p hx y5 y6.2).2.2.2
  refine ⟨_, me_nameUses (d := d + 29) n240 hV hx.1 y1 y3 hf hx.2.2.2.2, fun w h2 oww hq => ?_⟩
  obtain ⟨rfl, s1, s2, s3, s4⟩ := hq
  have F2 : ab_Fr cw_W h0 h2 := hF.trans (s2.wide (fun c hc => ab_swr_ok (by decide) hc))
  by_cases cf : mi_f h2 9730 = 0
  · obtain ⟨u1, u2, u3⟩ := s3 cf
    exact cr_end on oq s1 (Or.inl ⟨cf, u1⟩) ⟨rfl, s1, F2, fun _ => ⟨u1, f, ow, g, ⟨k, a, hk, hE⟩, u2, y1, y2, u3, hV, y4, PW_ruTr k _ h0W hk⟩, fun q => absurd cf q⟩
  · obtain ⟨u1, u2⟩ := s4 cf
    exact cr_end on oq s1 (Or.inr u2) ⟨rfl, s1, F2, fun q => absurd q cf, fun _ => ⟨Or.inr ⟨g, ⟨k, a, hk, hE⟩, u1⟩, u2⟩⟩
theorem cr_loop {d : Nat} (h0S : PSr g0) (h0V : PV n g0) (h0W : PW g0) (n0 : 0 ≤ n) : ∀ (N : Nat) (zn : Int) (q2 : Option mi_V) (h : sm_H), 11 - zn < N → 0 ≤ zn → zn ≤ 11 → (∀ v, q2 = some v → mi_ok v) → ab_Sh sx_sk h → ab_Fr cw_W h0 h → (mi_f h 9730 ≠ 0 → rz_R n c g0 (kF h) ∧ kb h) → (mi_f h 9730 = 0 → ∃ g a, cr_H n c g0 g a h ∧ g 0 3 = zn) → me_E (d + 32) 14 26 [some (.inr (.inr 76)), some (.inl zn), q2] [] h (cr_Q n c g0 h0) := by
  intro N
  induction N with
  | zero => intro zn q2 h hN z0 z1; exfalso; omega
  | succ N ih =>
    intro zn q2 h hN z0 z1 oq hS hF hB hG
    have on : mi_in zn := ⟨by omega, by omega⟩
    have turn : mi_f h 9730 = 0 → zn ≤ 10 → (zn = 0 ∨ mi_f h 9859 ≠ 0) → ∃ Q1, me_E (d + 31) 46 0 (mi_entry 2 [.inr (.inr 76)]) [] h Q1 ∧ ∀ w h2, (∀ v, w = some v → mi_ok v) → Q1 w h2 → me_E (d + 32) 14 57 [some (.inr (.inr 76)), some (.inl zn), q2] (mi_back w []) h2 (cr_Q n c g0 h0) := by
      intro hf z2 z3
      obtain ⟨g, a, ⟨⟨hx, f, ow, t, v, e, y1, y2, y3, y4, y5, y6⟩, k, hk⟩, eg⟩ := hG hf
      have hps : PSr g := PS_ruTr k (g0, 0) h0S hk
      refine ⟨_, me_beginRule (d := d + 20) hx y5 y6.2 hf y1 y2 y3 hps, fun w h2 oww hq => ?_⟩
      obtain ⟨s1, s2, zf, ez, ozf, -⟩ := id hq
      subst ez
      have i0 := (cs_i y5.1).2.2.2.2.2.2.1
      refine cr_step on oq hq y1 hps y4 y5 y6.1 (fun q => ?_) (fun h' zf' oz' u1 u2 u3 u4 => ?_)
      · have := i0.mpr q.1
        have := y5.2.1
        omega
      · refine mt_rdH u1 on oz' ⟨⟨by omega, by omega⟩, fun h3 g1 g2 => ?_⟩
        have e0 := me_nil g2
        subst e0
        refine ih (zn + 1) _ h3 (by omega) (by omega) (by omega) (me_oi oz') u1 ((hF.trans s2).trans u2) (fun q => ?_) (fun q => ?_)
        · obtain ⟨w1, w2⟩ := u3 q
          exact ⟨⟨k, _, hk, w1⟩, w2⟩
        · obtain ⟨g', a', w1, w2, w3⟩ := u4 q
          exact ⟨g', a', ⟨w2, k + 1, ru_snoc k _ hk w1⟩, by omega⟩
    refine mt_rdD hS on oq ?_ ?_ ?_ ?_ ?_
    · intro k1 h1 g1 g2
      have e0 := me_nil g2
      subst e0
      by_cases cf : mi_f h1 9730 = 0
      · obtain ⟨g, a, ⟨⟨hx, f, ow, t, v, e, y1, -⟩, -⟩, eg⟩ := hG cf
        have := y1.1.2.2.1
        exfalso
        omega
      · obtain ⟨w1, w2⟩ := hB cf
        exact cr_tailB on oq hS hF cf w1 w2
    · intro b k1 k2 h1 g1 g2
      have e0 := me_nil g2
      subst e0
      obtain ⟨w1, w2⟩ := hB k2
      exact cr_tailB on oq hS hF k2 w1 w2
    · intro b k1 k2 k3 h1 g1 g2
      have e0 := me_nil g2
      subst e0
      exact turn k2 k1 (Or.inl k3)
    · intro b b2 k1 k2 k3 k4 h1 g1 g2
      have e0 := me_nil g2
      subst e0
      obtain ⟨g, a, hH, eg⟩ := hG k2
      obtain ⟨⟨hx, f, ow, t, v, e, y1, y2, y3, y4, y5, y6⟩, k, hk⟩ := id hH
      have i0 := (cs_i y5.1).2.2.2.2.2.2.1
      have t0 : t = 0 := i0.mp (by have := y5.2.1; omega)
      have y5 := y5.1
      rw [t0] at y5
      exact cr_tailE h0V h0W n0 on oq hF k2 hH ⟨⟨_, _, _, y5⟩, by show g 0 3 ≠ 0; omega⟩
    · intro b b2 k1 k2 k3 k4 h1 g1 g2
      have e0 := me_nil g2
      subst e0
      exact turn k2 k1 (Or.inr k4)
theorem me_rewind {d : Nat} {h : sm_H} (hx : CX n c h) : me_E (d + 11) 17 0 [some (.inr (.inr 77))] [] h (fun w h' => w = none ∧ CX n c h' ∧ ab_Fr ca_W h h' ∧ ∃ t v e, CT n c h' 0 t v e) := by
  refine mt_rzA hx.1 (fun h1 s1 s2 s3 => ?_)
  have x1 := CX_fr hx s1 s3 (by decide)
  have b := me_fb (c := 6657) s1 rfl
  refine ⟨_, me_advance (d := d) s1 x1.2.2.2.1 (by rw [s2]; exact b.1), fun w h2 oww hq => ?_⟩
  obtain ⟨rfl, u1, u2, t', v', e', q4, q5, q6⟩ := hq
  rw [x1.2.1, x1.2.2.1, s2] at q4
  refine mt_rzB u1 (fun h3 g1 g2 => ?_)
  have e0 := me_nil g2
  subst e0
  exact ⟨rfl, CX_fr x1 u1 u2 (by decide), (s3.wide (fun c hc => ab_swr_ok (by decide) hc)).trans u2, t', v', e', q4, q5, q6⟩
/-- the class reads the description as the reference does -/
theorem me_readc {d : Nat} (hS : ab_Sh sx_sk h0) (hx : cx_ok h0) (hz : rz_0 g0) (en : mi_f h0 6657 = n) (ec : mi_a h0 53 = c) : me_E (d + 32) 14 0 [some (.inr (.inr 76)), none, none] [] h0 (cr_Q n c g0 h0) := by
  have b := me_fb (c := 6657) hS rfl
  refine mt_rdA hS (fun h1 g1 g2 => ?_)
  have e0 := me_nil g2
  subst e0
  refine ⟨_, me_gdrop (d := d + 30) hS, fun w h2 oww hq => ?_⟩
  obtain ⟨rfl, s1, s2, ⟨v1, v2, v3, v4, v5⟩, s4⟩ := hq
  refine mt_rdB s1 (fun h3 u1 u2 u3 u4 => ?_)
  have F3 : ab_Fr cw_W h1 h3 := (s2.wide (fun c hc => ab_swr_ok (by decide) hc)).trans (u4.wide (fun c hc => ab_swr_ok (by decide) hc))
  have e57 : mi_f h3 6657 = mi_f h1 6657 := me_f (c := 6657) F3 hS rfl rfl
  have e53 : ∀ i, mi_a h3 53 i = mi_a h1 53 i := fun i => me_a (k := 53) F3 hS rfl rfl
  have x3 : CX n c h3 := by
    refine ⟨u1, e57.trans en, (funext e53).trans ec, fun i hi => ?_, u3⟩
    rw [e57] at hi
    rw [e53]
    exact hx i hi
  have Q3 : CQ (fun x => 10 + x) id g0 h3 := by
    obtain ⟨⟨z0, z1, z2, z3, z4⟩, z5⟩ := id hz
    have e63 : ∀ i, mi_a h3 63 i = mi_a h2 63 i := fun i => me_a (k := 63) u4 s1 rfl rfl
    have e64 : ∀ i, mi_a h3 64 i = mi_a h2 64 i := fun i => me_a (k := 64) u4 s1 rfl rfl
    refine ⟨⟨?_, ?_, ?_, ?_, ?_⟩, fun r hr => by omega, fun v hv hv0 => by have := z5 v hv; omega, fun r hr => by omega, fun x hx => by omega, fun j hj _ => by rw [e63, e64]; exact s4 j hj, fun a ha => by omega, fun u hu => by omega, fun l hl => by omega, fun u hu => by omega, fun u hu => by omega⟩
    · rw [me_f (c := 7690) u4 s1 rfl rfl]; omega
    · rw [me_f (c := 7686) u4 s1 rfl rfl]; omega
    · rw [me_f (c := 7680) u4 s1 rfl rfl]; omega
    · rw [me_f (c := 7698) u4 s1 rfl rfl]; omega
    · rw [me_f (c := 7685) u4 s1 rfl rfl]; omega
  have I3 : FI (fun x => 10 + x) g0 := by
    obtain ⟨⟨z0, z1, z2, z3, z4⟩, z5⟩ := id hz
    exact ⟨fun r hr => by omega, fun x hx => by show 10 + x = _; omega, fun x y x0 x1 y0 y1 => by omega, fun x x0 x1 => by omega⟩
  have P3 : PR id g0 := by
    obtain ⟨⟨z0, z1, z2, z3, z4⟩, z5⟩ := id hz
    exact ⟨⟨by omega, by omega, by omega, by omega, by omega⟩, fun v hv => by omega, fun a ha => by omega, fun f hf => by omega⟩
  refine ⟨_, me_rewind (d := d + 20) x3, fun w h4 oww hq => ?_⟩
  obtain ⟨rfl, x4, F4, t, v, e, ht⟩ := hq
  have f4 : mi_f h4 9730 = 0 := (me_f (c := 9730) F4 u1 rfl rfl).trans u2
  refine mt_rdC x4.1 (fun h5 g1 g2 => ?_)
  have e0 := me_nil g2
  subst e0
  exact cr_loop (Or.inl hz.1.1) (PV_0 hz) (PW_0 hz) (by omega) 12 0 none h5 (by decide) (by decide) (by decide) me_on x4.1 (F3.trans (F4.wide (fun c hc => ab_swr_ok (by decide) hc))) (fun q => absurd f4 q) (fun _ => ⟨g0, 0, ⟨⟨x4, _, _, t, v, e, P3, I3, CQ_fr Q3 u1 F4 (by decide), by have := hz.1; omega, ht, ⟨by decide, by omega⟩⟩, 0, rfl⟩, hz.1.2.2.2.1⟩)
end KRG
