/-! weigh -/
def sy_V : List (Nat × Nat) := [(13999, 14000), (16768, 18432), (18560, 18561)]
def sy_Q (h : sm_H) (w : Option mi_V) (h' : sm_H) : Prop := w = none ∧ ab_Sh sx_sk h' ∧ ab_Fr sy_V h h'
def wg_P (zu zs zf : Int) (h : sm_H) : Prop := 0 ≤ zu ∧ zu < 60 ∧ (0 ≤ zf → zf < 80 ∧ mi_a h 144 zf.toNat ≤ 1000) ∧ (zs = 9 → 0 ≤ zf ∧ 0 ≤ mi_a h 120 zu.toNat ∧ mi_a h 120 zu.toNat < 26) ∧ (zs = 8 → 0 ≤ mi_a h 120 zu.toNat ∧ mi_a h 120 zu.toNat < 20)
section WGH
variable {d : Nat} {h0 h h1 : sm_H} {zu zs zf : Int}
theorem wg_P_fr {wr : List (Nat × Nat)} (hP : wg_P zu zs zf h) (hS : ab_Sh sx_sk h) (hF : ab_Fr wr h h1) (hw : (ab_in wr 18432 || ab_in wr 15360) = false) : wg_P zu zs zf h1 := by
  simp only [Bool.or_eq_false_iff] at hw
  unfold wg_P
  rw [me_a (k := 144) hF hS rfl hw.1, me_a (k := 120) hF hS rfl hw.2]
  exact hP
theorem wg181 (os : mi_in zs) (of : mi_in zf) (hS : ab_Sh sx_sk h) (hP : wg_P zu zs zf h) (hF : ab_Fr sy_V h0 h) : me_E d 195 181 [some (.inr (.inr 109)), some (.inl zu), some (.inl zs), some (.inl zf)] [] h (sy_Q h0) := by
  obtain ⟨p1, p2, p3, p4, p5⟩ := hP
  refine mt_wgE hS ⟨by omega, by omega⟩ os of ?_ ?_ ?_
  · intro c1 c2
    exact ⟨by omega, fun h1 g1 g2 g3 => ⟨rfl, g1, hF.trans (g3.wide (fun c hc => ab_swr_ok (by decide) hc))⟩⟩
  · intro c1 c2
    exact ⟨by omega, fun h1 g1 g2 g3 => ⟨rfl, g1, hF.trans (g3.wide (fun c hc => ab_swr_ok (by decide) hc))⟩⟩
  · intro c1
    have := p4 c1
    have b := mi_inT (mx_a h 144 (Int.toNat zf))
    have b1 : -2147483648 ≤ mi_a h 144 (Int.toNat zf) := b.1
    exact ⟨by omega, fun h1 g1 g2 g3 => ⟨rfl, g1, hF.trans (g3.wide (fun c hc => ab_swr_ok (by decide) hc))⟩⟩
theorem wg139 (os : mi_in zs) (of : mi_in zf) (hS : ab_Sh sx_sk h) (hP : wg_P zu zs zf h) (hF : ab_Fr sy_V h0 h) : me_E d 195 139 [some (.inr (.inr 109)), some (.inl zu), some (.inl zs), some (.inl zf)] [] h (sy_Q h0) := by
  have nx : ∀ h1, ab_Sh sx_sk h1 → ab_Fr [(17792, 17793)] h h1 → me_E d 195 181 [some (.inr (.inr 109)), some (.inl zu), some (.inl zs), some (.inl zf)] [] h1 (sy_Q h0) := fun h1 g1 g3 => wg181 os of g1 (wg_P_fr hP hS g3 rfl) (hF.trans (g3.wide (fun c hc => ab_swr_ok (by decide) hc)))
  obtain ⟨p1, p2, p3, p4, p5⟩ := hP
  refine mt_wgD hS ⟨by omega, by omega⟩ os of ?_ ?_ ?_
  · intro c1 c2
    exact ⟨by omega, fun h1 g1 g2 g3 => nx h1 g1 g3⟩
  · intro c1 c2
    exact ⟨by omega, fun h1 g1 g2 g3 => nx h1 g1 g3⟩
  · intro c1
    exact ⟨by omega, fun h1 g1 g2 g3 => nx h1 g1 g3⟩
theorem wg84 (os : mi_in zs) (of : mi_in zf) (hS : ab_Sh sx_sk h) (hP : wg_P zu zs zf h) (hF : ab_Fr sy_V h0 h) : me_E d 195 84 [some (.inr (.inr 109)), some (.inl zu), some (.inl zs), some (.inl zf)] [] h (sy_Q h0) := by
  have nx : ∀ h1, ab_Sh sx_sk h1 → ab_Fr [(17152, 17153)] h h1 → me_E d 195 139 [some (.inr (.inr 109)), some (.inl zu), some (.inl zs), some (.inl zf)] [] h1 (sy_Q h0) := fun h1 g1 g3 => wg139 os of g1 (wg_P_fr hP hS g3 rfl) (hF.trans (g3.wide (fun c hc => ab_swr_ok (by decide) hc)))
  obtain ⟨p1, p2, p3, p4, p5⟩ := hP
  refine mt_wgC hS ⟨by omega, by omega⟩ os of ?_ ?_ ?_ ?_ ?_
  · intro c1 c2
    exact ⟨by omega, fun h1 g1 g2 g3 => nx h1 g1 g3⟩
  · intro c1 c2 c3 c4
    exact ⟨by omega, fun h1 g1 g2 g3 => nx h1 g1 g3⟩
  · intro c1 c2 c3 c4
    exact ⟨by omega, fun h1 g1 g2 g3 => nx h1 g1 g3⟩
  · intro c1 c2 c3
    exact ⟨by omega, fun h1 g1 g2 g3 => nx h1 g1 g3⟩
  · intro c1
    exact ⟨by omega, fun h1 g1 g2 g3 => nx h1 g1 g3⟩
theorem wg49 (os : mi_in zs) (of : mi_in zf) (hS : ab_Sh sx_sk h) (hP : wg_P zu zs zf h) (hF : ab_Fr sy_V h0 h) : me_E d 195 49 [some (.inr (.inr 109)), some (.inl zu), some (.inl zs), some (.inl zf)] [] h (sy_Q h0) := by
  have nx : ∀ h1, ab_Sh sx_sk h1 → ab_Fr [(16768, 16769)] h h1 → me_E d 195 84 [some (.inr (.inr 109)), some (.inl zu), some (.inl zs), some (.inl zf)] [] h1 (sy_Q h0) := fun h1 g1 g3 => wg84 os of g1 (wg_P_fr hP hS g3 rfl) (hF.trans (g3.wide (fun c hc => ab_swr_ok (by decide) hc)))
  obtain ⟨p1, p2, p3, p4, p5⟩ := hP
  refine mt_wgB hS ⟨by omega, by omega⟩ os of ?_ ?_ ?_ ?_
  · intro c1 c2
    exact ⟨by omega, fun h1 g1 g2 g3 => nx h1 g1 g3⟩
  · intro c1 c2 c3
    exact ⟨by omega, fun h1 g1 g2 g3 => nx h1 g1 g3⟩
  · intro c1 c2 c3
    exact ⟨by omega, fun h1 g1 g2 g3 => nx h1 g1 g3⟩
  · intro c1
    have := p3 c1
    have b := me_ab (k := 133) (i := zf.toNat) hS rfl (by decide) (by omega)
    exact ⟨by omega, fun h1 g1 g2 g3 => nx h1 g1 g3⟩
theorem me_weigh {Y : wk_Y} (hL : wk_L (mi_a h) Y) (hu0 : 0 ≤ zu) (hu1 : zu < wk_u Y) (hH : ∀ f : Nat, (f : Int) < wk_f Y → mi_a h 144 f ≤ 1000) (hS : ab_Sh sx_sk h) : me_E d 195 0 [some (.inr (.inr 109)), some (.inl zu), none, none] [] h (sy_Q h) := by
  obtain ⟨-, -, -, a6, a7, a8⟩ := hL.2.2.1 zu hu0 hu1
  have h60 := hL.1
  have h80 := hL.2.1
  refine mt_wgA hS ⟨by omega, by omega⟩ ?_ ?_ ?_
  · intro c1 c2
    refine ⟨by omega, fun h1 g1 g2 => ?_⟩
    have e := me_nil g2
    subst e
    exact wg49 (mi_inT _) ⟨by decide, by decide⟩ g1 ⟨hu0, by omega, fun z => absurd z (by decide), fun z => absurd z c2, a8⟩ ab_Fr.refl
  · intro c1 c2
    obtain ⟨b1, b2, b3, b4, b5, b6, -⟩ := a6 c2
    refine ⟨by omega, fun h1 g1 g2 => ?_⟩
    have e := me_nil g2
    subst e
    have b5 : 0 ≤ mi_a h1 114 (mi_a h1 115 (mi_a h1 120 zu.toNat).toNat).toNat := b5
    have b6 : mi_a h1 114 (mi_a h1 115 (mi_a h1 120 zu.toNat).toNat).toNat < wk_f Y := b6
    exact wg49 (mi_inT _) (mi_inT _) g1 ⟨hu0, by omega, fun z => ⟨by omega, hH _ (by omega)⟩, fun z => ⟨b5, b1, b2⟩, fun z => by omega⟩ ab_Fr.refl
  · intro c1
    obtain ⟨b1, b2, -⟩ := a7 c1
    refine ⟨by omega, fun h1 g1 g2 => ?_⟩
    have e := me_nil g2
    subst e
    exact wg49 (mi_inT _) (mi_inT _) g1 ⟨hu0, by omega, fun z => ⟨by omega, hH _ (by omega)⟩, fun z => by omega, fun z => by omega⟩ ab_Fr.refl
end WGH
/-! alternative -/
section ALT
variable {d : Nat} {h0 h : sm_H} {za zn : Int}
theorem me_isVoid {zu : Int} (hS : ab_Sh sx_sk h) (u0 : 0 ≤ zu) (u1 : zu < 60) : me_E d 198 0 [some (.inr (.inr 109)), some (.inl zu)] [] h (fun w h' => h' = h ∧ ∃ z, w = some (.inl z) ∧ 0 ≤ z ∧ z ≤ 1) := by
  have := me_abs (M := (2, 4, sb_198)) (as := [.inr (.inr 109), .inl zu]) xo_v_isVoid rfl hS ⟨rfl, me_nv1 ⟨by omega, by omega⟩ u0 (by omega), trivial⟩ (fun e he => by cases he) (by decide)
  refine (me_E.deep (d' := d) this (Nat.zero_le _)).imp (fun w h' hq => ?_)
  obtain ⟨q1, q2, p, hp, q3, -⟩ := hq
  refine ⟨me_nil q2, ?_⟩
  rcases List.mem_cons.mp hp with rfl | hp
  · exact me_resI q3 (by decide) rfl
  · cases hp
theorem al20 (a0 : 0 ≤ za) (a1 : za < 80) (hn : zn ≤ 60) (hS : ab_Sh sx_sk h) (hF : ab_Fr sy_V h0 h) (hr : ∀ k : Nat, (k : Int) < zn → 0 ≤ mi_a h 145 k ∧ mi_a h 145 k < 60) : ∀ (N : Nat) (ze zl zh zk : Int) (zs : Int64) (q9 q10 : Option mi_V), zn - zk < N → 0 ≤ zk → zk ≤ zn → 0 ≤ ze → ze ≤ 1 → mi_in zl → mi_in zh → (∀ v, q9 = some v → mi_ok v) → (∀ v, q10 = some v → mi_ok v) → me_E (d + 1) 196 20 [some (.inr (.inr 109)), some (.inl za), some (.inl zn), some (.inl ze), some (.inr (.inl zs)), none, some (.inl zl), some (.inl zh), some (.inl zk), q9, q10] [] h (sy_Q h0) := by
  intro N
  induction N with
  | zero => intro ze zl zh zk zs q9 q10 hN _ _; exfalso; omega
  | succ N ih =>
    intro ze zl zh zk zs q9 q10 hN k0 k1 e0 e1 ol oh o9 o10
    have oa : mi_in za := ⟨by omega, by omega⟩
    have on : mi_in zn := ⟨by omega, by omega⟩
    have oe : mi_in ze := ⟨by omega, by omega⟩
    have ok : mi_in zk := ⟨by omega, by omega⟩
    have oz : mi_in 0 := ⟨by decide, by decide⟩
    have go : ∀ (zs : Int64) (zl : Int), zk < zn → mi_in zl → me_E (d + 1) 196 77 [some (.inr (.inr 109)), some (.inl za), some (.inl zn), some (.inl ze), some (.inr (.inl zs)), none, some (.inl zl), some (.inl zh), some (.inl zk), some (.inl (mi_a h 145 zk.toNat)), q10] [] h (sy_Q h0) := by
      intro zs zl hlt ol
      obtain ⟨r0, r1⟩ := hr zk.toNat (by omega)
      have ou : mi_in (mi_a h 145 zk.toNat) := mi_inT _
      have nx : ∀ (ze zh : Int) (q10 : Option mi_V), 0 ≤ ze → ze ≤ 1 → mi_in zh → (∀ v, q10 = some v → mi_ok v) → me_E (d + 1) 196 20 [some (.inr (.inr 109)), some (.inl za), some (.inl zn), some (.inl ze), some (.inr (.inl zs)), none, some (.inl zl), some (.inl zh), some (.inl (zk + 1)), some (.inl (mi_a h 145 zk.toNat)), q10] [] h (sy_Q h0) := fun ze zh q10 a b c e => ih ze zl zh (zk + 1) zs _ _ (by omega) (by omega) (by omega) a b ol c (me_oi ou) e
      refine mt_alD hS oa on oe ol oh ok ou o10 ?_ ?_ ?_ ?_ ?_
      · intro c0 c1 c2
        refine ⟨by omega, fun h1 g1 g2 => ?_⟩
        have e := me_nil g2
        subst e
        exact nx _ _ _ (by decide) (by decide) oh (me_oi (mi_inT _))
      · intro c0 c1 c2
        refine ⟨by omega, fun h1 g1 g2 => ?_⟩
        have e := me_nil g2
        subst e
        exact nx _ _ _ (by decide) (by decide) (mi_inT _) (me_oi (mi_inT _))
      · intro c0 c1 c2
        refine ⟨by omega, fun h1 g1 g2 => ?_⟩
        have e := me_nil g2
        subst e
        exact nx _ _ _ (by decide) (by decide) oh (me_oi oz)
      · intro c0 c1 c2
        refine ⟨by omega, fun h1 g1 g2 => ?_⟩
        have e := me_nil g2
        subst e
        exact nx _ _ _ (by decide) (by decide) oz (me_oi oz)
      · intro c0 h1 g1 g2
        have e := me_nil g2
        subst e
        refine ⟨_, me_isVoid g1 r0 r1, fun w h2 ow hq => ?_⟩
        obtain ⟨e, z, rfl, z0, z1⟩ := hq
        subst e
        refine mt_alE g1 oa on oe ol oh ok ou ⟨by omega, by omega⟩ o10 ?_ ?_ ?_ ?_ ?_ ?_ ?_ ?_
        · intro c0 c1 c2
          refine ⟨by omega, fun h1 g1 g2 => ?_⟩
          have e := me_nil g2
          subst e
          exact nx _ _ _ (by decide) (by decide) oh (me_oi (mi_inT _))
        · intro c0 c1 c2
          refine ⟨by omega, fun h1 g1 g2 => ?_⟩
          have e := me_nil g2
          subst e
          exact nx _ _ _ (by decide) (by decide) (mi_inT _) (me_oi (mi_inT _))
        · intro c0 c1 c2
          refine ⟨by omega, fun h1 g1 g2 => ?_⟩
          have e := me_nil g2
          subst e
          exact nx _ _ _ (by decide) (by decide) oh (me_oi oz)
        · intro c0 c1 c2
          refine ⟨by omega, fun h1 g1 g2 => ?_⟩
          have e := me_nil g2
          subst e
          exact nx _ _ _ (by decide) (by decide) oz (me_oi oz)
        · intro c0 c1 c2
          refine ⟨by omega, fun h1 g1 g2 => ?_⟩
          have e := me_nil g2
          subst e
          exact nx _ _ _ (by decide) (by decide) oh (me_oi (mi_inT _))
        · intro c0 c1 c2
          refine ⟨by omega, fun h1 g1 g2 => ?_⟩
          have e := me_nil g2
          subst e
          exact nx _ _ _ (by decide) (by decide) (mi_inT _) (me_oi (mi_inT _))
        · intro c0 c1 c2
          refine ⟨by omega, fun h1 g1 g2 => ?_⟩
          have e := me_nil g2
          subst e
          exact nx _ _ _ (by decide) (by decide) oh (me_oi oz)
        · intro c0 c1 c2
          refine ⟨by omega, fun h1 g1 g2 => ?_⟩
          have e := me_nil g2
          subst e
          exact nx _ _ _ (by decide) (by decide) oz (me_oi oz)
    refine mt_alC hS oa on oe ol oh ok o9 o10 ?_ ?_ ?_ ?_
    · intro c1 c2
      exact ⟨by omega, fun h1 g1 g2 g3 g4 g5 g6 => ⟨rfl, g1, hF.trans (g6.wide (fun c hc => ab_swr_ok (by decide) hc))⟩⟩
    · intro c1 c2
      exact ⟨by omega, fun h1 g1 g2 g3 g4 g5 g6 => ⟨rfl, g1, hF.trans (g6.wide (fun c hc => ab_swr_ok (by decide) hc))⟩⟩
    · intro c1 c2
      refine ⟨by omega, fun h1 g1 g2 => ?_⟩
      have e := me_nil g2
      subst e
      exact go _ _ c1 ol
    · intro c1 c2
      have := hr zk.toNat (by omega)
      refine ⟨by omega, fun h1 g1 g2 => ?_⟩
      have e := me_nil g2
      subst e
      exact go _ _ c1 (mi_inT _)
theorem me_alternative {U : Int} (hS : ab_Sh sx_sk h) (hC : wk_C (mi_a h) U) (a0 : 0 ≤ za) (a1 : za < 80) (hu : mi_a h 126 za.toNat < 0 ∨ mi_a h 126 za.toNat < U) : me_E (d + 1) 196 0 [some (.inr (.inr 109)), some (.inl za), none, none, none, none, none, none, none, none, none] [] h (sy_Q h) := by
  have oa : mi_in za := ⟨by omega, by omega⟩
  have hU := hC.1
  refine mt_alA hS oa ?_
  intro h1 g1 g2
  have e := me_nil g2
  subst e
  refine ⟨_, me_line g1 hC a0 a1 hu, fun w h2 ow hq => ?_⟩
  obtain ⟨q1, q2, rfl, q4, q5⟩ := hq
  refine mt_alB q1 oa ⟨by omega, by omega⟩ ?_
  intro h3 r1 r2
  have e := me_nil r2
  subst e
  refine al20 a0 a1 q4 q1 (q2.wide (fun c hc => ab_swr_ok (by decide) hc)) (fun k hk => ?_) 70 1 0 0 0 _ _ _ (by omega) (by decide) (by omega) (by decide) (by decide) ⟨by decide, by decide⟩ ⟨by decide, by decide⟩ me_on me_on
  have hk2 : k < (wk_row (mi_a h1) 61 (mi_a h1 126 za.toNat)).length := by omega
  obtain ⟨x1, x2, x3⟩ := q5 k _ (List.getElem?_eq_getElem hk2)
  rw [x1]
  exact ⟨x2, by omega⟩
end ALT
/-! formOf, behind -/
def sy_W : List (Nat × Nat) := [(13999, 14000), (14848, 14849), (16768, 18561)]
def fo_Q (h : sm_H) (zf : Int) (w : Option mi_V) (h' : sm_H) : Prop := w = none ∧ ab_Sh sx_sk h' ∧ ab_Fr sy_W h h' ∧ ∃ v, v ≤ 1000 ∧ ∀ i, mi_a h' 144 i = if i = zf.toNat then v else mi_a h 144 i
section FOO
variable {d : Nat} {h : sm_H} {zf : Int}
theorem fo105 {ze zl zh za : Int} {zs : Int64} (f0 : 0 ≤ zf) (f1 : zf < 80) (hS : ab_Sh sx_sk h) (e0 : 0 ≤ ze) (e1 : ze ≤ 1) (ol : mi_in zl) (oh : mi_in zh) (h1000 : zh ≤ 1000) (oa : mi_in za) : me_E d 199 105 [some (.inr (.inr 109)), some (.inl zf), some (.inl ze), some (.inr (.inl zs)), none, some (.inl zl), some (.inl zh), some (.inl za)] [] h (fo_Q h zf) := by
  have of : mi_in zf := ⟨by omega, by omega⟩
  have oe : mi_in ze := ⟨by omega, by omega⟩
  have nx : ∀ h1, ab_Sh sx_sk h1 → ab_Fr [(13999, 14000)] h h1 → me_E d 199 164 [some (.inr (.inr 109)), some (.inl zf), some (.inl ze), some (.inr (.inl zs)), none, some (.inl zl), some (.inl zh), some (.inl za)] [] h1 (fo_Q h zf) := fun h1 g1 g3 => by
    refine mt_foD g1 of oe ol oh oa ⟨by omega, fun h2 r1 r2 r3 r4 r5 r6 => ?_⟩
    refine ⟨rfl, r1, (g3.wide (fun c hc => ab_swr_ok (by decide) hc)).trans (r6.wide (fun c hc => ab_swr_ok (by decide) hc)), zh, h1000, fun i => ?_⟩
    rw [r4, me_a (k := 144) g3 hS rfl rfl]
  refine mt_foC hS of oe ol oh oa ?_ ?_ ?_ ?_ ?_ ?_
  · intro b c1 h1 g1 g2 g3
    exact nx h1 g1 g3
  · intro b c0 c1
    exact ⟨by omega, fun h1 g1 g2 g3 => nx h1 g1 g3⟩
  · intro b c0 c1 c2
    exact ⟨by omega, fun h1 g1 g2 g3 => nx h1 g1 g3⟩
  · intro b c0 c1 c2 c3
    exact ⟨by omega, fun h1 g1 g2 g3 => nx h1 g1 g3⟩
  · intro b c0 c1 c2 c3 c4
    exact ⟨by omega, fun h1 g1 g2 g3 => nx h1 g1 g3⟩
  · intro b c0 c1 c2 c3 c4
    exact ⟨by omega, fun h1 g1 g2 g3 => nx h1 g1 g3⟩
theorem me_formOf {Y : wk_Y} (hL : wk_L (mi_a h) Y) (f0 : 0 ≤ zf) (f1 : zf < wk_f Y) (hS : ab_Sh sx_sk h) : me_E d 199 0 [some (.inr (.inr 109)), some (.inl zf), none, none, none, none, none, none] [] h (fo_Q h zf) := by
  have h80 := hL.2.1
  have of : mi_in zf := ⟨by omega, by omega⟩
  obtain ⟨-, -, c1, c2, -, c3⟩ := hL.2.2.2 zf f0 f1
  have lp : ∀ (N j : Nat) (ze zl zh za : Int) (zs : Int64), (mi_a h 130 zf.toNat).toNat - j < N → (j : Int) ≤ mi_a h 130 zf.toNat → za = wk_alt (mi_a h) j (mi_a h 129 zf.toNat) → 0 ≤ ze → ze ≤ 1 → mi_in zl → mi_in zh → zh ≤ 1000 → mi_in za → me_E d 199 20 [some (.inr (.inr 109)), some (.inl zf), some (.inl ze), some (.inr (.inl zs)), none, some (.inl zl), some (.inl zh), some (.inl za)] [] h (fo_Q h zf) := by
    intro N
    induction N with
    | zero => intro j ze zl zh za zs hN; exfalso; omega
    | succ N ih =>
      intro j ze zl zh za zs hN hj hza e0 e1 ol oh h1000 oa
      have oe : mi_in ze := ⟨by omega, by omega⟩
      have lt : 0 ≤ za → (j : Int) < mi_a h 130 zf.toNat := fun z => by
        by_cases e : (j : Int) = mi_a h 130 zf.toNat
        · exfalso
          have ej : j = (mi_a h 130 zf.toNat).toNat := by omega
          rw [← ej, ← hza] at c2
          omega
        · omega
      have bd : 0 ≤ za → za < 80 := fun z => by
        have := (c3 j (lt z)).2.1
        omega
      have nx : ∀ (ze zl zh : Int) (zs : Int64), 0 ≤ za → 0 ≤ ze → ze ≤ 1 → mi_in zl → mi_in zh → zh ≤ 1000 → me_E d 199 20 [some (.inr (.inr 109)), some (.inl zf), some (.inl ze), some (.inr (.inl zs)), none, some (.inl zl), some (.inl zh), some (.inl (mi_a h 128 (Int.toNat za)))] [] h (fo_Q h zf) := fun ze zl zh zs z a b ol oh c => by
        have := lt z
        refine ih (j + 1) ze zl zh _ zs (by omega) (by omega) ?_ a b ol oh c (mi_inT _)
        rw [wk_alt_succ, hza]
      refine mt_foB hS of oe ol oh oa ?_ ?_ ?_ ?_ ?_ ?_ ?_
      · intro c h1 g1 g2
        have e := me_nil g2
        subst e
        exact fo105 f0 (by omega) g1 e0 e1 ol oh h1000 oa
      · intro c0 c1 c2
        have := bd c0
        refine ⟨by omega, fun h1 g1 g2 => ?_⟩
        have e := me_nil g2
        subst e
        exact nx _ _ _ _ c0 (by decide) (by decide) (mi_inT _) oh h1000
      · intro c0 c1 c2
        have := bd c0
        refine ⟨by omega, fun h1 g1 g2 => ?_⟩
        have e := me_nil g2
        subst e
        exact nx _ _ _ _ c0 (by decide) (by decide) (mi_inT _) (mi_inT _) (by omega)
      · intro c0 c1 c2 c3
        have := bd c0
        refine ⟨by omega, fun h1 g1 g2 => ?_⟩
        have e := me_nil g2
        subst e
        exact nx _ _ _ _ c0 (by decide) (by decide) (mi_inT _) oh h1000
      · intro c0 c1 c2 c3
        have := bd c0
        refine ⟨by omega, fun h1 g1 g2 => ?_⟩
        have e := me_nil g2
        subst e
        exact nx _ _ _ _ c0 (by decide) (by decide) (mi_inT _) (mi_inT _) (by omega)
      · intro c0 c1 c2 c3
        have := bd c0
        refine ⟨by omega, fun h1 g1 g2 => ?_⟩
        have e := me_nil g2
        subst e
        exact nx _ _ _ _ c0 (by decide) (by decide) (mi_inT _) oh h1000
      · intro c0 c1 c2 c3
        have := bd c0
        refine ⟨by omega, fun h1 g1 g2 => ?_⟩
        have e := me_nil g2
        subst e
        exact nx _ _ _ _ c0 (by decide) (by decide) (mi_inT _) (mi_inT _) (by omega)
  refine mt_foA hS of ⟨by omega, fun h1 g1 g2 => ?_⟩
  have e := me_nil g2
  subst e
  exact lp ((mi_a h1 130 zf.toNat).toNat + 1) 0 0 0 1000 _ _ (by omega) (by omega) rfl (by decide) (by decide) ⟨by decide, by decide⟩ ⟨by decide, by decide⟩ (by decide) (mi_inT _)
end FOO
section BEH
variable {d : Nat} {h0 : sm_H} {za : Int} {zx : Int64}
theorem be12 {Y : wk_Y} (hL : wk_L (mi_a h0) Y) (hS0 : ab_Sh sx_sk h0) (oa : mi_in za) : ∀ (N : Nat) (zk : Int) (zg : Int64) (q7 q8 q9 q10 : Option mi_V) (h : sm_H), zk + 1 < N → -1 ≤ zk → zk < 60 → ab_Sh sx_sk h → ab_Fr sy_V h0 h → (∀ k : Nat, (k : Int) ≤ zk → 0 ≤ mi_a h 145 k ∧ mi_a h 145 k < wk_u Y) → (∀ v, q7 = some v → mi_ok v) → (∀ v, q8 = some v → mi_ok v) → (∀ v, q9 = some v → mi_ok v) → (∀ v, q10 = some v → mi_ok v) → me_E (d + 1) 200 12 [some (.inr (.inr 109)), some (.inl za), some (.inr (.inl zx)), none, some (.inr (.inl zg)), none, some (.inl zk), q7, q8, q9, q10] [] h (sy_Q h0) := by
  intro N
  induction N with
  | zero => intro zk zg q7 q8 q9 q10 h hN _; exfalso; omega
  | succ N ih =>
    intro zk zg q7 q8 q9 q10 h hN k0 k1 hS hF hr o7 o8 o9 o10
    have ok : mi_in zk := ⟨by omega, by omega⟩
    have h60 := hL.1
    have h80 := hL.2.1
    have go : ∀ (zi : Int64) (h1 : sm_H), 0 ≤ zk → ab_Sh sx_sk h1 → ab_Fr [(17536, 17537)] h h1 → me_E (d + 1) 200 63 [some (.inr (.inr 109)), some (.inl za), some (.inr (.inl zx)), none, some (.inr (.inl zg)), none, some (.inl zk), some (.inl (mi_a h 145 (Int.toNat zk))), some (.inr (.inl zi)), none, q10] [] h1 (sy_Q h0) := by
      intro zi h1 z0 g1 g3
      obtain ⟨r0, r1⟩ := hr zk.toNat (by omega)
      have e145 : ∀ k, mi_a h1 145 k = mi_a h 145 k := fun k => me_a (k := 145) g3 hS rfl rfl
      generalize mi_a h 145 zk.toNat = zu at r0 r1
      have ou : mi_in zu := ⟨by omega, by omega⟩
      have hF1 : ab_Fr sy_V h0 h1 := hF.trans (g3.wide (fun c hc => ab_swr_ok (by decide) hc))
      have hg : wk_gc (mi_a h0) (mi_a h1) := wk_gc_fr hF1 hS0 rfl
      have hL1 := wk_L_g hL hg
      obtain ⟨-, -, -, a6, a7, a8⟩ := hL1.2.2.1 zu r0 r1
      have g160 : ∀ (zn : Int) (h2 : sm_H), mi_in zn → zn < 80 → ab_Sh sx_sk h2 → ab_Fr [(13999, 14000)] h1 h2 → me_E (d + 1) 200 160 [some (.inr (.inr 109)), some (.inl za), some (.inr (.inl zx)), none, some (.inr (.inl zg)), none, some (.inl zk), some (.inl zu), some (.inr (.inl zi)), none, some (.inl zn)] [] h2 (sy_Q h0) := by
        intro zn h2 on n80 s1 s2
        have last : ∀ h3, ab_Sh sx_sk h3 → ab_Fr [(17664, 17665)] h2 h3 → ∃ Q1, me_E (d + 0) 198 0 [some (.inr (.inr 109)), some (.inl zu)] [] h3 Q1 ∧ ∀ w h4, (∀ x, w = some x → mi_ok x) → Q1 w h4 → me_E (d + 1) 200 183 [some (.inr (.inr 109)), some (.inl za), some (.inr (.inl zx)), none, some (.inr (.inl zg)), none, some (.inl zk), some (.inl zu), some (.inr (.inl zi)), none, some (.inl zn)] (mi_back w []) h4 (sy_Q h0) := by
          intro h3 t1 t2
          refine ⟨_, me_isVoid t1 r0 (by omega), fun w h4 ow hq => ?_⟩
          obtain ⟨e, z, rfl, z0, z1⟩ := hq
          subst e
          have hF3 : ab_Fr sy_V h0 h4 := (hF1.trans (s2.wide (fun c hc => ab_swr_ok (by decide) hc))).trans (t2.wide (fun c hc => ab_swr_ok (by decide) hc))
          have f145 : ∀ k, mi_a h4 145 k = mi_a h 145 k := fun k => ((me_a (k := 145) t2 s1 rfl rfl).trans (me_a (k := 145) s2 g1 rfl rfl)).trans (e145 k)
          have fin : ∀ (zg : Int64), me_E (d + 1) 200 12 [some (.inr (.inr 109)), some (.inl za), some (.inr (.inl zx)), none, some (.inr (.inl zg)), none, some (.inl (zk + -1)), some (.inl zu), some (.inr (.inl zi)), none, some (.inl zn)] [] h4 (sy_Q h0) := fun zg => ih (zk + -1) zg _ _ _ _ h4 (by omega) (by omega) (by omega) t1 hF3 (fun k hk => by rw [f145]; exact hr k (by omega)) (me_oi ou) (fun v e => by cases e; trivial) me_on (me_oi on)
          refine mt_beG t1 oa ok ou on ⟨by omega, by omega⟩ ?_ ?_
          · intro c
            refine ⟨by omega, fun h5 x1 x2 => ?_⟩
            have e := me_nil x2
            subst e
            exact fin _
          · intro c
            refine ⟨by omega, fun h5 x1 x2 => ?_⟩
            have e := me_nil x2
            subst e
            exact fin _
        refine mt_beF s1 oa ok ou on ?_ ?_
        · intro c h3 t1 t2
          exact last h3 t1 (t2.wide (fun c hc => by cases hc))
        · intro c
          exact ⟨by omega, fun h3 t1 t2 t3 => last h3 t1 t3⟩
      have g120 : ∀ (zn : Int), mi_in zn → zn < 80 → me_E (d + 1) 200 120 [some (.inr (.inr 109)), some (.inl za), some (.inr (.inl zx)), none, some (.inr (.inl zg)), none, some (.inl zk), some (.inl zu), some (.inr (.inl zi)), none, some (.inl zn)] [] h1 (sy_Q h0) := by
        intro zn on n80
        refine mt_beE g1 oa ok ou on ?_ ?_ ?_ ?_
        · intro b c1 h2 s1 s2 s3
          exact g160 zn h2 on n80 s1 s3
        · intro b c1 c2 h2 s1 s2 s3
          exact g160 zn h2 on n80 s1 s3
        · intro b c1 c2 c3
          exact ⟨by omega, fun h2 s1 s2 s3 => g160 zn h2 on n80 s1 s3⟩
        · intro b c1 c2 c3
          exact ⟨by omega, fun h2 s1 s2 s3 => g160 zn h2 on n80 s1 s3⟩
      refine mt_beD g1 oa ok ou o10 ?_ ?_ ?_
      · intro c1 c2
        refine ⟨by omega, fun h2 s1 s2 => ?_⟩
        have e := me_nil s2
        subst e
        exact g120 _ ⟨by decide, by decide⟩ (by decide)
      · intro c1 c2
        obtain ⟨b1, b2, b3, b4, b5, b6, -⟩ := a6 c2
        refine ⟨by omega, fun h2 s1 s2 => ?_⟩
        have e := me_nil s2
        subst e
        have b6 : mi_a h2 114 (mi_a h2 115 (mi_a h2 120 zu.toNat).toNat).toNat < wk_f Y := b6
        exact g120 _ (mi_inT _) (by omega)
      · intro c1
        obtain ⟨b1, b2, -⟩ := a7 c1
        refine ⟨by omega, fun h2 s1 s2 => ?_⟩
        have e := me_nil s2
        subst e
        exact g120 _ (mi_inT _) (by omega)
    refine mt_beC hS oa ok o7 o8 o9 o10 ?_ ?_ ?_
    · intro c h1 g1 g2
      have e := me_nil g2
      subst e
      exact ⟨rfl, g1, hF⟩
    · intro c1 c2
      have := hr zk.toNat (by omega)
      exact ⟨by omega, fun h1 g1 g2 g3 => go _ h1 c1 g1 g3⟩
    · intro c1 c2
      have := hr zk.toNat (by omega)
      exact ⟨by omega, fun h1 g1 g2 g3 => go _ h1 c1 g1 g3⟩
theorem me_behind {Y : wk_Y} (hL : wk_L (mi_a h0) Y) (hS0 : ab_Sh sx_sk h0) (a0 : 0 ≤ za) (a1 : za < 80) (hu : mi_a h0 126 za.toNat < 0 ∨ mi_a h0 126 za.toNat < wk_u Y) : me_E (d + 1) 200 0 [some (.inr (.inr 109)), some (.inl za), some (.inr (.inl zx)), none, none, none, none, none, none, none, none] [] h0 (sy_Q h0) := by
  have oa : mi_in za := ⟨by omega, by omega⟩
  refine mt_beA hS0 oa ?_
  intro h1 g1 g2
  have e := me_nil g2
  subst e
  refine ⟨_, me_line g1 (wk_L_C hL) a0 a1 hu, fun w h2 ow hq => ?_⟩
  obtain ⟨q1, q2, rfl, q4, q5⟩ := hq
  refine mt_beB q1 oa ⟨by omega, by omega⟩ ?_
  refine ⟨by omega, fun h3 r1 r2 => ?_⟩
  have e := me_nil r2
  subst e
  refine be12 hL g1 oa 70 _ _ _ _ _ _ _ (by omega) (by omega) (by omega) q1 (q2.wide (fun c hc => ab_swr_ok (by decide) hc)) (fun k hk => ?_) me_on me_on me_on me_on
  have hk2 : k < (wk_row (mi_a h1) 61 (mi_a h1 126 za.toNat)).length := by omega
  obtain ⟨x1, x2, x3⟩ := q5 k _ (List.getElem?_eq_getElem hk2)
  rw [x1]
  exact ⟨x2, x3⟩
end BEH
