/-! weigh -/
def sy_V : List (Nat × Nat) := [(13999, 14000), (16768, 18432), (18560, 18561)]
def sy_Q (h : sm_H) (w : Option mi_V) (h' : sm_H) : Prop := w = none ∧ ab_Sh sx_sk h' ∧ ab_Fr sy_V h h'
def wg_P (zu zs zf : Int) (h : sm_H) : Prop := 0 ≤ zu ∧ zu < 60 ∧ (0 ≤ zf → zf < 80 ∧ mi_a h 144 zf.toNat ≤ 1000) ∧ (zs = 9 → 0 ≤ zf ∧ 0 ≤ mi_a h 120 zu.toNat ∧ mi_a h 120 zu.toNat < 26) ∧ (zs = 8 → 0 ≤ mi_a h 120 zu.toNat ∧ mi_a h 120 zu.toNat < 20)
section WGH
variable {d : Nat} {h0 h h1 : sm_H} {zu zs zf : Int}
theorem wg_P_fr {wr : List (Nat × Nat)} (hP : wg_P zu zs zf h) (hS : ab_Sh sx_sk h) (hF : ab_Fr wr h h1) (hw : (ab_in wr 18432 || ab_in wr 15360) = false) : wg_P zu zs zf h1 := by
  simp only [Bool.or_eq_false_iff] at hw
  unfold wg_P
  rw [me_a (k := 144) hF hS rfl hw.1, me_a (k := 120) hF hS rfl hw.2]
  exact hP
theorem wg181 (os : mi_in zs) (of : mi_in zf) (hS : ab_Sh sx_sk h) (hP : wg_P zu zs zf h) (hF : ab_Fr sy_V h0 h) : me_E d 195 181 [some (.inr (.inr 109)), some (.inl zu), some (.inl zs), some (.inl zf)] [] h (sy_Q h0) := by
  obtain ⟨p1, p2, p3, p4, p5⟩ := hP
  refine mt_wgE hS ⟨by omega, by omega⟩ os of ?_ ?_ ?_
  · intro c1 c2
    exact ⟨by omega, fun h1 g1 g2 g3 => ⟨rfl, g1, hF.trans (g3.wide (fun c hc => ab_swr_ok (by decide) hc))⟩⟩
  · intro c1 c2
    exact ⟨by omega, fun h1 g1 g2 g3 => ⟨rfl, g1, hF.trans (g3.wide (fun c hc => ab_swr_ok (by decide) hc))⟩⟩
  · intro c1
    have := p4 c1
    have b := mi_inT (mx_a h 144 (Int.toNat zf))
    have b1 : -2147483648 ≤ mi_a h 144 (Int.toNat zf) := b.1
    exact ⟨by omega, fun h1 g1 g2 g3 => ⟨rfl, g1, hF.trans (g3.wide (fun c hc => ab_swr_ok (by decide) hc))⟩⟩
theorem wg139 (os : mi_in zs) (of : mi_in zf) (hS : ab_Sh sx_sk h) (hP : wg_P zu zs zf h) (hF : ab_Fr sy_V h0 h) : me_E d 195 139 [some (.inr (.inr 109)), some (.inl zu), some (.inl zs), some (.inl zf)] [] h (sy_Q h0) := by
  have nx : ∀ h1, ab_Sh sx_sk h1 → ab_Fr [(17792, 17793)] h h1 → me_E d 195 181 [some (.inr (.inr 109)), some (.inl zu), some (.inl zs), some (.inl zf)] [] h1 (sy_Q h0) := fun h1 g1 g3 => wg181 os of g1 (wg_P_fr hP hS g3 rfl) (hF.trans (g3.wide (fun c hc => ab_swr_ok (by decide) hc)))
  obtain ⟨p1, p2, p3, p4, p5⟩ := hP
  refine mt_wgD hS ⟨by omega, by omega⟩ os of ?_ ?_ ?_
  · intro c1 c2
    exact ⟨by omega, fun h1 g1 g2 g3 => nx h1 g1 g3⟩
  · intro c1 c2
    exact ⟨by omega, fun h1 g1 g2 g3 => nx h1 g1 g3⟩
  · intro c1
    exact ⟨by omega, fun h1 g1 g2 g3 => nx h1 g1 g3⟩
theorem wg84 (os : mi_in zs) (of : mi_in zf) (hS : ab_Sh sx_sk h) (hP : wg_P zu zs zf h) (hF : ab_Fr sy_V h0 h) : me_E d 195 84 [some (.inr (.inr 109)), some (.inl zu), some (.inl zs), some (.inl zf)] [] h (sy_Q h0) := by
  have nx : ∀ h1, ab_Sh sx_sk h1 → ab_Fr [(17152, 17153)] h h1 → me_E d 195 139 [some (.inr (.inr 109)), some (.inl zu), some (.inl zs), some (.inl zf)] [] h1 (sy_Q h0) := fun h1 g1 g3 => wg139 os of g1 (wg_P_fr hP hS g3 rfl) (hF.trans (g3.wide (fun c hc => ab_swr_ok (by decide) hc)))
  obtain ⟨p1, p2, p3, p4, p5⟩ := hP
  refine mt_wgC hS ⟨by omega, by omega⟩ os of ?_ ?_ ?_ ?_ ?_
  · intro c1 c2
    exact ⟨by omega, fun h1 g1 g2 g3 => nx h1 g1 g3⟩
  · intro c1 c2 c3 c4
    exact ⟨by omega, fun h1 g1 g2 g3 => nx h1 g1 g3⟩
  · intro c1 c2 c3 c4
    exact ⟨by omega, fun h1 g1 g2 g3 => nx h1 g1 g3⟩
  · intro c1 c2 c3
    exact ⟨by omega, fun h1 g1 g2 g3 => nx h1 g1 g3⟩
  · intro c1
    exact ⟨by omega, fun h1 g1 g2 g3 => nx h1 g1 g3⟩
theorem wg49 (os : mi_in zs) (of : mi_in zf) (hS : ab_Sh sx_sk h) (hP : wg_P zu zs zf h) (hF : ab_Fr sy_V h0 h) : me_E d 195 49 [some (.inr (.inr 109)), some (.inl zu), some (.inl zs), some (.inl zf)] [] h (sy_Q h0) := by
  have nx : ∀ h1, ab_Sh sx_sk h1 → ab_Fr [(16768, 16769)] h h1 → me_E d 195 84 [some (.inr (.inr 109)), some (.inl zu), some (.inl zs), some (.inl zf)] [] h1 (sy_Q h0) := fun h1 g1 g3 => wg84 os of g1 (wg_P_fr hP hS g3 rfl) (hF.trans (g3.wide (fun c hc => ab_swr_ok (by decide) hc)))
  obtain ⟨p1, p2, p3, p4, p5⟩ := hP
  refine mt_wgB hS ⟨by omega, by omega⟩ os of ?_ ?_ ?_ ?_
  · intro c1 c2
    exact ⟨by omega, fun h1 g1 g2 g3 => nx h1 g1 g3⟩
  · intro c1 c2 c3
    exact ⟨by omega, fun h1 g1 g2 g3 => nx h1 g1 g3⟩
  · intro c1 c2 c3
    exact ⟨by omega, fun h1 g1 g2 g3 => nx h1 g1 g3⟩
  · intro c1
    have := p3 c1
    have b := me_ab (k := 133) (i := zf.toNat) hS rfl (by decide) (by omega)
    exact ⟨by omega, fun h1 g1 g2 g3 => nx h1 g1 g3⟩
theorem me_weigh {Y : wk_Y} (hL : wk_L (mi_a h) Y) (hu0 : 0 ≤ zu) (hu1 : zu < wk_u Y) (hH : ∀ f : Nat, (f : Int) < wk_f Y → mi_a h 144 f ≤ 1000) (hS : ab_Sh sx_sk h) : me_E d 195 0 [some (.inr (.inr 109)), some (.inl zu), none, none] [] h (sy_Q h) := by
  obtain ⟨-, -, -, a6, a7, a8⟩ := hL.2.2.1 zu hu0 hu1
  have h60 := hL.1
  have h80 := hL.2.1
  refine mt_wgA hS ⟨by omega, by omega⟩ ?_ ?_ ?_
  · intro c1 c2
    refine ⟨by omega, fun h1 g1 g2 => ?_⟩
    have e := me_nil g2
    subst e
    exact wg49 (mi_inT _) ⟨by decide, by decide⟩ g1 ⟨hu0, by omega, fun z => absurd z (by decide), fun z => absurd z c2, a8⟩ ab_Fr.refl
  · intro c1 c2
    obtain ⟨b1, b2, b3, b4, b5, b6, -⟩ := a6 c2
    refine ⟨by omega, fun h1 g1 g2 => ?_⟩
    have e := me_nil g2
    subst e
    have b5 : 0 ≤ mi_a h1 114 (mi_a h1 115 (mi_a h1 120 zu.toNat).toNat).toNat := b5
    have b6 : mi_a h1 114 (mi_a h1 115 (mi_a h1 120 zu.toNat).toNat).toNat < wk_f Y := b6
    exact wg49 (mi_inT _) (mi_inT _) g1 ⟨hu0, by omega, fun z => ⟨by omega, hH _ (by omega)⟩, fun z => ⟨b5, b1, b2⟩, fun z => by omega⟩ ab_Fr.refl
  · intro c1
    obtain ⟨b1, b2, -⟩ := a7 c1
    refine ⟨by omega, fun h1 g1 g2 => ?_⟩
    have e := me_nil g2
    subst e
    exact wg49 (mi_inT _) (mi_inT _) g1 ⟨hu0, by omega, fun z => ⟨by omega, hH _ (by omega)⟩, fun z => by omega, fun z => by omega⟩ ab_Fr.refl
end WGH
/-! alternative -/
section ALT
variable {d : Nat} {h0 h : sm_H} {za zn : Int}
theorem me_isVoid {zu : Int} (hS : ab_Sh sx_sk h) (u0 : 0 ≤ zu) (u1 : zu < 60) : me_E d 198 0 [some (.inr (.inr 109)), some (.inl zu)] [] h (fun w h' => h' = h ∧ ∃ z, w = some (.inl z) ∧ 0 ≤ z ∧ z ≤ 1) := by
  have := me_abs (M := (2, 4, sb_198)) (as := [.inr (.inr 109), .inl zu]) xo_v_isVoid rfl hS ⟨rfl, me_nv1 ⟨by omega, by omega⟩ u0 (by omega), trivial⟩ (fun e he => by cases he) (by decide)
  refine (me_E.deep (d' := d) this (Nat.zero_le _)).imp (fun w h' hq => ?_)
  obtain ⟨q1, q2, p, hp, q3, -⟩ := hq
  refine ⟨me_nil q2, ?_⟩
  rcases List.mem_cons.mp hp with rfl | hp
  · exact me_resI q3 (by decide) rfl
  · cases hp
theorem al20 (a0 : 0 ≤ za) (a1 : za < 80) (hn : zn ≤ 60) (hS : ab_Sh sx_sk h) (hF : ab_Fr sy_V h0 h) (hr : ∀ k : Nat, (k : Int) < zn → 0 ≤ mi_a h 145 k ∧ mi_a h 145 k < 60) : ∀ (N : Nat) (ze zl zh zk : Int) (zs : Int64) (q9 q10 : Option mi_V), zn - zk < N → 0 ≤ zk → zk ≤ zn → 0 ≤ ze → ze ≤ 1 → mi_in zl → mi_in zh → (∀ v, q9 = some v → mi_ok v) → (∀ v, q10 = some v → mi_ok v) → me_E (d + 1) 196 20 [some (.inr (.inr 109)), some (.inl za), some (.inl zn), some (.inl ze), some (.inr (.inl zs)), none, some (.inl zl), some (.inl zh), some (.inl zk), q9, q10] [] h (sy_Q h0) := by
  intro N
  induction N with
  | zero => intro ze zl zh zk zs q9 q10 hN _ _; exfalso; omega
  | succ N ih =>
    intro ze zl zh zk zs q9 q10 hN k0 k1 e0 e1 ol oh o9 o10
    have oa : mi_in za := ⟨by omega, by omega⟩
    have on : mi_in zn := ⟨by omega, by omega⟩
    have oe : mi_in ze := ⟨by omega, by omega⟩
    have ok : mi_in zk := ⟨by omega, by omega⟩
    have oz : mi_in 0 := ⟨by decide, by decide⟩
    have go : ∀ (zs : Int64) (zl : Int), zk < zn → mi_in zl → me_E (d + 1) 196 77 [some (.inr (.inr 109)), some (.inl za), some (.inl zn), some (.inl ze), some (.inr (.inl zs)), none, some (.inl zl), some (.inl zh), some (.inl zk), some (.inl (mi_a h 145 zk.toNat)), q10] [] h (sy_Q h0) := by
      intro zs zl hlt ol
      obtain ⟨r0, r1⟩ := hr zk.toNat (by omega)
      have ou : mi_in (mi_a h 145 zk.toNat) := mi_inT _
      have nx : ∀ (ze zh : Int) (q10 : Option mi_V), 0 ≤ ze → ze ≤ 1 → mi_in zh → (∀ v, q10 = some v → mi_ok v) → me_E (d + 1) 196 20 [some (.inr (.inr 109)), some (.inl za), some (.inl zn), some (.inl ze), some (.inr (.inl zs)), none, some (.inl zl), some (.inl zh), some (.inl (zk + 1)), some (.inl (mi_a h 145 zk.toNat)), q10] [] h (sy_Q h0) := fun ze zh q10 a b c e => ih ze zl zh (zk + 1) zs _ _ (by omega) (by omega) (by omega) a b ol c (me_oi ou) e
      refine mt_alD hS oa on oe ol oh ok ou o10 ?_ ?_ ?_ ?_ ?_
      · intro c0 c1 c2
        refine ⟨by omega, fun h1 g1 g2 => ?_⟩
        have e := me_nil g2
        subst e
        exact nx _ _ _ (by decide) (by decide) oh (me_oi (mi_inT _))
      · intro c0 c1 c2
        refine ⟨by omega, fun h1 g1 g2 => ?_⟩
        have e := me_nil g2
        subst e
        exact nx _ _ _ (by decide) (by decide) (mi_inT _) (me_oi (mi_inT _))
      · intro c0 c1 c2
        refine ⟨by omega, fun h1 g1 g2 => ?_⟩
        have e := me_nil g2
        subst e
        exact nx _ _ _ (by decide) (by decide) oh (me_oi oz)
      · intro c0 c1 c2
        refine ⟨by omega, fun h1 g1 g2 => ?_⟩
        have e := me_nil g2
        subst e
        exact nx _ _ _ (by decide) (by decide) oz (me_oi oz)
      · intro c0 h1 g1 g2
        have e := me_nil g2
        subst e
        refine ⟨_, me_isVoid g1 r0 r1, fun w h2 ow hq => ?_⟩
        obtain ⟨e, z, rfl, z0, z1⟩ := hq
        subst e
        refine mt_alE g1 oa on oe ol oh ok ou ⟨by omega, by omega⟩ o10 ?_ ?_ ?_ ?_ ?_ ?_ ?_ ?_
        · intro c0 c1 c2
          refine ⟨by omega, fun h1 g1 g2 => ?_⟩
          have e := me_nil g2
          subst e
          exact nx _ _ _ (by decide) (by decide) oh (me_oi (mi_inT _))
        · intro c0 c1 c2
          refine ⟨by omega, fun h1 g1 g2 => ?_⟩
          have e := me_nil g2
          subst e
          exact nx _ _ _ (by decide) (by decide) (mi_inT _) (me_oi (mi_inT _))
        · intro c0 c1 c2
          refine ⟨by omega, fun h1 g1 g2 => ?_⟩
          have e := me_nil g2
          subst e
          exact nx _ _ _ (by decide) (by decide) oh (me_oi oz)
        · intro c0 c1 c2
          refine ⟨by omega, fun h1 g1 g2 => ?_⟩
          have e := me_nil g2
          subst e
          exact nx _ _ _ (by decide) (by decide) oz (me_oi oz)
        · intro c0 c1 c2
          refine ⟨by omega, fun h1 g1 g2 => ?_⟩
          have e := me_nil g2
          subst e
          exact nx _ _ _ (by decide) (by decide) oh (me_oi (mi_inT _))
        · intro c0 c1 c2
          refine ⟨by omega, fun h1 g1 g2 => ?_⟩
          have e := me_nil g2
          subst e
          exact nx _ _ _ (by decide) (by decide) (mi_inT _) (me_oi (mi_inT _))
        · intro c0 c1 c2
          refine ⟨by omega, fun h1 g1 g2 => ?_⟩
          have e := me_nil g2
          subst e
          exact nx _ _ _ (by decide) (by decide) oh (me_oi oz)
        · intro c0 c1 c2
          refine ⟨by omega, fun h1 g1 g2 => ?_⟩
          have e := me_nil g2
          subst e
          exact nx _ _ _ (by decide) (by decide) oz (me_oi oz)
    refine mt_alC hS oa on oe ol oh ok o9 o10 ?_ ?_ ?_ ?_
    · intro c1 c2
      exact ⟨by omega, fun h1 g1 g2 g3 g4 g5 g6 => ⟨rfl, g1, hF.trans (g6.wide (fun c hc => ab_swr_ok (by decide) hc))⟩⟩
    · intro c1 c2
      exact ⟨by omega, fun h1 g1 g2 g3 g4 g5 g6 => ⟨rfl, g1, hF.trans (g6.wide (fun c hc => ab_swr_ok (by decide) hc))⟩⟩
    · intro c1 c2
      refine ⟨by omega, fun h1 g1 g2 => ?_⟩
      have e := me_nil g2
      subst e
      exact go _ _ c1 ol
    · intro c1 c2
      have := hr zk.toNat (by omega)
      refine ⟨by omega, fun h1 g1 g2 => ?_⟩
      have e := me_nil g2
      subst e
      exact go _ _ c1 (mi_inT _)
theorem me_alternative {U : Int} (hS : ab_Sh sx_sk h) (hC : wk_C (mi_a h) U) (a0 : 0 ≤ za) (a1 : za < 80) (hu : mi_a h 126 za.toNat < 0 ∨ mi_a h 126 za.toNat < U) : me_E (d + 1) 196 0 [some (.inr (.inr 109)), some (.inl za), none, none, none, none, none, none, none, none, none] [] h (sy_Q h) := by
  have oa : mi_in za := ⟨by omega, by omega⟩
  have hU := hC.1
  refine mt_alA hS oa ?_
  intro h1 g1 g2
  have e := me_nil g2
  subst e
  refine ⟨_, me_line g1 hC a0 a1 hu, fun w h2 ow hq => ?_⟩
  obtain ⟨q1, q2, rfl, q4, q5⟩ := hq
  refine mt_alB q1 oa ⟨by omega, by omega⟩ ?_
  intro h3 r1 r2
  have e := me_nil r2
  subst e
  refine al20 a0 a1 q4 q1 (q2.wide (fun c hc => ab_swr_ok (by decide) hc)) (fun k hk => ?_) 70 1 0 0 0 _ _ _ (by omega) (by decide) (by omega) (by decide) (by decide) ⟨by decide, by decide⟩ ⟨by decide, by decide⟩ me_on me_on
  have hk2 : k < (wk_row (mi_a h1) 61 (mi_a h1 126 za.toNat)).length := by omega
  obtain ⟨x1, x2, x3⟩ := q5 k _ (List.getElem?_eq_getElem hk2)
  rw [x1]
  exact ⟨x2, by omega⟩
end ALT
/-! formOf, behind -/
def sy_W : List (Nat × Nat) := [(13999, 14000), (14848, 14849), (16768, 18561)]
def fo_Q (h : sm_H) (zf : Int) (w : Option mi_V) (h' : sm_H) : Prop := w = none ∧ ab_Sh sx_sk h' ∧ ab_Fr sy_W h h' ∧ ∃ v, v ≤ 1000 ∧ ∀ i, mi_a h' 144 i = if i = zf.toNat then v else mi_a h 144 i
section FOO
variable {d : Nat} {h : sm_H} {zf : Int}
theorem fo105 {ze zl zh za : Int} {zs : Int64} (f0 : 0 ≤ zf) (f1 : zf < 80) (hS : ab_Sh sx_sk h) (e0 : 0 ≤ ze) (e1 : ze ≤ 1) (ol : mi_in zl) (oh : mi_in zh) (h1000 : zh ≤ 1000) (oa : mi_in za) : me_E d 199 105 [some (.inr (.inr 109)), some (.inl zf), some (.inl ze), some (.inr (.inl zs)), none, some (.inl zl), some (.inl zh), some (.inl za)] [] h (fo_Q h zf) := by
  have of : mi_in zf := ⟨by omega, by omega⟩
  have oe : mi_in ze := ⟨by omega, by omega⟩
  have nx : ∀ h1, ab_Sh sx_sk h1 → ab_Fr [(13999, 14000)] h h1 → me_E d 199 164 [some (.inr (.inr 109)), some (.inl zf), some (.inl ze), some (.inr (.inl zs)), none, some (.inl zl), some (.inl zh), some (.inl za)] [] h1 (fo_Q h zf) := fun h1 g1 g3 => by
    refine mt_foD g1 of oe ol oh oa ⟨by omega, fun h2 r1 r2 r3 r4 r5 r6 => ?_⟩
    refine ⟨rfl, r1, (g3.wide (fun c hc => ab_swr_ok (by decide) hc)).trans (r6.wide (fun c hc => ab_swr_ok (by decide) hc)), zh, h1000, fun i => ?_⟩
    rw [r4, me_a (k := 144) g3 hS rfl rfl]
  refine mt_foC hS of oe ol oh oa ?_ ?_ ?_ ?_ ?_ ?_
  · intro b c1 h1 g1 g2 g3
    exact nx h1 g1 g3
  · intro b c0 c1
    exact ⟨by omega, fun h1 g1 g2 g3 => nx h1 g1 g3⟩
  · intro b c0 c1 c2
    exact ⟨by omega, fun h1 g1 g2 g3 => nx h1 g1 g3⟩
  · intro b c0 c1 c2 c3
    exact ⟨by omega, fun h1 g1 g2 g3 => nx h1 g1 g3⟩
  · intro b c0 c1 c2 c3 c4
    exact ⟨by omega, fun h1 g1 g2 g3 => nx h1 g1 g3⟩
  · intro b c0 c1 c2 c3 c4
    exact ⟨by omega, fun h1 g1 g2 g3 => nx h1 g1 g3⟩
theorem me_formOf {Y : wk_Y} (hL : wk_L (mi_a h) Y) (f0 : 0 ≤ zf) (f1 : zf < wk_f Y) (hS : ab_Sh sx_sk h) : me_E d 199 0 [some (.inr (.inr 109)), some (.inl zf), none, none, none, none, none, none] [] h (fo_Q h zf) := by
  have h80 := hL.2.1
  have of : mi_in zf := ⟨by omega, by omega⟩
  obtain ⟨-, -, c1, c2, -, c3⟩ := hL.2.2.2 zf f0 f1
  have lp : ∀ (N j : Nat) (ze zl zh za : Int) (zs : Int64), (mi_a h 130 zf.toNat).toNat - j < N → (j : Int) ≤ mi_a h 130 zf.toNat → za = wk_alt (mi_a h) j (mi_a h 129 zf.toNat) → 0 ≤ ze → ze ≤ 1 → mi_in zl → mi_in zh → zh ≤ 1000 → mi_in za → me_E d 199 20 [some (.inr (.inr 109)), some (.inl zf), some (.inl ze), some (.inr (.inl zs)), none, some (.inl zl), some (.inl zh), some (.inl za)] [] h (fo_Q h zf) := by
    intro N
    induction N with
    | zero => intro j ze zl zh za zs hN; exfalso; omega
    | succ N ih =>
      intro j ze zl zh za zs hN hj hza e0 e1 ol oh h1000 oa
      have oe : mi_in ze := ⟨by omega, by omega⟩
      have lt : 0 ≤ za → (j : Int) < mi_a h 130 zf.toNat := fun z => by
        by_cases e : (j : Int) = mi_a h 130 zf.toNat
        · exfalso
          have ej : j = (mi_a h 130 zf.toNat).toNat := by omega
          rw [← ej, ← hza] at c2
          omega
        · omega
      have bd : 0 ≤ za → za < 80 := fun z => by
        have := (c3 j (lt z)).2.1
        omega
      have nx : ∀ (ze zl zh : Int) (zs : Int64), 0 ≤ za → 0 ≤ ze → ze ≤ 1 → mi_in zl → mi_in zh → zh ≤ 1000 → me_E d 199 20 [some (.inr (.inr 109)), some (.inl zf), some (.inl ze), some (.inr (.inl zs)), none, some (.inl zl), some (.inl zh), some (.inl (mi_a h 128 (Int.toNat za)))] [] h (fo_Q h zf) := fun ze zl zh zs z a b ol oh c => by
        have := lt z
        refine ih (j + 1) ze zl zh _ zs (by omega) (by omega) ?_ a b ol oh c (mi_inT _)
        rw [wk_alt_succ, hza]
      refine mt_foB hS of oe ol oh oa ?_ ?_ ?_ ?_ ?_ ?_ ?_
      · intro c h1 g1 g2
        have e := me_nil g2
        subst e
        exact fo105 f0 (by omega) g1 e0 e1 ol oh h1000 oa
      · intro c0 c1 c2
        have := bd c0
        refine ⟨by omega, fun h1 g1 g2 => ?_⟩
        have e := me_nil g2
        subst e
        exact nx _ _ _ _ c0 (by decide) (by decide) (mi_inT _) oh h1000
      · intro c0 c1 c2
        have := bd c0
        refine ⟨by omega, fun h1 g1 g2 => ?_⟩
        have e := me_nil g2
        subst e
        exact nx _ _ _ _ c0 (by decide) (by decide) (mi_inT _) (mi_inT _) (by omega)
      · intro c0 c1 c2 c3
        have := bd c0
        refine ⟨by omega, fun h1 g1 g2 => ?_⟩
        have e := me_nil g2
        subst e
        exact nx _ _ _ _ c0 (by decide) (by decide) (mi_inT _) oh h1000
      · intro c0 c1 c2 c3
        have := bd c0
        refine ⟨by omega, fun h1 g1 g2 => ?_⟩
        have e := me_nil g2
        subst e
        exact nx _ _ _ _ c0 (by decide) (by decide) (mi_inT _) (mi_inT _) (by omega)
      · intro c0 c1 c2 c3
        have := bd c0
        refine ⟨by omega, fun h1 g1 g2 => ?_⟩
        have e := me_nil g2
        subst e
        exact nx _ _ _ _ c0 (by decide) (by decide) (mi_inT _) oh h1000
      · intro c0 c1 c2 c3
        have := bd c0
        refine ⟨by omega, fun h1 g1 g2 => ?_⟩
        have e := me_nil g2
        subst e
        exact nx _ _ _ _ c0 (by decide) (by decide) (mi_inT _) (mi_inT _) (by omega)
  refine mt_foA hS of ⟨by omega, fun h1 g1 g2 => ?_⟩
  have e := me_nil g2
  subst e
  exact lp ((mi_a h1 130 zf.toNat).toNat + 1) 0 0 0 1000 _ _ (by omega) (by omega) rfl (by decide) (by decide) ⟨by decide, by decide⟩ ⟨by decide, by decide⟩ (by decide) (mi_inT _)
end FOO
section BEH
variable {d : Nat} {h0 : sm_H} {za : Int} {zx : Int64}
theorem be12 {Y : wk_Y} (hL : wk_L (mi_a h0) Y) (hS0 : ab_Sh sx_sk h0) (oa : mi_in za) : ∀ (N : Nat) (zk : Int) (zg : Int64) (q7 q8 q9 q10 : Option mi_V) (h : sm_H), zk + 1 < N → -1 ≤ zk → zk < 60 → ab_Sh sx_sk h → ab_Fr sy_V h0 h → (∀ k : Nat, (k : Int) ≤ zk → 0 ≤ mi_a h 145 k ∧ mi_a h 145 k < wk_u Y) → (∀ v, q7 = some v → mi_ok v) → (∀ v, q8 = some v → mi_ok v) → (∀ v, q9 = some v → mi_ok v) → (∀ v, q10 = some v → mi_ok v) → me_E (d + 1) 200 12 [some (.inr (.inr 109)), some (.inl za), some (.inr (.inl zx)), none, some (.inr (.inl zg)), none, some (.inl zk), q7, q8, q9, q10] [] h (sy_Q h0) := by
  intro N
  induction N with
  | zero => intro zk zg q7 q8 q9 q10 h hN _; exfalso; omega
  | succ N ih =>
    intro zk zg q7 q8 q9 q10 h hN k0 k1 hS hF hr o7 o8 o9 o10
    have ok : mi_in zk := ⟨by omega, by omega⟩
    have h60 := hL.1
    have h80 := hL.2.1
    have go : ∀ (zi : Int64) (h1 : sm_H), 0 ≤ zk → ab_Sh sx_sk h1 → ab_Fr [(17536, 17537)] h h1 → me_E (d + 1) 200 63 [some (.inr (.inr 109)), some (.inl za), some (.inr (.inl zx)), none, some (.inr (.inl zg)), none, some (.inl zk), some (.inl (mi_a h 145 (Int.toNat zk))), some (.inr (.inl zi)), none, q10] [] h1 (sy_Q h0) := by
      intro zi h1 z0 g1 g3
      obtain ⟨r0, r1⟩ := hr zk.toNat (by omega)
      have e145 : ∀ k, mi_a h1 145 k = mi_a h 145 k := fun k => me_a (k := 145) g3 hS rfl rfl
      generalize mi_a h 145 zk.toNat = zu at r0 r1
      have ou : mi_in zu := ⟨by omega, by omega⟩
      have hF1 : ab_Fr sy_V h0 h1 := hF.trans (g3.wide (fun c hc => ab_swr_ok (by decide) hc))
      have hg : wk_gc (mi_a h0) (mi_a h1) := wk_gc_fr hF1 hS0 rfl
      have hL1 := wk_L_g hL hg
      obtain ⟨-, -, -, a6, a7, a8⟩ := hL1.2.2.1 zu r0 r1
      have g160 : ∀ (zn : Int) (h2 : sm_H), mi_in zn → zn < 80 → ab_Sh sx_sk h2 → ab_Fr [(13999, 14000)] h1 h2 → me_E (d + 1) 200 160 [some (.inr (.inr 109)), some (.inl za), some (.inr (.inl zx)), none, some (.inr (.inl zg)), none, some (.inl zk), some (.inl zu), some (.inr (.inl zi)), none, some (.inl zn)] [] h2 (sy_Q h0) := by
        intro zn h2 on n80 s1 s2
        have last : ∀ h3, ab_Sh sx_sk h3 → ab_Fr [(17664, 17665)] h2 h3 → ∃ Q1, me_E (d + 0) 198 0 [some (.inr (.inr 109)), some (.inl zu)] [] h3 Q1 ∧ ∀ w h4, (∀ x, w = some x → mi_ok x) → Q1 w h4 → me_E (d + 1) 200 183 [some (.inr (.inr 109)), some (.inl za), some (.inr (.inl zx)), none, some (.inr (.inl zg)), none, some (.inl zk), some (.inl zu), some (.inr (.inl zi)), none, some (.inl zn)] (mi_back w []) h4 (sy_Q h0) := by
          intro h3 t1 t2
          refine ⟨_, me_isVoid t1 r0 (by omega), fun w h4 ow hq => ?_⟩
          obtain ⟨e, z, rfl, z0, z1⟩ := hq
          subst e
          have hF3 : ab_Fr sy_V h0 h4 := (hF1.trans (s2.wide (fun c hc => ab_swr_ok (by decide) hc))).trans (t2.wide (fun c hc => ab_swr_ok (by decide) hc))
          have f145 : ∀ k, mi_a h4 145 k = mi_a h 145 k := fun k => ((me_a (k := 145) t2 s1 rfl rfl).trans (me_a (k := 145) s2 g1 rfl rfl)).trans (e145 k)
          have fin : ∀ (zg : Int64), me_E (d + 1) 200 12 [some (.inr (.inr 109)), some (.inl za), some (.inr (.inl zx)), none, some (.inr (.inl zg)), none, some (.inl (zk + -1)), some (.inl zu), some (.inr (.inl zi)), none, some (.inl zn)] [] h4 (sy_Q h0) := fun zg => ih (zk + -1) zg _ _ _ _ h4 (by omega) (by omega) (by omega) t1 hF3 (fun k hk => by rw [f145]; exact hr k (by omega)) (me_oi ou) (fun v e => by cases e; trivial) me_on (me_oi on)
          refine mt_beG t1 oa ok ou on ⟨by omega, by omega⟩ ?_ ?_
          · intro c
            refine ⟨by omega, fun h5 x1 x2 => ?_⟩
            have e := me_nil x2
            subst e
            exact fin _
          · intro c
            refine ⟨by omega, fun h5 x1 x2 => ?_⟩
            have e := me_nil x2
            subst e
            exact fin _
        refine mt_beF s1 oa ok ou on ?_ ?_
        · intro c h3 t1 t2
          exact last h3 t1 (t2.wide (fun c hc => by cases hc))
        · intro c
          exact ⟨by omega, fun h3 t1 t2 t3 => last h3 t1 t3⟩
      have g120 : ∀ (zn : Int), mi_in zn → zn < 80 → me_E (d + 1) 200 120 [some (.inr (.inr 109)), some (.inl za), some (.inr (.inl zx)), none, some (.inr (.inl zg)), none, some (.inl zk), some (.inl zu), some (.inr (.inl zi)), none, some (.inl zn)] [] h1 (sy_Q h0) := by
        intro zn on n80
        refine mt_beE g1 oa ok ou on ?_ ?_ ?_ ?_
        · intro b c1 h2 s1 s2 s3
          exact g160 zn h2 on n80 s1 s3
        · intro b c1 c2 h2 s1 s2 s3
          exact g160 zn h2 on n80 s1 s3
        · intro b c1 c2 c3
          exact ⟨by omega, fun h2 s1 s2 s3 => g160 zn h2 on n80 s1 s3⟩
        · intro b c1 c2 c3
          exact ⟨by omega, fun h2 s1 s2 s3 => g160 zn h2 on n80 s1 s3⟩
      refine mt_beD g1 oa ok ou o10 ?_ ?_ ?_
      · intro c1 c2
        refine ⟨by omega, fun h2 s1 s2 => ?_⟩
        have e := me_nil s2
        subst e
        exact g120 _ ⟨by decide, by decide⟩ (by decide)
      · intro c1 c2
        obtain ⟨b1, b2, b3, b4, b5, b6, -⟩ := a6 c2
        refine ⟨by omega, fun h2 s1 s2 => ?_⟩
        have e := me_nil s2
        subst e
        have b6 : mi_a h2 114 (mi_a h2 115 (mi_a h2 120 zu.toNat).toNat).toNat < wk_f Y := b6
        exact g120 _ (mi_inT _) (by omega)
      · intro c1
        obtain ⟨b1, b2, -⟩ := a7 c1
        refine ⟨by omega, fun h2 s1 s2 => ?_⟩
        have e := me_nil s2
        subst e
        exact g120 _ (mi_inT _) (by omega)
    refine mt_beC hS oa ok o7 o8 o9 o10 ?_ ?_ ?_
    · intro c h1 g1 g2
      have e := me_nil g2
      subst e
      exact ⟨rfl, g1, hF⟩
    · intro c1 c2
      have := hr zk.toNat (by omega)
      exact ⟨by omega, fun h1 g1 g2 g3 => go _ h1 c1 g1 g3⟩
    · intro c1 c2
      have := hr zk.toNat (by omega)
      exact ⟨by omega, fun h1 g1 g2 g3 => go _ h1 c1 g1 g3⟩
theorem me_behind {Y : wk_Y} (hL : wk_L (mi_a h0) Y) (hS0 : ab_Sh sx_sk h0) (a0 : 0 ≤ za) (a1 : za < 80) (hu : mi_a h0 126 za.toNat < 0 ∨ mi_a h0 126 za.toNat < wk_u Y) : me_E (d + 1) 200 0 [some (.inr (.inr 109)), some (.inl za), some (.inr (.inl zx)), none, none, none, none, none, none, none, none] [] h0 (sy_Q h0) := by
  have oa : mi_in za := ⟨by omega, by omega⟩
  refine mt_beA hS0 oa ?_
  intro h1 g1 g2
  have e := me_nil g2
  subst e
  refine ⟨_, me_line g1 (wk_L_C hL) a0 a1 hu, fun w h2 ow hq => ?_⟩
  obtain ⟨q1, q2, rfl, q4, q5⟩ := hq
  refine mt_beB q1 oa ⟨by omega, by omega⟩ ?_
  refine ⟨by omega, fun h3 r1 r2 => ?_⟩
  have e := me_nil r2
  subst e
  refine be12 hL g1 oa 70 _ _ _ _ _ _ _ (by omega) (by omega) (by omega) q1 (q2.wide (fun c hc => ab_swr_ok (by decide) hc)) (fun k hk => ?_) me_on me_on me_on me_on
  have hk2 : k < (wk_row (mi_a h1) 61 (mi_a h1 126 za.toNat)).length := by omega
  obtain ⟨x1, x2, x3⟩ := q5 k _ (List.getElem?_eq_getElem hk2)
  rw [x1]
  exact ⟨x2, x3⟩
end BEH
/-! segments: study -/
set_option maxRecDepth 20000 in
theorem mp_stA_0 (h : sm_H) (d : Nat) : mi_path [(194, (4, 0, sb_194))] sx_sk h 2 [] (d + 3, 194, 0, [some (.inr (.inr 109)), none, none, none], [], [], []) = some ((d + 3, 194, 2, [some (.inr (.inr 109)), some (.inl ((0 : Int))), none, none], [], [], []), []) := rfl
theorem mi_tab_stA_0 : ∀ e ∈ ([(194, (4, 0, sb_194))] : mi_T), sc_P e.1 = some e.2 := mi_tb mi_P194 (mi_tb_e)
set_option maxRecDepth 20000 in
theorem ms_stA_0 {h : sm_H} {d : Nat} {Q : Option mi_V → sm_H → Prop} (hS : ab_Sh sx_sk h)  (kon : ∀ h1, me_W [] h h1 → me_E (d + 3) 194 2 [some (.inr (.inr 109)), some (.inl ((0 : Int))), none, none] [] h1 Q) : me_E (d + 3) 194 0 [some (.inr (.inr 109)), none, none, none] [] h Q := me_seg (mp_stA_0 h d ) (mi_tab_stA_0) hS (mi_okL_c (trivial) (mi_okL_n (mi_okL_n (mi_okL_n (mi_okL_e))))) (mi_okS_e) (mi_al_e) (fun h1 W _ hst => kon h1 W)
set_option maxRecDepth 20000 in
theorem mt_stA {h : sm_H} {d : Nat} {Q : Option mi_V → sm_H → Prop} (hS : ab_Sh sx_sk h)  (k0 : (∀ h1, ab_Sh sx_sk h1 → ab_Fr [] h h1 → me_E (d + 3) 194 2 [some (.inr (.inr 109)), some (.inl ((0 : Int))), none, none] [] h1 Q)) : me_E (d + 3) 194 0 [some (.inr (.inr 109)), none, none, none] [] h Q := ms_stA_0 hS (fun h1 W => (k0) h1 W.1 (W.2.2.2.2.2 _ rfl))
set_option maxRecDepth 20000 in
theorem mp_stB_0 (h : sm_H) (d : Nat) (za : Int) (q2 q3 : Option mi_V) : mi_path [(194, (4, 0, sb_194))] sx_sk h 9 [1] (d + 3, 194, 2, [some (.inr (.inr 109)), some (.inl (za)), q2, q3], [], [], []) = some ((d + 3, 194, 74, [some (.inr (.inr 109)), some (.inl ((0 : Int))), q2, q3], [], [.inl (13999, (1 : Int))], []), [(mi_f h 13965) ≤ za, 0 ≤ ((1 : Int)) ∧ ((1 : Int)) ≤ 1, 0 ≤ ((1 : Int)) ∧ ((1 : Int)) ≤ 1]) := rfl
theorem mi_tab_stB_0 : ∀ e ∈ ([(194, (4, 0, sb_194))] : mi_T), sc_P e.1 = some e.2 := mi_tb mi_P194 (mi_tb_e)
set_option maxRecDepth 20000 in
theorem ms_stB_0 {h : sm_H} {d : Nat} {Q : Option mi_V → sm_H → Prop} {za : Int} {q2 q3 : Option mi_V} (hS : ab_Sh sx_sk h) (ok_za : mi_in za) (ok_q2 : ∀ v, q2 = some v → mi_ok v) (ok_q3 : ∀ v, q3 = some v → mi_ok v) (ho : ((mi_f h 13965) ≤ za) ∧ (0 ≤ ((1 : Int)) ∧ ((1 : Int)) ≤ 1) ∧ (0 ≤ ((1 : Int)) ∧ ((1 : Int)) ≤ 1)) (kon : ∀ h1, me_W [.inl (13999, (1 : Int))] h h1 → me_E (d + 3) 194 74 [some (.inr (.inr 109)), some (.inl ((0 : Int))), q2, q3] [] h1 Q) : me_E (d + 3) 194 2 [some (.inr (.inr 109)), some (.inl (za)), q2, q3] [] h Q := me_seg (mp_stB_0 h d za q2 q3) (mi_tab_stB_0) hS (mi_okL_c (trivial) (mi_okL_c (ok_za) (mi_okL_o ok_q2 (mi_okL_o ok_q3 (mi_okL_e))))) (mi_okS_e) (mi_al (ho.1) (mi_al (ho.2.1) (mi_al (ho.2.2) (mi_al_e)))) (fun h1 W _ hst => kon h1 W)
set_option maxRecDepth 20000 in
theorem mp_stB_1 (h : sm_H) (d : Nat) (za : Int) (q2 q3 : Option mi_V) : mi_path [(194, (4, 0, sb_194))] sx_sk h 37 [0, 1] (d + 3, 194, 2, [some (.inr (.inr 109)), some (.inl (za)), q2, q3], [], [], []) = some ((d + 3, 194, 2, [some (.inr (.inr 109)), some (.inl (za + 1)), q2, q3], [], [.inr (.inr (.inr (138, Int.toNat za, Int64.ofNat 0))), .inr (.inr (.inl (144, Int.toNat za, (1000 : Int)))), .inr (.inr (.inl (141, Int.toNat za, (0 : Int)))), .inr (.inr (.inr (136, Int.toNat za, Int64.ofNat 0))), .inr (.inr (.inl (133, Int.toNat za, (0 : Int))))], []), [za < (mi_f h 13965), 0 ≤ za ∧ za < 80, 0 ≤ ((0 : Int)) ∧ ((0 : Int)) ≤ 1, 0 ≤ za ∧ za < 80, 0 ≤ za ∧ za < 80, 0 ≤ za ∧ za < 80, 0 ≤ ((0 : Int)) ∧ ((0 : Int)) < 10, za ≠ (mi_a h 114 (Int.toNat ((0 : Int)))), 0 ≤ za ∧ za < 80, -2147483648 ≤ za + 1 ∧ za + 1 ≤ 2147483647]) := rfl
theorem mi_tab_stB_1 : ∀ e ∈ ([(194, (4, 0, sb_194))] : mi_T), sc_P e.1 = some e.2 := mi_tb mi_P194 (mi_tb_e)
set_option maxRecDepth 20000 in
theorem ms_stB_1 {h : sm_H} {d : Nat} {Q : Option mi_V → sm_H → Prop} {za : Int} {q2 q3 : Option mi_V} (hS : ab_Sh sx_sk h) (ok_za : mi_in za) (ok_q2 : ∀ v, q2 = some v → mi_ok v) (ok_q3 : ∀ v, q3 = some v → mi_ok v) (ho : (za < (mi_f h 13965)) ∧ (0 ≤ za ∧ za < 80) ∧ (0 ≤ ((0 : Int)) ∧ ((0 : Int)) ≤ 1) ∧ (0 ≤ za ∧ za < 80) ∧ (0 ≤ za ∧ za < 80) ∧ (0 ≤ za ∧ za < 80) ∧ (0 ≤ ((0 : Int)) ∧ ((0 : Int)) < 10) ∧ (za ≠ (mi_a h 114 (Int.toNat ((0 : Int))))) ∧ (0 ≤ za ∧ za < 80) ∧ (-2147483648 ≤ za + 1 ∧ za + 1 ≤ 2147483647)) (kon : ∀ h1, me_W [.inr (.inr (.inr (138, Int.toNat za, Int64.ofNat 0))), .inr (.inr (.inl (144, Int.toNat za, (1000 : Int)))), .inr (.inr (.inl (141, Int.toNat za, (0 : Int)))), .inr (.inr (.inr (136, Int.toNat za, Int64.ofNat 0))), .inr (.inr (.inl (133, Int.toNat za, (0 : Int))))] h h1 → me_E (d + 3) 194 2 [some (.inr (.inr 109)), some (.inl (za + 1)), q2, q3] [] h1 Q) : me_E (d + 3) 194 2 [some (.inr (.inr 109)), some (.inl (za)), q2, q3] [] h Q := me_seg (mp_stB_1 h d za q2 q3) (mi_tab_stB_1) hS (mi_okL_c (trivial) (mi_okL_c (ok_za) (mi_okL_o ok_q2 (mi_okL_o ok_q3 (mi_okL_e))))) (mi_okS_e) (mi_al (ho.1) (mi_al (ho.2.1) (mi_al (ho.2.2.1) (mi_al (ho.2.2.2.1) (mi_al (ho.2.2.2.2.1) (mi_al (ho.2.2.2.2.2.1) (mi_al (ho.2.2.2.2.2.2.1) (mi_al (ho.2.2.2.2.2.2.2.1) (mi_al (ho.2.2.2.2.2.2.2.2.1) (mi_al (ho.2.2.2.2.2.2.2.2.2) (mi_al_e))))))))))) (fun h1 W _ hst => kon h1 W)
set_option maxRecDepth 20000 in
theorem mp_stB_2 (h : sm_H) (d : Nat) (za : Int) (q2 q3 : Option mi_V) : mi_path [(194, (4, 0, sb_194))] sx_sk h 38 [0, 0] (d + 3, 194, 2, [some (.inr (.inr 109)), some (.inl (za)), q2, q3], [], [], []) = some ((d + 3, 194, 2, [some (.inr (.inr 109)), some (.inl (za + 1)), q2, q3], [], [.inr (.inr (.inr (138, Int.toNat za, Int64.ofNat 1))), .inr (.inr (.inl (144, Int.toNat za, (1000 : Int)))), .inr (.inr (.inl (141, Int.toNat za, (0 : Int)))), .inr (.inr (.inr (136, Int.toNat za, Int64.ofNat 0))), .inr (.inr (.inl (133, Int.toNat za, (0 : Int))))], []), [za < (mi_f h 13965), 0 ≤ za ∧ za < 80, 0 ≤ ((0 : Int)) ∧ ((0 : Int)) ≤ 1, 0 ≤ za ∧ za < 80, 0 ≤ za ∧ za < 80, 0 ≤ za ∧ za < 80, 0 ≤ ((0 : Int)) ∧ ((0 : Int)) < 10, za = (mi_a h 114 (Int.toNat ((0 : Int)))), 0 ≤ za ∧ za < 80, -2147483648 ≤ za + 1 ∧ za + 1 ≤ 2147483647]) := rfl
theorem mi_tab_stB_2 : ∀ e ∈ ([(194, (4, 0, sb_194))] : mi_T), sc_P e.1 = some e.2 := mi_tb mi_P194 (mi_tb_e)
set_option maxRecDepth 20000 in
theorem ms_stB_2 {h : sm_H} {d : Nat} {Q : Option mi_V → sm_H → Prop} {za : Int} {q2 q3 : Option mi_V} (hS : ab_Sh sx_sk h) (ok_za : mi_in za) (ok_q2 : ∀ v, q2 = some v → mi_ok v) (ok_q3 : ∀ v, q3 = some v → mi_ok v) (ho : (za < (mi_f h 13965)) ∧ (0 ≤ za ∧ za < 80) ∧ (0 ≤ ((0 : Int)) ∧ ((0 : Int)) ≤ 1) ∧ (0 ≤ za ∧ za < 80) ∧ (0 ≤ za ∧ za < 80) ∧ (0 ≤ za ∧ za < 80) ∧ (0 ≤ ((0 : Int)) ∧ ((0 : Int)) < 10) ∧ (za = (mi_a h 114 (Int.toNat ((0 : Int))))) ∧ (0 ≤ za ∧ za < 80) ∧ (-2147483648 ≤ za + 1 ∧ za + 1 ≤ 2147483647)) (kon : ∀ h1, me_W [.inr (.inr (.inr (138, Int.toNat za, Int64.ofNat 1))), .inr (.inr (.inl (144, Int.toNat za, (1000 : Int)))), .inr (.inr (.inl (141, Int.toNat za, (0 : Int)))), .inr (.inr (.inr (136, Int.toNat za, Int64.ofNat 0))), .inr (.inr (.inl (133, Int.toNat za, (0 : Int))))] h h1 → me_E (d + 3) 194 2 [some (.inr (.inr 109)), some (.inl (za + 1)), q2, q3] [] h1 Q) : me_E (d + 3) 194 2 [some (.inr (.inr 109)), some (.inl (za)), q2, q3] [] h Q := me_seg (mp_stB_2 h d za q2 q3) (mi_tab_stB_2) hS (mi_okL_c (trivial) (mi_okL_c (ok_za) (mi_okL_o ok_q2 (mi_okL_o ok_q3 (mi_okL_e))))) (mi_okS_e) (mi_al (ho.1) (mi_al (ho.2.1) (mi_al (ho.2.2.1) (mi_al (ho.2.2.2.1) (mi_al (ho.2.2.2.2.1) (mi_al (ho.2.2.2.2.2.1) (mi_al (ho.2.2.2.2.2.2.1) (mi_al (ho.2.2.2.2.2.2.2.1) (mi_al (ho.2.2.2.2.2.2.2.2.1) (mi_al (ho.2.2.2.2.2.2.2.2.2) (mi_al_e))))))))))) (fun h1 W _ hst => kon h1 W)
set_option maxRecDepth 20000 in
theorem mt_stB {h : sm_H} {d : Nat} {Q : Option mi_V → sm_H → Prop} {za : Int} {q2 q3 : Option mi_V} (hS : ab_Sh sx_sk h) (ok_za : mi_in za) (ok_q2 : ∀ v, q2 = some v → mi_ok v) (ok_q3 : ∀ v, q3 = some v → mi_ok v) (k0 : (0 ≤ mi_f h 13965 ∧ mi_f h 13965 ≤ 80) → ((mi_f h 13965) ≤ za) → (∀ h1, ab_Sh sx_sk h1 → mi_f h1 13999 = (1 : Int) → ab_Fr [(13999, 14000)] h h1 → me_E (d + 3) 194 74 [some (.inr (.inr 109)), some (.inl ((0 : Int))), q2, q3] [] h1 Q)) (k1 : (0 ≤ mi_f h 13965 ∧ mi_f h 13965 ≤ 80) → (za < (mi_f h 13965)) → (za ≠ (mi_a h 114 (Int.toNat ((0 : Int))))) → ((0 ≤ za ∧ za < 80) ∧ (-2147483648 ≤ za + 1 ∧ za + 1 ≤ 2147483647)) ∧ (∀ h1, ab_Sh sx_sk h1 → (∀ i, mi_a h1 133 i = if i = Int.toNat za then (0 : Int) else (mi_a h 133 i)) → (∀ i, mi_a h1 141 i = if i = Int.toNat za then (0 : Int) else (mi_a h 141 i)) → (∀ i, mi_a h1 144 i = if i = Int.toNat za then (1000 : Int) else (mi_a h 144 i)) → (∀ i, mx_b h1 136 i = if i = Int.toNat za then Int64.ofNat 0 else (mx_b h 136 i)) → (∀ i, mx_b h1 138 i = if i = Int.toNat za then Int64.ofNat 0 else (mx_b h 138 i)) → ab_Fr [(17024, 17025), (17408, 17409), (17664, 17665), (18048, 18049), (18432, 18433)] h h1 → me_E (d + 3) 194 2 [some (.inr (.inr 109)), some (.inl (za + 1)), q2, q3] [] h1 Q)) (k2 : (0 ≤ mi_f h 13965 ∧ mi_f h 13965 ≤ 80) → (za < (mi_f h 13965)) → (za = (mi_a h 114 (Int.toNat ((0 : Int))))) → ((0 ≤ za ∧ za < 80) ∧ (-2147483648 ≤ za + 1 ∧ za + 1 ≤ 2147483647)) ∧ (∀ h1, ab_Sh sx_sk h1 → (∀ i, mi_a h1 133 i = if i = Int.toNat za then (0 : Int) else (mi_a h 133 i)) → (∀ i, mi_a h1 141 i = if i = Int.toNat za then (0 : Int) else (mi_a h 141 i)) → (∀ i, mi_a h1 144 i = if i = Int.toNat za then (1000 : Int) else (mi_a h 144 i)) → (∀ i, mx_b h1 136 i = if i = Int.toNat za then Int64.ofNat 0 else (mx_b h 136 i)) → (∀ i, mx_b h1 138 i = if i = Int.toNat za then Int64.ofNat 1 else (mx_b h 138 i)) → ab_Fr [(17024, 17025), (17408, 17409), (17664, 17665), (18048, 18049), (18432, 18433)] h h1 → me_E (d + 3) 194 2 [some (.inr (.inr 109)), some (.inl (za + 1)), q2, q3] [] h1 Q)) : me_E (d + 3) 194 2 [some (.inr (.inr 109)), some (.inl (za)), q2, q3] [] h Q := Or.elim (mi_em .ge (za) ((mi_f h 13965))) (fun c0 => ms_stB_0 hS ok_za ok_q2 ok_q3 ⟨c0, (by decide), (by decide)⟩ (fun h1 W => (k0 (me_fb hS rfl) c0) h1 W.1 (W.2.1 13999) (W.2.2.2.2.2 _ rfl))) (fun c0 => Or.elim (mi_em .ne (za) ((mi_a h 114 (Int.toNat ((0 : Int)))))) (fun c1 => ms_stB_1 hS ok_za ok_q2 ok_q3 ⟨c0, (k1 (me_fb hS rfl) c0 c1).1.1, (by decide), (k1 (me_fb hS rfl) c0 c1).1.1, (k1 (me_fb hS rfl) c0 c1).1.1, (k1 (me_fb hS rfl) c0 c1).1.1, (by decide), c1, (k1 (me_fb hS rfl) c0 c1).1.1, (k1 (me_fb hS rfl) c0 c1).1.2⟩ (fun h1 W => (k1 (me_fb hS rfl) c0 c1).2 h1 W.1 (fun i => W.2.2.1 133 i) (fun i => W.2.2.1 141 i) (fun i => W.2.2.1 144 i) (fun i => W.2.2.2.2.1 136 i) (fun i => W.2.2.2.2.1 138 i) (W.2.2.2.2.2 _ rfl))) (fun c1 => ms_stB_2 hS ok_za ok_q2 ok_q3 ⟨c0, (k2 (me_fb hS rfl) c0 c1).1.1, (by decide), (k2 (me_fb hS rfl) c0 c1).1.1, (k2 (me_fb hS rfl) c0 c1).1.1, (k2 (me_fb hS rfl) c0 c1).1.1, (by decide), c1, (k2 (me_fb hS rfl) c0 c1).1.1, (k2 (me_fb hS rfl) c0 c1).1.2⟩ (fun h1 W => (k2 (me_fb hS rfl) c0 c1).2 h1 W.1 (fun i => W.2.2.1 133 i) (fun i => W.2.2.1 141 i) (fun i => W.2.2.1 144 i) (fun i => W.2.2.2.2.1 136 i) (fun i => W.2.2.2.2.1 138 i) (W.2.2.2.2.2 _ rfl))))
set_option maxRecDepth 20000 in
theorem mp_stC_0 (h : sm_H) (d : Nat) (za : Int) (q2 q3 : Option mi_V) : mi_path [(194, (4, 0, sb_194))] sx_sk h 8 [1] (d + 3, 194, 74, [some (.inr (.inr 109)), some (.inl (za)), q2, q3], [], [], []) = some ((d + 3, 194, 169, [some (.inr (.inr 109)), some (.inl ((0 : Int))), q2, q3], [], [.inl (13999, (1 : Int))], []), [((900 : Int)) ≤ za, 0 ≤ ((1 : Int)) ∧ ((1 : Int)) ≤ 1, 0 ≤ ((1 : Int)) ∧ ((1 : Int)) ≤ 1]) := rfl
theorem mi_tab_stC_0 : ∀ e ∈ ([(194, (4, 0, sb_194))] : mi_T), sc_P e.1 = some e.2 := mi_tb mi_P194 (mi_tb_e)
set_option maxRecDepth 20000 in
theorem ms_stC_0 {h : sm_H} {d : Nat} {Q : Option mi_V → sm_H → Prop} {za : Int} {q2 q3 : Option mi_V} (hS : ab_Sh sx_sk h) (ok_za : mi_in za) (ok_q2 : ∀ v, q2 = some v → mi_ok v) (ok_q3 : ∀ v, q3 = some v → mi_ok v) (ho : (((900 : Int)) ≤ za) ∧ (0 ≤ ((1 : Int)) ∧ ((1 : Int)) ≤ 1) ∧ (0 ≤ ((1 : Int)) ∧ ((1 : Int)) ≤ 1)) (kon : ∀ h1, me_W [.inl (13999, (1 : Int))] h h1 → me_E (d + 3) 194 169 [some (.inr (.inr 109)), some (.inl ((0 : Int))), q2, q3] [] h1 Q) : me_E (d + 3) 194 74 [some (.inr (.inr 109)), some (.inl (za)), q2, q3] [] h Q := me_seg (mp_stC_0 h d za q2 q3) (mi_tab_stC_0) hS (mi_okL_c (trivial) (mi_okL_c (ok_za) (mi_okL_o ok_q2 (mi_okL_o ok_q3 (mi_okL_e))))) (mi_okS_e) (mi_al (ho.1) (mi_al (ho.2.1) (mi_al (ho.2.2) (mi_al_e)))) (fun h1 W _ hst => kon h1 W)
set_option maxRecDepth 20000 in
theorem mp_stC_1 (h : sm_H) (d : Nat) (za : Int) (q2 q3 : Option mi_V) : mi_path [(194, (4, 0, sb_194))] sx_sk h 11 [0, 1] (d + 3, 194, 74, [some (.inr (.inr 109)), some (.inl (za)), q2, q3], [], [], []) = some ((d + 3, 194, 169, [some (.inr (.inr 109)), some (.inl ((0 : Int))), q2, q3], [], [.inl (13999, (1 : Int))], []), [za < ((900 : Int)), (mi_f h 13999) = ((0 : Int)), 0 ≤ ((1 : Int)) ∧ ((1 : Int)) ≤ 1, 0 ≤ ((1 : Int)) ∧ ((1 : Int)) ≤ 1]) := rfl
theorem mi_tab_stC_1 : ∀ e ∈ ([(194, (4, 0, sb_194))] : mi_T), sc_P e.1 = some e.2 := mi_tb mi_P194 (mi_tb_e)
set_option maxRecDepth 20000 in
theorem ms_stC_1 {h : sm_H} {d : Nat} {Q : Option mi_V → sm_H → Prop} {za : Int} {q2 q3 : Option mi_V} (hS : ab_Sh sx_sk h) (ok_za : mi_in za) (ok_q2 : ∀ v, q2 = some v → mi_ok v) (ok_q3 : ∀ v, q3 = some v → mi_ok v) (ho : (za < ((900 : Int))) ∧ ((mi_f h 13999) = ((0 : Int))) ∧ (0 ≤ ((1 : Int)) ∧ ((1 : Int)) ≤ 1) ∧ (0 ≤ ((1 : Int)) ∧ ((1 : Int)) ≤ 1)) (kon : ∀ h1, me_W [.inl (13999, (1 : Int))] h h1 → me_E (d + 3) 194 169 [some (.inr (.inr 109)), some (.inl ((0 : Int))), q2, q3] [] h1 Q) : me_E (d + 3) 194 74 [some (.inr (.inr 109)), some (.inl (za)), q2, q3] [] h Q := me_seg (mp_stC_1 h d za q2 q3) (mi_tab_stC_1) hS (mi_okL_c (trivial) (mi_okL_c (ok_za) (mi_okL_o ok_q2 (mi_okL_o ok_q3 (mi_okL_e))))) (mi_okS_e) (mi_al (ho.1) (mi_al (ho.2.1) (mi_al (ho.2.2.1) (mi_al (ho.2.2.2) (mi_al_e))))) (fun h1 W _ hst => kon h1 W)
set_option maxRecDepth 20000 in
theorem mp_stC_2 (h : sm_H) (d : Nat) (za : Int) (q2 q3 : Option mi_V) : mi_path [(194, (4, 0, sb_194))] sx_sk h 11 [0, 0] (d + 3, 194, 74, [some (.inr (.inr 109)), some (.inl (za)), q2, q3], [], [], []) = some ((d + 3, 194, 95, [some (.inr (.inr 109)), some (.inl (za)), some (.inl ((0 : Int))), q3], [], [.inl (13999, (0 : Int))], []), [za < ((900 : Int)), (mi_f h 13999) ≠ ((0 : Int)), 0 ≤ ((0 : Int)) ∧ ((0 : Int)) ≤ 1, 0 ≤ ((0 : Int)) ∧ ((0 : Int)) ≤ 1]) := rfl
theorem mi_tab_stC_2 : ∀ e ∈ ([(194, (4, 0, sb_194))] : mi_T), sc_P e.1 = some e.2 := mi_tb mi_P194 (mi_tb_e)
set_option maxRecDepth 20000 in
theorem ms_stC_2 {h : sm_H} {d : Nat} {Q : Option mi_V → sm_H → Prop} {za : Int} {q2 q3 : Option mi_V} (hS : ab_Sh sx_sk h) (ok_za : mi_in za) (ok_q2 : ∀ v, q2 = some v → mi_ok v) (ok_q3 : ∀ v, q3 = some v → mi_ok v) (ho : (za < ((900 : Int))) ∧ ((mi_f h 13999) ≠ ((0 : Int))) ∧ (0 ≤ ((0 : Int)) ∧ ((0 : Int)) ≤ 1) ∧ (0 ≤ ((0 : Int)) ∧ ((0 : Int)) ≤ 1)) (kon : ∀ h1, me_W [.inl (13999, (0 : Int))] h h1 → me_E (d + 3) 194 95 [some (.inr (.inr 109)), some (.inl (za)), some (.inl ((0 : Int))), q3] [] h1 Q) : me_E (d + 3) 194 74 [some (.inr (.inr 109)), some (.inl (za)), q2, q3] [] h Q := me_seg (mp_stC_2 h d za q2 q3) (mi_tab_stC_2) hS (mi_okL_c (trivial) (mi_okL_c (ok_za) (mi_okL_o ok_q2 (mi_okL_o ok_q3 (mi_okL_e))))) (mi_okS_e) (mi_al (ho.1) (mi_al (ho.2.1) (mi_al (ho.2.2.1) (mi_al (ho.2.2.2) (mi_al_e))))) (fun h1 W _ hst => kon h1 W)
set_option maxRecDepth 20000 in
theorem mt_stC {h : sm_H} {d : Nat} {Q : Option mi_V → sm_H → Prop} {za : Int} {q2 q3 : Option mi_V} (hS : ab_Sh sx_sk h) (ok_za : mi_in za) (ok_q2 : ∀ v, q2 = some v → mi_ok v) (ok_q3 : ∀ v, q3 = some v → mi_ok v) (k0 : (((900 : Int)) ≤ za) → (∀ h1, ab_Sh sx_sk h1 → mi_f h1 13999 = (1 : Int) → ab_Fr [(13999, 14000)] h h1 → me_E (d + 3) 194 169 [some (.inr (.inr 109)), some (.inl ((0 : Int))), q2, q3] [] h1 Q)) (k1 : (0 ≤ mi_f h 13999 ∧ mi_f h 13999 ≤ 1) → (za < ((900 : Int))) → ((mi_f h 13999) = ((0 : Int))) → (∀ h1, ab_Sh sx_sk h1 → mi_f h1 13999 = (1 : Int) → ab_Fr [(13999, 14000)] h h1 → me_E (d + 3) 194 169 [some (.inr (.inr 109)), some (.inl ((0 : Int))), q2, q3] [] h1 Q)) (k2 : (0 ≤ mi_f h 13999 ∧ mi_f h 13999 ≤ 1) → (za < ((900 : Int))) → ((mi_f h 13999) ≠ ((0 : Int))) → (∀ h1, ab_Sh sx_sk h1 → mi_f h1 13999 = (0 : Int) → ab_Fr [(13999, 14000)] h h1 → me_E (d + 3) 194 95 [some (.inr (.inr 109)), some (.inl (za)), some (.inl ((0 : Int))), q3] [] h1 Q)) : me_E (d + 3) 194 74 [some (.inr (.inr 109)), some (.inl (za)), q2, q3] [] h Q := Or.elim (mi_em .ge (za) (((900 : Int)))) (fun c0 => ms_stC_0 hS ok_za ok_q2 ok_q3 ⟨c0, (by decide), (by decide)⟩ (fun h1 W => (k0 c0) h1 W.1 (W.2.1 13999) (W.2.2.2.2.2 _ rfl))) (fun c0 => Or.elim (mi_em .eq ((mi_f h 13999)) (((0 : Int)))) (fun c1 => ms_stC_1 hS ok_za ok_q2 ok_q3 ⟨c0, c1, (by decide), (by decide)⟩ (fun h1 W => (k1 (me_fb hS rfl) c0 c1) h1 W.1 (W.2.1 13999) (W.2.2.2.2.2 _ rfl))) (fun c1 => ms_stC_2 hS ok_za ok_q2 ok_q3 ⟨c0, c1, (by decide), (by decide)⟩ (fun h1 W => (k2 (me_fb hS rfl) c0 c1) h1 W.1 (W.2.1 13999) (W.2.2.2.2.2 _ rfl))))
set_option maxRecDepth 20000 in
theorem mp_stD_0 (h : sm_H) (d : Nat) (za zb : Int) (q3 : Option mi_V) : mi_path [(194, (4, 0, sb_194))] sx_sk h 6 [1] (d + 3, 194, 95, [some (.inr (.inr 109)), some (.inl (za)), some (.inl (zb)), q3], [], [], []) = some ((d + 3, 194, 116, [some (.inr (.inr 109)), some (.inl (za)), some (.inl ((0 : Int))), q3], [], [], []), [(mi_f h 13963) ≤ zb]) := rfl
theorem mi_tab_stD_0 : ∀ e ∈ ([(194, (4, 0, sb_194))] : mi_T), sc_P e.1 = some e.2 := mi_tb mi_P194 (mi_tb_e)
set_option maxRecDepth 20000 in
theorem ms_stD_0 {h : sm_H} {d : Nat} {Q : Option mi_V → sm_H → Prop} {za zb : Int} {q3 : Option mi_V} (hS : ab_Sh sx_sk h) (ok_za : mi_in za) (ok_zb : mi_in zb) (ok_q3 : ∀ v, q3 = some v → mi_ok v) (ho : ((mi_f h 13963) ≤ zb)) (kon : ∀ h1, me_W [] h h1 → me_E (d + 3) 194 116 [some (.inr (.inr 109)), some (.inl (za)), some (.inl ((0 : Int))), q3] [] h1 Q) : me_E (d + 3) 194 95 [some (.inr (.inr 109)), some (.inl (za)), some (.inl (zb)), q3] [] h Q := me_seg (mp_stD_0 h d za zb q3) (mi_tab_stD_0) hS (mi_okL_c (trivial) (mi_okL_c (ok_za) (mi_okL_c (ok_zb) (mi_okL_o ok_q3 (mi_okL_e))))) (mi_okS_e) (mi_al (ho) (mi_al_e)) (fun h1 W _ hst => kon h1 W)
set_option maxRecDepth 20000 in
theorem mp_stD_1 (h : sm_H) (d : Nat) (za zb : Int) (q3 : Option mi_V) : mi_path [(194, (4, 0, sb_194))] sx_sk h 6 [0] (d + 3, 194, 95, [some (.inr (.inr 109)), some (.inl (za)), some (.inl (zb)), q3], [], [], []) = some ((d + 3, 194, 105, [some (.inr (.inr 109)), some (.inl (za)), some (.inl (zb)), q3], [.inl (zb), .inr (.inr 109)], [], []), [zb < (mi_f h 13963)]) := rfl
theorem mi_tab_stD_1 : ∀ e ∈ ([(194, (4, 0, sb_194))] : mi_T), sc_P e.1 = some e.2 := mi_tb mi_P194 (mi_tb_e)
set_option maxRecDepth 20000 in
theorem ms_stD_1 {h : sm_H} {d : Nat} {Q : Option mi_V → sm_H → Prop} {za zb : Int} {q3 : Option mi_V} (hS : ab_Sh sx_sk h) (ok_za : mi_in za) (ok_zb : mi_in zb) (ok_q3 : ∀ v, q3 = some v → mi_ok v) (ho : (zb < (mi_f h 13963))) (kon : ∀ h1, me_W [] h h1 → ∃ Q1, me_E (d + 2) 195 0 (mi_entry 4 [.inr (.inr 109), .inl (zb)]) [] h1 Q1 ∧ ∀ w h2, (∀ x, w = some x → mi_ok x) → Q1 w h2 → me_E (d + 3) 194 108 [some (.inr (.inr 109)), some (.inl (za)), some (.inl (zb)), q3] (mi_back w []) h2 Q) : me_E (d + 3) 194 95 [some (.inr (.inr 109)), some (.inl (za)), some (.inl (zb)), q3] [] h Q := me_seg (mp_stD_1 h d za zb q3) (mi_tab_stD_1) hS (mi_okL_c (trivial) (mi_okL_c (ok_za) (mi_okL_c (ok_zb) (mi_okL_o ok_q3 (mi_okL_e))))) (mi_okS_e) (mi_al (ho) (mi_al_e)) (fun h1 W _ hst => let ⟨_, k1, k2⟩ := kon h1 W; me_call (M := (4, 0, sb_194)) (M' := (4, 0, sb_195)) rfl rfl rfl rfl (Nat.le_of_ble_eq_true rfl) (Nat.le_of_ble_eq_true rfl) W.1 k1 k2)
set_option maxRecDepth 20000 in
theorem mt_stD {h : sm_H} {d : Nat} {Q : Option mi_V → sm_H → Prop} {za zb : Int} {q3 : Option mi_V} (hS : ab_Sh sx_sk h) (ok_za : mi_in za) (ok_zb : mi_in zb) (ok_q3 : ∀ v, q3 = some v → mi_ok v) (k0 : (0 ≤ mi_f h 13963 ∧ mi_f h 13963 ≤ 60) → ((mi_f h 13963) ≤ zb) → (∀ h1, ab_Sh sx_sk h1 → ab_Fr [] h h1 → me_E (d + 3) 194 116 [some (.inr (.inr 109)), some (.inl (za)), some (.inl ((0 : Int))), q3] [] h1 Q)) (k1 : (0 ≤ mi_f h 13963 ∧ mi_f h 13963 ≤ 60) → (zb < (mi_f h 13963)) → (∀ h1, ab_Sh sx_sk h1 → ab_Fr [] h h1 → ∃ Q1, me_E (d + 2) 195 0 (mi_entry 4 [.inr (.inr 109), .inl (zb)]) [] h1 Q1 ∧ ∀ w h2, (∀ x, w = some x → mi_ok x) → Q1 w h2 → me_E (d + 3) 194 108 [some (.inr (.inr 109)), some (.inl (za)), some (.inl (zb)), q3] (mi_back w []) h2 Q)) : me_E (d + 3) 194 95 [some (.inr (.inr 109)), some (.inl (za)), some (.inl (zb)), q3] [] h Q := Or.elim (mi_em .ge (zb) ((mi_f h 13963))) (fun c0 => ms_stD_0 hS ok_za ok_zb ok_q3 (c0) (fun h1 W => (k0 (me_fb hS rfl) c0) h1 W.1 (W.2.2.2.2.2 _ rfl))) (fun c0 => ms_stD_1 hS ok_za ok_zb ok_q3 (c0) (fun h1 W => (k1 (me_fb hS rfl) c0) h1 W.1 (W.2.2.2.2.2 _ rfl)))
set_option maxRecDepth 20000 in
theorem mp_stE_0 (h : sm_H) (d : Nat) (za zb : Int) (q3 : Option mi_V) : mi_path [(194, (4, 0, sb_194))] sx_sk h 2 [] (d + 3, 194, 108, [some (.inr (.inr 109)), some (.inl (za)), some (.inl (zb)), q3], [], [], []) = some ((d + 3, 194, 95, [some (.inr (.inr 109)), some (.inl (za)), some (.inl (zb + 1)), q3], [], [], []), [-2147483648 ≤ zb + 1 ∧ zb + 1 ≤ 2147483647]) := rfl
theorem mi_tab_stE_0 : ∀ e ∈ ([(194, (4, 0, sb_194))] : mi_T), sc_P e.1 = some e.2 := mi_tb mi_P194 (mi_tb_e)
set_option maxRecDepth 20000 in
theorem ms_stE_0 {h : sm_H} {d : Nat} {Q : Option mi_V → sm_H → Prop} {za zb : Int} {q3 : Option mi_V} (hS : ab_Sh sx_sk h) (ok_za : mi_in za) (ok_zb : mi_in zb) (ok_q3 : ∀ v, q3 = some v → mi_ok v) (ho : (-2147483648 ≤ zb + 1 ∧ zb + 1 ≤ 2147483647)) (kon : ∀ h1, me_W [] h h1 → me_E (d + 3) 194 95 [some (.inr (.inr 109)), some (.inl (za)), some (.inl (zb + 1)), q3] [] h1 Q) : me_E (d + 3) 194 108 [some (.inr (.inr 109)), some (.inl (za)), some (.inl (zb)), q3] [] h Q := me_seg (mp_stE_0 h d za zb q3) (mi_tab_stE_0) hS (mi_okL_c (trivial) (mi_okL_c (ok_za) (mi_okL_c (ok_zb) (mi_okL_o ok_q3 (mi_okL_e))))) (mi_okS_e) (mi_al (ho) (mi_al_e)) (fun h1 W _ hst => kon h1 W)
set_option maxRecDepth 20000 in
theorem mt_stE {h : sm_H} {d : Nat} {Q : Option mi_V → sm_H → Prop} {za zb : Int} {q3 : Option mi_V} (hS : ab_Sh sx_sk h) (ok_za : mi_in za) (ok_zb : mi_in zb) (ok_q3 : ∀ v, q3 = some v → mi_ok v) (k0 : ((-2147483648 ≤ zb + 1 ∧ zb + 1 ≤ 2147483647)) ∧ (∀ h1, ab_Sh sx_sk h1 → ab_Fr [] h h1 → me_E (d + 3) 194 95 [some (.inr (.inr 109)), some (.inl (za)), some (.inl (zb + 1)), q3] [] h1 Q)) : me_E (d + 3) 194 108 [some (.inr (.inr 109)), some (.inl (za)), some (.inl (zb)), q3] [] h Q := ms_stE_0 hS ok_za ok_zb ok_q3 ((k0).1) (fun h1 W => (k0).2 h1 W.1 (W.2.2.2.2.2 _ rfl))
set_option maxRecDepth 20000 in
theorem mp_stF_0 (h : sm_H) (d : Nat) (za zb : Int) (q3 : Option mi_V) : mi_path [(194, (4, 0, sb_194))] sx_sk h 6 [1] (d + 3, 194, 116, [some (.inr (.inr 109)), some (.inl (za)), some (.inl (zb)), q3], [], [], []) = some ((d + 3, 194, 137, [some (.inr (.inr 109)), some (.inl (za)), some (.inl ((0 : Int))), q3], [], [], []), [(mi_f h 13964) ≤ zb]) := rfl
theorem mi_tab_stF_0 : ∀ e ∈ ([(194, (4, 0, sb_194))] : mi_T), sc_P e.1 = some e.2 := mi_tb mi_P194 (mi_tb_e)
set_option maxRecDepth 20000 in
theorem ms_stF_0 {h : sm_H} {d : Nat} {Q : Option mi_V → sm_H → Prop} {za zb : Int} {q3 : Option mi_V} (hS : ab_Sh sx_sk h) (ok_za : mi_in za) (ok_zb : mi_in zb) (ok_q3 : ∀ v, q3 = some v → mi_ok v) (ho : ((mi_f h 13964) ≤ zb)) (kon : ∀ h1, me_W [] h h1 → me_E (d + 3) 194 137 [some (.inr (.inr 109)), some (.inl (za)), some (.inl ((0 : Int))), q3] [] h1 Q) : me_E (d + 3) 194 116 [some (.inr (.inr 109)), some (.inl (za)), some (.inl (zb)), q3] [] h Q := me_seg (mp_stF_0 h d za zb q3) (mi_tab_stF_0) hS (mi_okL_c (trivial) (mi_okL_c (ok_za) (mi_okL_c (ok_zb) (mi_okL_o ok_q3 (mi_okL_e))))) (mi_okS_e) (mi_al (ho) (mi_al_e)) (fun h1 W _ hst => kon h1 W)
set_option maxRecDepth 20000 in
theorem mp_stF_1 (h : sm_H) (d : Nat) (za zb : Int) (q3 : Option mi_V) : mi_path [(194, (4, 0, sb_194))] sx_sk h 6 [0] (d + 3, 194, 116, [some (.inr (.inr 109)), some (.inl (za)), some (.inl (zb)), q3], [], [], []) = some ((d + 3, 194, 126, [some (.inr (.inr 109)), some (.inl (za)), some (.inl (zb)), q3], [.inl (zb), .inr (.inr 109)], [], []), [zb < (mi_f h 13964)]) := rfl
theorem mi_tab_stF_1 : ∀ e ∈ ([(194, (4, 0, sb_194))] : mi_T), sc_P e.1 = some e.2 := mi_tb mi_P194 (mi_tb_e)
set_option maxRecDepth 20000 in
theorem ms_stF_1 {h : sm_H} {d : Nat} {Q : Option mi_V → sm_H → Prop} {za zb : Int} {q3 : Option mi_V} (hS : ab_Sh sx_sk h) (ok_za : mi_in za) (ok_zb : mi_in zb) (ok_q3 : ∀ v, q3 = some v → mi_ok v) (ho : (zb < (mi_f h 13964))) (kon : ∀ h1, me_W [] h h1 → ∃ Q1, me_E (d + 2) 196 0 (mi_entry 11 [.inr (.inr 109), .inl (zb)]) [] h1 Q1 ∧ ∀ w h2, (∀ x, w = some x → mi_ok x) → Q1 w h2 → me_E (d + 3) 194 129 [some (.inr (.inr 109)), some (.inl (za)), some (.inl (zb)), q3] (mi_back w []) h2 Q) : me_E (d + 3) 194 116 [some (.inr (.inr 109)), some (.inl (za)), some (.inl (zb)), q3] [] h Q := me_seg (mp_stF_1 h d za zb q3) (mi_tab_stF_1) hS (mi_okL_c (trivial) (mi_okL_c (ok_za) (mi_okL_c (ok_zb) (mi_okL_o ok_q3 (mi_okL_e))))) (mi_okS_e) (mi_al (ho) (mi_al_e)) (fun h1 W _ hst => let ⟨_, k1, k2⟩ := kon h1 W; me_call (M := (4, 0, sb_194)) (M' := (11, 0, sb_196)) rfl rfl rfl rfl (Nat.le_of_ble_eq_true rfl) (Nat.le_of_ble_eq_true rfl) W.1 k1 k2)
set_option maxRecDepth 20000 in
theorem mt_stF {h : sm_H} {d : Nat} {Q : Option mi_V → sm_H → Prop} {za zb : Int} {q3 : Option mi_V} (hS : ab_Sh sx_sk h) (ok_za : mi_in za) (ok_zb : mi_in zb) (ok_q3 : ∀ v, q3 = some v → mi_ok v) (k0 : (0 ≤ mi_f h 13964 ∧ mi_f h 13964 ≤ 80) → ((mi_f h 13964) ≤ zb) → (∀ h1, ab_Sh sx_sk h1 → ab_Fr [] h h1 → me_E (d + 3) 194 137 [some (.inr (.inr 109)), some (.inl (za)), some (.inl ((0 : Int))), q3] [] h1 Q)) (k1 : (0 ≤ mi_f h 13964 ∧ mi_f h 13964 ≤ 80) → (zb < (mi_f h 13964)) → (∀ h1, ab_Sh sx_sk h1 → ab_Fr [] h h1 → ∃ Q1, me_E (d + 2) 196 0 (mi_entry 11 [.inr (.inr 109), .inl (zb)]) [] h1 Q1 ∧ ∀ w h2, (∀ x, w = some x → mi_ok x) → Q1 w h2 → me_E (d + 3) 194 129 [some (.inr (.inr 109)), some (.inl (za)), some (.inl (zb)), q3] (mi_back w []) h2 Q)) : me_E (d + 3) 194 116 [some (.inr (.inr 109)), some (.inl (za)), some (.inl (zb)), q3] [] h Q := Or.elim (mi_em .ge (zb) ((mi_f h 13964))) (fun c0 => ms_stF_0 hS ok_za ok_zb ok_q3 (c0) (fun h1 W => (k0 (me_fb hS rfl) c0) h1 W.1 (W.2.2.2.2.2 _ rfl))) (fun c0 => ms_stF_1 hS ok_za ok_zb ok_q3 (c0) (fun h1 W => (k1 (me_fb hS rfl) c0) h1 W.1 (W.2.2.2.2.2 _ rfl)))
set_option maxRecDepth 20000 in
theorem mp_stG_0 (h : sm_H) (d : Nat) (za zb : Int) (q3 : Option mi_V) : mi_path [(194, (4, 0, sb_194))] sx_sk h 2 [] (d + 3, 194, 129, [some (.inr (.inr 109)), some (.inl (za)), some (.inl (zb)), q3], [], [], []) = some ((d + 3, 194, 116, [some (.inr (.inr 109)), some (.inl (za)), some (.inl (zb + 1)), q3], [], [], []), [-2147483648 ≤ zb + 1 ∧ zb + 1 ≤ 2147483647]) := rfl
theorem mi_tab_stG_0 : ∀ e ∈ ([(194, (4, 0, sb_194))] : mi_T), sc_P e.1 = some e.2 := mi_tb mi_P194 (mi_tb_e)
set_option maxRecDepth 20000 in
theorem ms_stG_0 {h : sm_H} {d : Nat} {Q : Option mi_V → sm_H → Prop} {za zb : Int} {q3 : Option mi_V} (hS : ab_Sh sx_sk h) (ok_za : mi_in za) (ok_zb : mi_in zb) (ok_q3 : ∀ v, q3 = some v → mi_ok v) (ho : (-2147483648 ≤ zb + 1 ∧ zb + 1 ≤ 2147483647)) (kon : ∀ h1, me_W [] h h1 → me_E (d + 3) 194 116 [some (.inr (.inr 109)), some (.inl (za)), some (.inl (zb + 1)), q3] [] h1 Q) : me_E (d + 3) 194 129 [some (.inr (.inr 109)), some (.inl (za)), some (.inl (zb)), q3] [] h Q := me_seg (mp_stG_0 h d za zb q3) (mi_tab_stG_0) hS (mi_okL_c (trivial) (mi_okL_c (ok_za) (mi_okL_c (ok_zb) (mi_okL_o ok_q3 (mi_okL_e))))) (mi_okS_e) (mi_al (ho) (mi_al_e)) (fun h1 W _ hst => kon h1 W)
set_option maxRecDepth 20000 in
theorem mt_stG {h : sm_H} {d : Nat} {Q : Option mi_V → sm_H → Prop} {za zb : Int} {q3 : Option mi_V} (hS : ab_Sh sx_sk h) (ok_za : mi_in za) (ok_zb : mi_in zb) (ok_q3 : ∀ v, q3 = some v → mi_ok v) (k0 : ((-2147483648 ≤ zb + 1 ∧ zb + 1 ≤ 2147483647)) ∧ (∀ h1, ab_Sh sx_sk h1 → ab_Fr [] h h1 → me_E (d + 3) 194 116 [some (.inr (.inr 109)), some (.inl (za)), some (.inl (zb + 1)), q3] [] h1 Q)) : me_E (d + 3) 194 129 [some (.inr (.inr 109)), some (.inl (za)), some (.inl (zb)), q3] [] h Q := ms_stG_0 hS ok_za ok_zb ok_q3 ((k0).1) (fun h1 W => (k0).2 h1 W.1 (W.2.2.2.2.2 _ rfl))
set_option maxRecDepth 20000 in
theorem mp_stH_0 (h : sm_H) (d : Nat) (za zb : Int) (q3 : Option mi_V) : mi_path [(194, (4, 0, sb_194))] sx_sk h 6 [1] (d + 3, 194, 137, [some (.inr (.inr 109)), some (.inl (za)), some (.inl (zb)), q3], [], [], []) = some ((d + 3, 194, 74, [some (.inr (.inr 109)), some (.inl (za + 1)), some (.inl (zb)), q3], [], [], []), [(mi_f h 13965) ≤ zb, -2147483648 ≤ za + 1 ∧ za + 1 ≤ 2147483647]) := rfl
theorem mi_tab_stH_0 : ∀ e ∈ ([(194, (4, 0, sb_194))] : mi_T), sc_P e.1 = some e.2 := mi_tb mi_P194 (mi_tb_e)
set_option maxRecDepth 20000 in
theorem ms_stH_0 {h : sm_H} {d : Nat} {Q : Option mi_V → sm_H → Prop} {za zb : Int} {q3 : Option mi_V} (hS : ab_Sh sx_sk h) (ok_za : mi_in za) (ok_zb : mi_in zb) (ok_q3 : ∀ v, q3 = some v → mi_ok v) (ho : ((mi_f h 13965) ≤ zb) ∧ (-2147483648 ≤ za + 1 ∧ za + 1 ≤ 2147483647)) (kon : ∀ h1, me_W [] h h1 → me_E (d + 3) 194 74 [some (.inr (.inr 109)), some (.inl (za + 1)), some (.inl (zb)), q3] [] h1 Q) : me_E (d + 3) 194 137 [some (.inr (.inr 109)), some (.inl (za)), some (.inl (zb)), q3] [] h Q := me_seg (mp_stH_0 h d za zb q3) (mi_tab_stH_0) hS (mi_okL_c (trivial) (mi_okL_c (ok_za) (mi_okL_c (ok_zb) (mi_okL_o ok_q3 (mi_okL_e))))) (mi_okS_e) (mi_al (ho.1) (mi_al (ho.2) (mi_al_e))) (fun h1 W _ hst => kon h1 W)
set_option maxRecDepth 20000 in
theorem mp_stH_1 (h : sm_H) (d : Nat) (za zb : Int) (q3 : Option mi_V) : mi_path [(194, (4, 0, sb_194))] sx_sk h 6 [0] (d + 3, 194, 137, [some (.inr (.inr 109)), some (.inl (za)), some (.inl (zb)), q3], [], [], []) = some ((d + 3, 194, 147, [some (.inr (.inr 109)), some (.inl (za)), some (.inl (zb)), q3], [.inl (zb), .inr (.inr 109)], [], []), [zb < (mi_f h 13965)]) := rfl
theorem mi_tab_stH_1 : ∀ e ∈ ([(194, (4, 0, sb_194))] : mi_T), sc_P e.1 = some e.2 := mi_tb mi_P194 (mi_tb_e)
set_option maxRecDepth 20000 in
theorem ms_stH_1 {h : sm_H} {d : Nat} {Q : Option mi_V → sm_H → Prop} {za zb : Int} {q3 : Option mi_V} (hS : ab_Sh sx_sk h) (ok_za : mi_in za) (ok_zb : mi_in zb) (ok_q3 : ∀ v, q3 = some v → mi_ok v) (ho : (zb < (mi_f h 13965))) (kon : ∀ h1, me_W [] h h1 → ∃ Q1, me_E (d + 2) 199 0 (mi_entry 8 [.inr (.inr 109), .inl (zb)]) [] h1 Q1 ∧ ∀ w h2, (∀ x, w = some x → mi_ok x) → Q1 w h2 → me_E (d + 3) 194 150 [some (.inr (.inr 109)), some (.inl (za)), some (.inl (zb)), q3] (mi_back w []) h2 Q) : me_E (d + 3) 194 137 [some (.inr (.inr 109)), some (.inl (za)), some (.inl (zb)), q3] [] h Q := me_seg (mp_stH_1 h d za zb q3) (mi_tab_stH_1) hS (mi_okL_c (trivial) (mi_okL_c (ok_za) (mi_okL_c (ok_zb) (mi_okL_o ok_q3 (mi_okL_e))))) (mi_okS_e) (mi_al (ho) (mi_al_e)) (fun h1 W _ hst => let ⟨_, k1, k2⟩ := kon h1 W; me_call (M := (4, 0, sb_194)) (M' := (8, 0, sb_199)) rfl rfl rfl rfl (Nat.le_of_ble_eq_true rfl) (Nat.le_of_ble_eq_true rfl) W.1 k1 k2)
set_option maxRecDepth 20000 in
theorem mt_stH {h : sm_H} {d : Nat} {Q : Option mi_V → sm_H → Prop} {za zb : Int} {q3 : Option mi_V} (hS : ab_Sh sx_sk h) (ok_za : mi_in za) (ok_zb : mi_in zb) (ok_q3 : ∀ v, q3 = some v → mi_ok v) (k0 : (0 ≤ mi_f h 13965 ∧ mi_f h 13965 ≤ 80) → ((mi_f h 13965) ≤ zb) → ((-2147483648 ≤ za + 1 ∧ za + 1 ≤ 2147483647)) ∧ (∀ h1, ab_Sh sx_sk h1 → ab_Fr [] h h1 → me_E (d + 3) 194 74 [some (.inr (.inr 109)), some (.inl (za + 1)), some (.inl (zb)), q3] [] h1 Q)) (k1 : (0 ≤ mi_f h 13965 ∧ mi_f h 13965 ≤ 80) → (zb < (mi_f h 13965)) → (∀ h1, ab_Sh sx_sk h1 → ab_Fr [] h h1 → ∃ Q1, me_E (d + 2) 199 0 (mi_entry 8 [.inr (.inr 109), .inl (zb)]) [] h1 Q1 ∧ ∀ w h2, (∀ x, w = some x → mi_ok x) → Q1 w h2 → me_E (d + 3) 194 150 [some (.inr (.inr 109)), some (.inl (za)), some (.inl (zb)), q3] (mi_back w []) h2 Q)) : me_E (d + 3) 194 137 [some (.inr (.inr 109)), some (.inl (za)), some (.inl (zb)), q3] [] h Q := Or.elim (mi_em .ge (zb) ((mi_f h 13965))) (fun c0 => ms_stH_0 hS ok_za ok_zb ok_q3 ⟨c0, (k0 (me_fb hS rfl) c0).1⟩ (fun h1 W => (k0 (me_fb hS rfl) c0).2 h1 W.1 (W.2.2.2.2.2 _ rfl))) (fun c0 => ms_stH_1 hS ok_za ok_zb ok_q3 (c0) (fun h1 W => (k1 (me_fb hS rfl) c0) h1 W.1 (W.2.2.2.2.2 _ rfl)))
set_option maxRecDepth 20000 in
theorem mp_stI_0 (h : sm_H) (d : Nat) (za zb : Int) (q3 : Option mi_V) : mi_path [(194, (4, 0, sb_194))] sx_sk h 2 [] (d + 3, 194, 150, [some (.inr (.inr 109)), some (.inl (za)), some (.inl (zb)), q3], [], [], []) = some ((d + 3, 194, 137, [some (.inr (.inr 109)), some (.inl (za)), some (.inl (zb + 1)), q3], [], [], []), [-2147483648 ≤ zb + 1 ∧ zb + 1 ≤ 2147483647]) := rfl
theorem mi_tab_stI_0 : ∀ e ∈ ([(194, (4, 0, sb_194))] : mi_T), sc_P e.1 = some e.2 := mi_tb mi_P194 (mi_tb_e)
set_option maxRecDepth 20000 in
theorem ms_stI_0 {h : sm_H} {d : Nat} {Q : Option mi_V → sm_H → Prop} {za zb : Int} {q3 : Option mi_V} (hS : ab_Sh sx_sk h) (ok_za : mi_in za) (ok_zb : mi_in zb) (ok_q3 : ∀ v, q3 = some v → mi_ok v) (ho : (-2147483648 ≤ zb + 1 ∧ zb + 1 ≤ 2147483647)) (kon : ∀ h1, me_W [] h h1 → me_E (d + 3) 194 137 [some (.inr (.inr 109)), some (.inl (za)), some (.inl (zb + 1)), q3] [] h1 Q) : me_E (d + 3) 194 150 [some (.inr (.inr 109)), some (.inl (za)), some (.inl (zb)), q3] [] h Q := me_seg (mp_stI_0 h d za zb q3) (mi_tab_stI_0) hS (mi_okL_c (trivial) (mi_okL_c (ok_za) (mi_okL_c (ok_zb) (mi_okL_o ok_q3 (mi_okL_e))))) (mi_okS_e) (mi_al (ho) (mi_al_e)) (fun h1 W _ hst => kon h1 W)
set_option maxRecDepth 20000 in
theorem mt_stI {h : sm_H} {d : Nat} {Q : Option mi_V → sm_H → Prop} {za zb : Int} {q3 : Option mi_V} (hS : ab_Sh sx_sk h) (ok_za : mi_in za) (ok_zb : mi_in zb) (ok_q3 : ∀ v, q3 = some v → mi_ok v) (k0 : ((-2147483648 ≤ zb + 1 ∧ zb + 1 ≤ 2147483647)) ∧ (∀ h1, ab_Sh sx_sk h1 → ab_Fr [] h h1 → me_E (d + 3) 194 137 [some (.inr (.inr 109)), some (.inl (za)), some (.inl (zb + 1)), q3] [] h1 Q)) : me_E (d + 3) 194 150 [some (.inr (.inr 109)), some (.inl (za)), some (.inl (zb)), q3] [] h Q := ms_stI_0 hS ok_za ok_zb ok_q3 ((k0).1) (fun h1 W => (k0).2 h1 W.1 (W.2.2.2.2.2 _ rfl))
set_option maxRecDepth 20000 in
theorem mp_stJ_0 (h : sm_H) (d : Nat) (za : Int) (q2 q3 : Option mi_V) : mi_path [(194, (4, 0, sb_194))] sx_sk h 5 [1] (d + 3, 194, 169, [some (.inr (.inr 109)), some (.inl (za)), q2, q3], [], [], []) = some ((d + 3, 194, 244, [some (.inr (.inr 109)), some (.inl ((0 : Int))), q2, q3], [], [], []), [((900 : Int)) ≤ za]) := rfl
theorem mi_tab_stJ_0 : ∀ e ∈ ([(194, (4, 0, sb_194))] : mi_T), sc_P e.1 = some e.2 := mi_tb mi_P194 (mi_tb_e)
set_option maxRecDepth 20000 in
theorem ms_stJ_0 {h : sm_H} {d : Nat} {Q : Option mi_V → sm_H → Prop} {za : Int} {q2 q3 : Option mi_V} (hS : ab_Sh sx_sk h) (ok_za : mi_in za) (ok_q2 : ∀ v, q2 = some v → mi_ok v) (ok_q3 : ∀ v, q3 = some v → mi_ok v) (ho : (((900 : Int)) ≤ za)) (kon : ∀ h1, me_W [] h h1 → me_E (d + 3) 194 244 [some (.inr (.inr 109)), some (.inl ((0 : Int))), q2, q3] [] h1 Q) : me_E (d + 3) 194 169 [some (.inr (.inr 109)), some (.inl (za)), q2, q3] [] h Q := me_seg (mp_stJ_0 h d za q2 q3) (mi_tab_stJ_0) hS (mi_okL_c (trivial) (mi_okL_c (ok_za) (mi_okL_o ok_q2 (mi_okL_o ok_q3 (mi_okL_e))))) (mi_okS_e) (mi_al (ho) (mi_al_e)) (fun h1 W _ hst => kon h1 W)
set_option maxRecDepth 20000 in
theorem mp_stJ_1 (h : sm_H) (d : Nat) (za : Int) (q2 q3 : Option mi_V) : mi_path [(194, (4, 0, sb_194))] sx_sk h 8 [0, 1] (d + 3, 194, 169, [some (.inr (.inr 109)), some (.inl (za)), q2, q3], [], [], []) = some ((d + 3, 194, 244, [some (.inr (.inr 109)), some (.inl ((0 : Int))), q2, q3], [], [], []), [za < ((900 : Int)), (mi_f h 13999) = ((0 : Int))]) := rfl
theorem mi_tab_stJ_1 : ∀ e ∈ ([(194, (4, 0, sb_194))] : mi_T), sc_P e.1 = some e.2 := mi_tb mi_P194 (mi_tb_e)
set_option maxRecDepth 20000 in
theorem ms_stJ_1 {h : sm_H} {d : Nat} {Q : Option mi_V → sm_H → Prop} {za : Int} {q2 q3 : Option mi_V} (hS : ab_Sh sx_sk h) (ok_za : mi_in za) (ok_q2 : ∀ v, q2 = some v → mi_ok v) (ok_q3 : ∀ v, q3 = some v → mi_ok v) (ho : (za < ((900 : Int))) ∧ ((mi_f h 13999) = ((0 : Int)))) (kon : ∀ h1, me_W [] h h1 → me_E (d + 3) 194 244 [some (.inr (.inr 109)), some (.inl ((0 : Int))), q2, q3] [] h1 Q) : me_E (d + 3) 194 169 [some (.inr (.inr 109)), some (.inl (za)), q2, q3] [] h Q := me_seg (mp_stJ_1 h d za q2 q3) (mi_tab_stJ_1) hS (mi_okL_c (trivial) (mi_okL_c (ok_za) (mi_okL_o ok_q2 (mi_okL_o ok_q3 (mi_okL_e))))) (mi_okS_e) (mi_al (ho.1) (mi_al (ho.2) (mi_al_e))) (fun h1 W _ hst => kon h1 W)
set_option maxRecDepth 20000 in
theorem mp_stJ_2 (h : sm_H) (d : Nat) (za : Int) (q2 q3 : Option mi_V) : mi_path [(194, (4, 0, sb_194))] sx_sk h 11 [0, 0] (d + 3, 194, 169, [some (.inr (.inr 109)), some (.inl (za)), q2, q3], [], [], []) = some ((d + 3, 194, 190, [some (.inr (.inr 109)), some (.inl (za)), some (.inl ((0 : Int))), q3], [], [.inl (13999, (0 : Int))], []), [za < ((900 : Int)), (mi_f h 13999) ≠ ((0 : Int)), 0 ≤ ((0 : Int)) ∧ ((0 : Int)) ≤ 1, 0 ≤ ((0 : Int)) ∧ ((0 : Int)) ≤ 1]) := rfl
theorem mi_tab_stJ_2 : ∀ e ∈ ([(194, (4, 0, sb_194))] : mi_T), sc_P e.1 = some e.2 := mi_tb mi_P194 (mi_tb_e)
set_option maxRecDepth 20000 in
theorem ms_stJ_2 {h : sm_H} {d : Nat} {Q : Option mi_V → sm_H → Prop} {za : Int} {q2 q3 : Option mi_V} (hS : ab_Sh sx_sk h) (ok_za : mi_in za) (ok_q2 : ∀ v, q2 = some v → mi_ok v) (ok_q3 : ∀ v, q3 = some v → mi_ok v) (ho : (za < ((900 : Int))) ∧ ((mi_f h 13999) ≠ ((0 : Int))) ∧ (0 ≤ ((0 : Int)) ∧ ((0 : Int)) ≤ 1) ∧ (0 ≤ ((0 : Int)) ∧ ((0 : Int)) ≤ 1)) (kon : ∀ h1, me_W [.inl (13999, (0 : Int))] h h1 → me_E (d + 3) 194 190 [some (.inr (.inr 109)), some (.inl (za)), some (.inl ((0 : Int))), q3] [] h1 Q) : me_E (d + 3) 194 169 [some (.inr (.inr 109)), some (.inl (za)), q2, q3] [] h Q := me_seg (mp_stJ_2 h d za q2 q3) (mi_tab_stJ_2) hS (mi_okL_c (trivial) (mi_okL_c (ok_za) (mi_okL_o ok_q2 (mi_okL_o ok_q3 (mi_okL_e))))) (mi_okS_e) (mi_al (ho.1) (mi_al (ho.2.1) (mi_al (ho.2.2.1) (mi_al (ho.2.2.2) (mi_al_e))))) (fun h1 W _ hst => kon h1 W)
set_option maxRecDepth 20000 in
theorem mt_stJ {h : sm_H} {d : Nat} {Q : Option mi_V → sm_H → Prop} {za : Int} {q2 q3 : Option mi_V} (hS : ab_Sh sx_sk h) (ok_za : mi_in za) (ok_q2 : ∀ v, q2 = some v → mi_ok v) (ok_q3 : ∀ v, q3 = some v → mi_ok v) (k0 : (((900 : Int)) ≤ za) → (∀ h1, ab_Sh sx_sk h1 → ab_Fr [] h h1 → me_E (d + 3) 194 244 [some (.inr (.inr 109)), some (.inl ((0 : Int))), q2, q3] [] h1 Q)) (k1 : (0 ≤ mi_f h 13999 ∧ mi_f h 13999 ≤ 1) → (za < ((900 : Int))) → ((mi_f h 13999) = ((0 : Int))) → (∀ h1, ab_Sh sx_sk h1 → ab_Fr [] h h1 → me_E (d + 3) 194 244 [some (.inr (.inr 109)), some (.inl ((0 : Int))), q2, q3] [] h1 Q)) (k2 : (0 ≤ mi_f h 13999 ∧ mi_f h 13999 ≤ 1) → (za < ((900 : Int))) → ((mi_f h 13999) ≠ ((0 : Int))) → (∀ h1, ab_Sh sx_sk h1 → mi_f h1 13999 = (0 : Int) → ab_Fr [(13999, 14000)] h h1 → me_E (d + 3) 194 190 [some (.inr (.inr 109)), some (.inl (za)), some (.inl ((0 : Int))), q3] [] h1 Q)) : me_E (d + 3) 194 169 [some (.inr (.inr 109)), some (.inl (za)), q2, q3] [] h Q := Or.elim (mi_em .ge (za) (((900 : Int)))) (fun c0 => ms_stJ_0 hS ok_za ok_q2 ok_q3 (c0) (fun h1 W => (k0 c0) h1 W.1 (W.2.2.2.2.2 _ rfl))) (fun c0 => Or.elim (mi_em .eq ((mi_f h 13999)) (((0 : Int)))) (fun c1 => ms_stJ_1 hS ok_za ok_q2 ok_q3 ⟨c0, c1⟩ (fun h1 W => (k1 (me_fb hS rfl) c0 c1) h1 W.1 (W.2.2.2.2.2 _ rfl))) (fun c1 => ms_stJ_2 hS ok_za ok_q2 ok_q3 ⟨c0, c1, (by decide), (by decide)⟩ (fun h1 W => (k2 (me_fb hS rfl) c0 c1) h1 W.1 (W.2.1 13999) (W.2.2.2.2.2 _ rfl))))
set_option maxRecDepth 20000 in
theorem mp_stK_0 (h : sm_H) (d : Nat) (za zb : Int) (q3 : Option mi_V) : mi_path [(194, (4, 0, sb_194))] sx_sk h 6 [1] (d + 3, 194, 190, [some (.inr (.inr 109)), some (.inl (za)), some (.inl (zb)), q3], [], [], []) = some ((d + 3, 194, 169, [some (.inr (.inr 109)), some (.inl (za + 1)), some (.inl (zb)), q3], [], [], []), [(mi_f h 13965) ≤ zb, -2147483648 ≤ za + 1 ∧ za + 1 ≤ 2147483647]) := rfl
theorem mi_tab_stK_0 : ∀ e ∈ ([(194, (4, 0, sb_194))] : mi_T), sc_P e.1 = some e.2 := mi_tb mi_P194 (mi_tb_e)
set_option maxRecDepth 20000 in
theorem ms_stK_0 {h : sm_H} {d : Nat} {Q : Option mi_V → sm_H → Prop} {za zb : Int} {q3 : Option mi_V} (hS : ab_Sh sx_sk h) (ok_za : mi_in za) (ok_zb : mi_in zb) (ok_q3 : ∀ v, q3 = some v → mi_ok v) (ho : ((mi_f h 13965) ≤ zb) ∧ (-2147483648 ≤ za + 1 ∧ za + 1 ≤ 2147483647)) (kon : ∀ h1, me_W [] h h1 → me_E (d + 3) 194 169 [some (.inr (.inr 109)), some (.inl (za + 1)), some (.inl (zb)), q3] [] h1 Q) : me_E (d + 3) 194 190 [some (.inr (.inr 109)), some (.inl (za)), some (.inl (zb)), q3] [] h Q := me_seg (mp_stK_0 h d za zb q3) (mi_tab_stK_0) hS (mi_okL_c (trivial) (mi_okL_c (ok_za) (mi_okL_c (ok_zb) (mi_okL_o ok_q3 (mi_okL_e))))) (mi_okS_e) (mi_al (ho.1) (mi_al (ho.2) (mi_al_e))) (fun h1 W _ hst => kon h1 W)
set_option maxRecDepth 20000 in
theorem mp_stK_1 (h : sm_H) (d : Nat) (za zb : Int) (q3 : Option mi_V) : mi_path [(194, (4, 0, sb_194))] sx_sk h 9 [0] (d + 3, 194, 190, [some (.inr (.inr 109)), some (.inl (za)), some (.inl (zb)), q3], [], [], []) = some ((d + 3, 194, 205, [some (.inr (.inr 109)), some (.inl (za)), some (.inl (zb)), some (.inl (mi_a h 129 (Int.toNat zb)))], [], [], []), [zb < (mi_f h 13965), 0 ≤ zb ∧ zb < 80]) := rfl
theorem mi_tab_stK_1 : ∀ e ∈ ([(194, (4, 0, sb_194))] : mi_T), sc_P e.1 = some e.2 := mi_tb mi_P194 (mi_tb_e)
set_option maxRecDepth 20000 in
theorem ms_stK_1 {h : sm_H} {d : Nat} {Q : Option mi_V → sm_H → Prop} {za zb : Int} {q3 : Option mi_V} (hS : ab_Sh sx_sk h) (ok_za : mi_in za) (ok_zb : mi_in zb) (ok_q3 : ∀ v, q3 = some v → mi_ok v) (ho : (zb < (mi_f h 13965)) ∧ (0 ≤ zb ∧ zb < 80)) (kon : ∀ h1, me_W [] h h1 → me_E (d + 3) 194 205 [some (.inr (.inr 109)), some (.inl (za)), some (.inl (zb)), some (.inl (mi_a h 129 (Int.toNat zb)))] [] h1 Q) : me_E (d + 3) 194 190 [some (.inr (.inr 109)), some (.inl (za)), some (.inl (zb)), q3] [] h Q := me_seg (mp_stK_1 h d za zb q3) (mi_tab_stK_1) hS (mi_okL_c (trivial) (mi_okL_c (ok_za) (mi_okL_c (ok_zb) (mi_okL_o ok_q3 (mi_okL_e))))) (mi_okS_e) (mi_al (ho.1) (mi_al (ho.2) (mi_al_e))) (fun h1 W _ hst => kon h1 W)
set_option maxRecDepth 20000 in
theorem mt_stK {h : sm_H} {d : Nat} {Q : Option mi_V → sm_H → Prop} {za zb : Int} {q3 : Option mi_V} (hS : ab_Sh sx_sk h) (ok_za : mi_in za) (ok_zb : mi_in zb) (ok_q3 : ∀ v, q3 = some v → mi_ok v) (k0 : (0 ≤ mi_f h 13965 ∧ mi_f h 13965 ≤ 80) → ((mi_f h 13965) ≤ zb) → ((-2147483648 ≤ za + 1 ∧ za + 1 ≤ 2147483647)) ∧ (∀ h1, ab_Sh sx_sk h1 → ab_Fr [] h h1 → me_E (d + 3) 194 169 [some (.inr (.inr 109)), some (.inl (za + 1)), some (.inl (zb)), q3] [] h1 Q)) (k1 : (0 ≤ mi_f h 13965 ∧ mi_f h 13965 ≤ 80) → (zb < (mi_f h 13965)) → ((0 ≤ zb ∧ zb < 80)) ∧ (∀ h1, ab_Sh sx_sk h1 → ab_Fr [] h h1 → me_E (d + 3) 194 205 [some (.inr (.inr 109)), some (.inl (za)), some (.inl (zb)), some (.inl (mi_a h 129 (Int.toNat zb)))] [] h1 Q)) : me_E (d + 3) 194 190 [some (.inr (.inr 109)), some (.inl (za)), some (.inl (zb)), q3] [] h Q := Or.elim (mi_em .ge (zb) ((mi_f h 13965))) (fun c0 => ms_stK_0 hS ok_za ok_zb ok_q3 ⟨c0, (k0 (me_fb hS rfl) c0).1⟩ (fun h1 W => (k0 (me_fb hS rfl) c0).2 h1 W.1 (W.2.2.2.2.2 _ rfl))) (fun c0 => ms_stK_1 hS ok_za ok_zb ok_q3 ⟨c0, (k1 (me_fb hS rfl) c0).1⟩ (fun h1 W => (k1 (me_fb hS rfl) c0).2 h1 W.1 (W.2.2.2.2.2 _ rfl)))
set_option maxRecDepth 20000 in
theorem mp_stL_0 (h : sm_H) (d : Nat) (za zb zc : Int) : mi_path [(194, (4, 0, sb_194))] sx_sk h 4 [1] (d + 3, 194, 205, [some (.inr (.inr 109)), some (.inl (za)), some (.inl (zb)), some (.inl (zc))], [], [], []) = some ((d + 3, 194, 190, [some (.inr (.inr 109)), some (.inl (za)), some (.inl (zb + 1)), some (.inl (zc))], [], [], []), [zc < ((0 : Int)), -2147483648 ≤ zb + 1 ∧ zb + 1 ≤ 2147483647]) := rfl
theorem mi_tab_stL_0 : ∀ e ∈ ([(194, (4, 0, sb_194))] : mi_T), sc_P e.1 = some e.2 := mi_tb mi_P194 (mi_tb_e)
set_option maxRecDepth 20000 in
theorem ms_stL_0 {h : sm_H} {d : Nat} {Q : Option mi_V → sm_H → Prop} {za zb zc : Int} (hS : ab_Sh sx_sk h) (ok_za : mi_in za) (ok_zb : mi_in zb) (ok_zc : mi_in zc) (ho : (zc < ((0 : Int))) ∧ (-2147483648 ≤ zb + 1 ∧ zb + 1 ≤ 2147483647)) (kon : ∀ h1, me_W [] h h1 → me_E (d + 3) 194 190 [some (.inr (.inr 109)), some (.inl (za)), some (.inl (zb + 1)), some (.inl (zc))] [] h1 Q) : me_E (d + 3) 194 205 [some (.inr (.inr 109)), some (.inl (za)), some (.inl (zb)), some (.inl (zc))] [] h Q := me_seg (mp_stL_0 h d za zb zc) (mi_tab_stL_0) hS (mi_okL_c (trivial) (mi_okL_c (ok_za) (mi_okL_c (ok_zb) (mi_okL_c (ok_zc) (mi_okL_e))))) (mi_okS_e) (mi_al (ho.1) (mi_al (ho.2) (mi_al_e))) (fun h1 W _ hst => kon h1 W)
set_option maxRecDepth 20000 in
theorem mp_stL_1 (h : sm_H) (d : Nat) (za zb zc : Int) : mi_path [(194, (4, 0, sb_194))] sx_sk h 8 [0] (d + 3, 194, 205, [some (.inr (.inr 109)), some (.inl (za)), some (.inl (zb)), some (.inl (zc))], [], [], []) = some ((d + 3, 194, 217, [some (.inr (.inr 109)), some (.inl (za)), some (.inl (zb)), some (.inl (zc))], [.inr (.inl (mx_b h 138 (Int.toNat zb))), .inl (zc), .inr (.inr 109)], [], []), [((0 : Int)) ≤ zc, 0 ≤ zb ∧ zb < 80]) := rfl
theorem mi_tab_stL_1 : ∀ e ∈ ([(194, (4, 0, sb_194))] : mi_T), sc_P e.1 = some e.2 := mi_tb mi_P194 (mi_tb_e)
set_option maxRecDepth 20000 in
theorem ms_stL_1 {h : sm_H} {d : Nat} {Q : Option mi_V → sm_H → Prop} {za zb zc : Int} (hS : ab_Sh sx_sk h) (ok_za : mi_in za) (ok_zb : mi_in zb) (ok_zc : mi_in zc) (ho : (((0 : Int)) ≤ zc) ∧ (0 ≤ zb ∧ zb < 80)) (kon : ∀ h1, me_W [] h h1 → ∃ Q1, me_E (d + 2) 200 0 (mi_entry 11 [.inr (.inr 109), .inl (zc), .inr (.inl (mx_b h 138 (Int.toNat zb)))]) [] h1 Q1 ∧ ∀ w h2, (∀ x, w = some x → mi_ok x) → Q1 w h2 → me_E (d + 3) 194 220 [some (.inr (.inr 109)), some (.inl (za)), some (.inl (zb)), some (.inl (zc))] (mi_back w []) h2 Q) : me_E (d + 3) 194 205 [some (.inr (.inr 109)), some (.inl (za)), some (.inl (zb)), some (.inl (zc))] [] h Q := me_seg (mp_stL_1 h d za zb zc) (mi_tab_stL_1) hS (mi_okL_c (trivial) (mi_okL_c (ok_za) (mi_okL_c (ok_zb) (mi_okL_c (ok_zc) (mi_okL_e))))) (mi_okS_e) (mi_al (ho.1) (mi_al (ho.2) (mi_al_e))) (fun h1 W _ hst => let ⟨_, k1, k2⟩ := kon h1 W; me_call (M := (4, 0, sb_194)) (M' := (11, 0, sb_200)) rfl rfl rfl rfl (Nat.le_of_ble_eq_true rfl) (Nat.le_of_ble_eq_true rfl) W.1 k1 k2)
set_option maxRecDepth 20000 in
theorem mt_stL {h : sm_H} {d : Nat} {Q : Option mi_V → sm_H → Prop} {za zb zc : Int} (hS : ab_Sh sx_sk h) (ok_za : mi_in za) (ok_zb : mi_in zb) (ok_zc : mi_in zc) (k0 : (zc < ((0 : Int))) → ((-2147483648 ≤ zb + 1 ∧ zb + 1 ≤ 2147483647)) ∧ (∀ h1, ab_Sh sx_sk h1 → ab_Fr [] h h1 → me_E (d + 3) 194 190 [some (.inr (.inr 109)), some (.inl (za)), some (.inl (zb + 1)), some (.inl (zc))] [] h1 Q)) (k1 : (((0 : Int)) ≤ zc) → ((0 ≤ zb ∧ zb < 80)) ∧ (∀ h1, ab_Sh sx_sk h1 → ab_Fr [] h h1 → ∃ Q1, me_E (d + 2) 200 0 (mi_entry 11 [.inr (.inr 109), .inl (zc), .inr (.inl (mx_b h 138 (Int.toNat zb)))]) [] h1 Q1 ∧ ∀ w h2, (∀ x, w = some x → mi_ok x) → Q1 w h2 → me_E (d + 3) 194 220 [some (.inr (.inr 109)), some (.inl (za)), some (.inl (zb)), some (.inl (zc))] (mi_back w []) h2 Q)) : me_E (d + 3) 194 205 [some (.inr (.inr 109)), some (.inl (za)), some (.inl (zb)), some (.inl (zc))] [] h Q := Or.elim (mi_em .lt (zc) (((0 : Int)))) (fun c0 => ms_stL_0 hS ok_za ok_zb ok_zc ⟨c0, (k0 c0).1⟩ (fun h1 W => (k0 c0).2 h1 W.1 (W.2.2.2.2.2 _ rfl))) (fun c0 => ms_stL_1 hS ok_za ok_zb ok_zc ⟨c0, (k1 c0).1⟩ (fun h1 W => (k1 c0).2 h1 W.1 (W.2.2.2.2.2 _ rfl)))
set_option maxRecDepth 20000 in
theorem mp_stM_0 (h : sm_H) (d : Nat) (za zb zc : Int) : mi_path [(194, (4, 0, sb_194))] sx_sk h 6 [] (d + 3, 194, 220, [some (.inr (.inr 109)), some (.inl (za)), some (.inl (zb)), some (.inl (zc))], [], [], []) = some ((d + 3, 194, 205, [some (.inr (.inr 109)), some (.inl (za)), some (.inl (zb)), some (.inl (mi_a h 128 (Int.toNat zc)))], [], [], []), [0 ≤ zc ∧ zc < 80]) := rfl
theorem mi_tab_stM_0 : ∀ e ∈ ([(194, (4, 0, sb_194))] : mi_T), sc_P e.1 = some e.2 := mi_tb mi_P194 (mi_tb_e)
set_option maxRecDepth 20000 in
theorem ms_stM_0 {h : sm_H} {d : Nat} {Q : Option mi_V → sm_H → Prop} {za zb zc : Int} (hS : ab_Sh sx_sk h) (ok_za : mi_in za) (ok_zb : mi_in zb) (ok_zc : mi_in zc) (ho : (0 ≤ zc ∧ zc < 80)) (kon : ∀ h1, me_W [] h h1 → me_E (d + 3) 194 205 [some (.inr (.inr 109)), some (.inl (za)), some (.inl (zb)), some (.inl (mi_a h 128 (Int.toNat zc)))] [] h1 Q) : me_E (d + 3) 194 220 [some (.inr (.inr 109)), some (.inl (za)), some (.inl (zb)), some (.inl (zc))] [] h Q := me_seg (mp_stM_0 h d za zb zc) (mi_tab_stM_0) hS (mi_okL_c (trivial) (mi_okL_c (ok_za) (mi_okL_c (ok_zb) (mi_okL_c (ok_zc) (mi_okL_e))))) (mi_okS_e) (mi_al (ho) (mi_al_e)) (fun h1 W _ hst => kon h1 W)
set_option maxRecDepth 20000 in
theorem mt_stM {h : sm_H} {d : Nat} {Q : Option mi_V → sm_H → Prop} {za zb zc : Int} (hS : ab_Sh sx_sk h) (ok_za : mi_in za) (ok_zb : mi_in zb) (ok_zc : mi_in zc) (k0 : ((0 ≤ zc ∧ zc < 80)) ∧ (∀ h1, ab_Sh sx_sk h1 → ab_Fr [] h h1 → me_E (d + 3) 194 205 [some (.inr (.inr 109)), some (.inl (za)), some (.inl (zb)), some (.inl (mi_a h 128 (Int.toNat zc)))] [] h1 Q)) : me_E (d + 3) 194 220 [some (.inr (.inr 109)), some (.inl (za)), some (.inl (zb)), some (.inl (zc))] [] h Q := ms_stM_0 hS ok_za ok_zb ok_zc ((k0).1) (fun h1 W => (k0).2 h1 W.1 (W.2.2.2.2.2 _ rfl))
set_option maxRecDepth 20000 in
theorem mp_stN_0 (h : sm_H) (d : Nat) (za : Int) (q2 q3 : Option mi_V) : mi_path [(194, (4, 0, sb_194))] sx_sk h 6 [1] (d + 3, 194, 244, [some (.inr (.inr 109)), some (.inl (za)), q2, q3], [], [], []) = some ((d + 3, 194, 277, [some (.inr (.inr 109)), some (.inl ((0 : Int))), q2, q3], [], [], []), [(mi_f h 13961) ≤ za]) := rfl
theorem mi_tab_stN_0 : ∀ e ∈ ([(194, (4, 0, sb_194))] : mi_T), sc_P e.1 = some e.2 := mi_tb mi_P194 (mi_tb_e)
set_option maxRecDepth 20000 in
theorem ms_stN_0 {h : sm_H} {d : Nat} {Q : Option mi_V → sm_H → Prop} {za : Int} {q2 q3 : Option mi_V} (hS : ab_Sh sx_sk h) (ok_za : mi_in za) (ok_q2 : ∀ v, q2 = some v → mi_ok v) (ok_q3 : ∀ v, q3 = some v → mi_ok v) (ho : ((mi_f h 13961) ≤ za)) (kon : ∀ h1, me_W [] h h1 → me_E (d + 3) 194 277 [some (.inr (.inr 109)), some (.inl ((0 : Int))), q2, q3] [] h1 Q) : me_E (d + 3) 194 244 [some (.inr (.inr 109)), some (.inl (za)), q2, q3] [] h Q := me_seg (mp_stN_0 h d za q2 q3) (mi_tab_stN_0) hS (mi_okL_c (trivial) (mi_okL_c (ok_za) (mi_okL_o ok_q2 (mi_okL_o ok_q3 (mi_okL_e))))) (mi_okS_e) (mi_al (ho) (mi_al_e)) (fun h1 W _ hst => kon h1 W)
set_option maxRecDepth 20000 in
theorem mp_stN_1 (h : sm_H) (d : Nat) (za : Int) (q2 q3 : Option mi_V) : mi_path [(194, (4, 0, sb_194))] sx_sk h 17 [0] (d + 3, 194, 244, [some (.inr (.inr 109)), some (.inl (za)), q2, q3], [], [], []) = some ((d + 3, 194, 244, [some (.inr (.inr 109)), some (.inl (za + 1)), q2, q3], [], [.inr (.inr (.inl (116, Int.toNat za, mi_a h 141 (Int.toNat (mi_a h 114 (Int.toNat za))))))], []), [za < (mi_f h 13961), 0 ≤ za ∧ za < 10, 0 ≤ (mi_a h 114 (Int.toNat za)) ∧ (mi_a h 114 (Int.toNat za)) < 80, 0 ≤ za ∧ za < 10, -2147483648 ≤ za + 1 ∧ za + 1 ≤ 2147483647]) := rfl
theorem mi_tab_stN_1 : ∀ e ∈ ([(194, (4, 0, sb_194))] : mi_T), sc_P e.1 = some e.2 := mi_tb mi_P194 (mi_tb_e)
set_option maxRecDepth 20000 in
theorem ms_stN_1 {h : sm_H} {d : Nat} {Q : Option mi_V → sm_H → Prop} {za : Int} {q2 q3 : Option mi_V} (hS : ab_Sh sx_sk h) (ok_za : mi_in za) (ok_q2 : ∀ v, q2 = some v → mi_ok v) (ok_q3 : ∀ v, q3 = some v → mi_ok v) (ho : (za < (mi_f h 13961)) ∧ (0 ≤ za ∧ za < 10) ∧ (0 ≤ (mi_a h 114 (Int.toNat za)) ∧ (mi_a h 114 (Int.toNat za)) < 80) ∧ (0 ≤ za ∧ za < 10) ∧ (-2147483648 ≤ za + 1 ∧ za + 1 ≤ 2147483647)) (kon : ∀ h1, me_W [.inr (.inr (.inl (116, Int.toNat za, mi_a h 141 (Int.toNat (mi_a h 114 (Int.toNat za))))))] h h1 → me_E (d + 3) 194 244 [some (.inr (.inr 109)), some (.inl (za + 1)), q2, q3] [] h1 Q) : me_E (d + 3) 194 244 [some (.inr (.inr 109)), some (.inl (za)), q2, q3] [] h Q := me_seg (mp_stN_1 h d za q2 q3) (mi_tab_stN_1) hS (mi_okL_c (trivial) (mi_okL_c (ok_za) (mi_okL_o ok_q2 (mi_okL_o ok_q3 (mi_okL_e))))) (mi_okS_e) (mi_al (ho.1) (mi_al (ho.2.1) (mi_al (ho.2.2.1) (mi_al (ho.2.2.2.1) (mi_al (ho.2.2.2.2) (mi_al_e)))))) (fun h1 W _ hst => kon h1 W)
set_option maxRecDepth 20000 in
theorem mt_stN {h : sm_H} {d : Nat} {Q : Option mi_V → sm_H → Prop} {za : Int} {q2 q3 : Option mi_V} (hS : ab_Sh sx_sk h) (ok_za : mi_in za) (ok_q2 : ∀ v, q2 = some v → mi_ok v) (ok_q3 : ∀ v, q3 = some v → mi_ok v) (k0 : (0 ≤ mi_f h 13961 ∧ mi_f h 13961 ≤ 10) → ((mi_f h 13961) ≤ za) → (∀ h1, ab_Sh sx_sk h1 → ab_Fr [] h h1 → me_E (d + 3) 194 277 [some (.inr (.inr 109)), some (.inl ((0 : Int))), q2, q3] [] h1 Q)) (k1 : (0 ≤ mi_f h 13961 ∧ mi_f h 13961 ≤ 10) → (za < (mi_f h 13961)) → ((0 ≤ za ∧ za < 10) ∧ (0 ≤ (mi_a h 114 (Int.toNat za)) ∧ (mi_a h 114 (Int.toNat za)) < 80) ∧ (-2147483648 ≤ za + 1 ∧ za + 1 ≤ 2147483647)) ∧ (∀ h1, ab_Sh sx_sk h1 → (∀ i, mi_a h1 116 i = if i = Int.toNat za then mi_a h 141 (Int.toNat (mi_a h 114 (Int.toNat za))) else (mi_a h 116 i)) → ab_Fr [(14848, 14849)] h h1 → me_E (d + 3) 194 244 [some (.inr (.inr 109)), some (.inl (za + 1)), q2, q3] [] h1 Q)) : me_E (d + 3) 194 244 [some (.inr (.inr 109)), some (.inl (za)), q2, q3] [] h Q := Or.elim (mi_em .ge (za) ((mi_f h 13961))) (fun c0 => ms_stN_0 hS ok_za ok_q2 ok_q3 (c0) (fun h1 W => (k0 (me_fb hS rfl) c0) h1 W.1 (W.2.2.2.2.2 _ rfl))) (fun c0 => ms_stN_1 hS ok_za ok_q2 ok_q3 ⟨c0, (k1 (me_fb hS rfl) c0).1.1, (k1 (me_fb hS rfl) c0).1.2.1, (k1 (me_fb hS rfl) c0).1.1, (k1 (me_fb hS rfl) c0).1.2.2⟩ (fun h1 W => (k1 (me_fb hS rfl) c0).2 h1 W.1 (fun i => W.2.2.1 116 i) (W.2.2.2.2.2 _ rfl)))
set_option maxRecDepth 20000 in
theorem mp_stO_0 (h : sm_H) (d : Nat) (za : Int) (q2 q3 : Option mi_V) : mi_path [(194, (4, 0, sb_194))] sx_sk h 4 [1] (d + 3, 194, 277, [some (.inr (.inr 109)), some (.inl (za)), q2, q3], [], [], []) = some ((d + 3, 194, 349, [some (.inr (.inr 109)), some (.inl (za)), q2, q3], [], [], []), [(mi_f h 13961) ≤ za]) := rfl
theorem mi_tab_stO_0 : ∀ e ∈ ([(194, (4, 0, sb_194))] : mi_T), sc_P e.1 = some e.2 := mi_tb mi_P194 (mi_tb_e)
set_option maxRecDepth 20000 in
theorem ms_stO_0 {h : sm_H} {d : Nat} {Q : Option mi_V → sm_H → Prop} {za : Int} {q2 q3 : Option mi_V} (hS : ab_Sh sx_sk h) (ok_za : mi_in za) (ok_q2 : ∀ v, q2 = some v → mi_ok v) (ok_q3 : ∀ v, q3 = some v → mi_ok v) (ho : ((mi_f h 13961) ≤ za)) (kon : ∀ h1, me_W [] h h1 → Q none h1) : me_E (d + 3) 194 277 [some (.inr (.inr 109)), some (.inl (za)), q2, q3] [] h Q := me_seg (mp_stO_0 h d za q2 q3) (mi_tab_stO_0) hS (mi_okL_c (trivial) (mi_okL_c (ok_za) (mi_okL_o ok_q2 (mi_okL_o ok_q3 (mi_okL_e))))) (mi_okS_e) (mi_al (ho) (mi_al_e)) (fun h1 W _ hst => me_ret (M := (4, 0, sb_194)) rfl rfl rfl hst (mi_al_e) (kon h1 W))
set_option maxRecDepth 20000 in
theorem mp_stO_1 (h : sm_H) (d : Nat) (za : Int) (q2 q3 : Option mi_V) : mi_path [(194, (4, 0, sb_194))] sx_sk h 6 [0] (d + 3, 194, 277, [some (.inr (.inr 109)), some (.inl (za)), q2, q3], [], [], []) = some ((d + 3, 194, 287, [some (.inr (.inr 109)), some (.inl (za)), some (.inl ((0 : Int))), q3], [], [], []), [za < (mi_f h 13961)]) := rfl
theorem mi_tab_stO_1 : ∀ e ∈ ([(194, (4, 0, sb_194))] : mi_T), sc_P e.1 = some e.2 := mi_tb mi_P194 (mi_tb_e)
set_option maxRecDepth 20000 in
theorem ms_stO_1 {h : sm_H} {d : Nat} {Q : Option mi_V → sm_H → Prop} {za : Int} {q2 q3 : Option mi_V} (hS : ab_Sh sx_sk h) (ok_za : mi_in za) (ok_q2 : ∀ v, q2 = some v → mi_ok v) (ok_q3 : ∀ v, q3 = some v → mi_ok v) (ho : (za < (mi_f h 13961))) (kon : ∀ h1, me_W [] h h1 → me_E (d + 3) 194 287 [some (.inr (.inr 109)), some (.inl (za)), some (.inl ((0 : Int))), q3] [] h1 Q) : me_E (d + 3) 194 277 [some (.inr (.inr 109)), some (.inl (za)), q2, q3] [] h Q := me_seg (mp_stO_1 h d za q2 q3) (mi_tab_stO_1) hS (mi_okL_c (trivial) (mi_okL_c (ok_za) (mi_okL_o ok_q2 (mi_okL_o ok_q3 (mi_okL_e))))) (mi_okS_e) (mi_al (ho) (mi_al_e)) (fun h1 W _ hst => kon h1 W)
set_option maxRecDepth 20000 in
theorem mt_stO {h : sm_H} {d : Nat} {Q : Option mi_V → sm_H → Prop} {za : Int} {q2 q3 : Option mi_V} (hS : ab_Sh sx_sk h) (ok_za : mi_in za) (ok_q2 : ∀ v, q2 = some v → mi_ok v) (ok_q3 : ∀ v, q3 = some v → mi_ok v) (k0 : (0 ≤ mi_f h 13961 ∧ mi_f h 13961 ≤ 10) → ((mi_f h 13961) ≤ za) → (∀ h1, ab_Sh sx_sk h1 → ab_Fr [] h h1 → Q none h1)) (k1 : (0 ≤ mi_f h 13961 ∧ mi_f h 13961 ≤ 10) → (za < (mi_f h 13961)) → (∀ h1, ab_Sh sx_sk h1 → ab_Fr [] h h1 → me_E (d + 3) 194 287 [some (.inr (.inr 109)), some (.inl (za)), some (.inl ((0 : Int))), q3] [] h1 Q)) : me_E (d + 3) 194 277 [some (.inr (.inr 109)), some (.inl (za)), q2, q3] [] h Q := Or.elim (mi_em .ge (za) ((mi_f h 13961))) (fun c0 => ms_stO_0 hS ok_za ok_q2 ok_q3 (c0) (fun h1 W => (k0 (me_fb hS rfl) c0) h1 W.1 (W.2.2.2.2.2 _ rfl))) (fun c0 => ms_stO_1 hS ok_za ok_q2 ok_q3 (c0) (fun h1 W => (k1 (me_fb hS rfl) c0) h1 W.1 (W.2.2.2.2.2 _ rfl)))
set_option maxRecDepth 20000 in
theorem mp_stP_0 (h : sm_H) (d : Nat) (za zb : Int) (q3 : Option mi_V) : mi_path [(194, (4, 0, sb_194))] sx_sk h 6 [1] (d + 3, 194, 287, [some (.inr (.inr 109)), some (.inl (za)), some (.inl (zb)), q3], [], [], []) = some ((d + 3, 194, 277, [some (.inr (.inr 109)), some (.inl (za + 1)), some (.inl (zb)), q3], [], [], []), [(mi_f h 13961) ≤ zb, -2147483648 ≤ za + 1 ∧ za + 1 ≤ 2147483647]) := rfl
theorem mi_tab_stP_0 : ∀ e ∈ ([(194, (4, 0, sb_194))] : mi_T), sc_P e.1 = some e.2 := mi_tb mi_P194 (mi_tb_e)
set_option maxRecDepth 20000 in
theorem ms_stP_0 {h : sm_H} {d : Nat} {Q : Option mi_V → sm_H → Prop} {za zb : Int} {q3 : Option mi_V} (hS : ab_Sh sx_sk h) (ok_za : mi_in za) (ok_zb : mi_in zb) (ok_q3 : ∀ v, q3 = some v → mi_ok v) (ho : ((mi_f h 13961) ≤ zb) ∧ (-2147483648 ≤ za + 1 ∧ za + 1 ≤ 2147483647)) (kon : ∀ h1, me_W [] h h1 → me_E (d + 3) 194 277 [some (.inr (.inr 109)), some (.inl (za + 1)), some (.inl (zb)), q3] [] h1 Q) : me_E (d + 3) 194 287 [some (.inr (.inr 109)), some (.inl (za)), some (.inl (zb)), q3] [] h Q := me_seg (mp_stP_0 h d za zb q3) (mi_tab_stP_0) hS (mi_okL_c (trivial) (mi_okL_c (ok_za) (mi_okL_c (ok_zb) (mi_okL_o ok_q3 (mi_okL_e))))) (mi_okS_e) (mi_al (ho.1) (mi_al (ho.2) (mi_al_e))) (fun h1 W _ hst => kon h1 W)
set_option maxRecDepth 20000 in
theorem mp_stP_1 (h : sm_H) (d : Nat) (za zb : Int) (q3 : Option mi_V) : mi_path [(194, (4, 0, sb_194))] sx_sk h 24 [0, 1] (d + 3, 194, 287, [some (.inr (.inr 109)), some (.inl (za)), some (.inl (zb)), q3], [], [], []) = some ((d + 3, 194, 287, [some (.inr (.inr 109)), some (.inl (za)), some (.inl (zb + 1)), q3], [], [.inr (.inr (.inl (116, Int.toNat zb, mi_a h 116 (Int.toNat zb))))], []), [zb < (mi_f h 13961), 0 ≤ zb ∧ zb < 10, ((Int32.ofInt ((Int32.ofInt (mi_a h 116 (Int.toNat zb)) >>> (Int32.ofInt za &&& 31)).toInt) &&& Int32.ofInt ((1 : Int))).toInt) ≠ ((1 : Int)), 0 ≤ zb ∧ zb < 10, 0 ≤ zb ∧ zb < 10, -2147483648 ≤ zb + 1 ∧ zb + 1 ≤ 2147483647]) := rfl
theorem mi_tab_stP_1 : ∀ e ∈ ([(194, (4, 0, sb_194))] : mi_T), sc_P e.1 = some e.2 := mi_tb mi_P194 (mi_tb_e)
set_option maxRecDepth 20000 in
theorem ms_stP_1 {h : sm_H} {d : Nat} {Q : Option mi_V → sm_H → Prop} {za zb : Int} {q3 : Option mi_V} (hS : ab_Sh sx_sk h) (ok_za : mi_in za) (ok_zb : mi_in zb) (ok_q3 : ∀ v, q3 = some v → mi_ok v) (ho : (zb < (mi_f h 13961)) ∧ (0 ≤ zb ∧ zb < 10) ∧ (((Int32.ofInt ((Int32.ofInt (mi_a h 116 (Int.toNat zb)) >>> (Int32.ofInt za &&& 31)).toInt) &&& Int32.ofInt ((1 : Int))).toInt) ≠ ((1 : Int))) ∧ (0 ≤ zb ∧ zb < 10) ∧ (0 ≤ zb ∧ zb < 10) ∧ (-2147483648 ≤ zb + 1 ∧ zb + 1 ≤ 2147483647)) (kon : ∀ h1, me_W [.inr (.inr (.inl (116, Int.toNat zb, mi_a h 116 (Int.toNat zb))))] h h1 → me_E (d + 3) 194 287 [some (.inr (.inr 109)), some (.inl (za)), some (.inl (zb + 1)), q3] [] h1 Q) : me_E (d + 3) 194 287 [some (.inr (.inr 109)), some (.inl (za)), some (.inl (zb)), q3] [] h Q := me_seg (mp_stP_1 h d za zb q3) (mi_tab_stP_1) hS (mi_okL_c (trivial) (mi_okL_c (ok_za) (mi_okL_c (ok_zb) (mi_okL_o ok_q3 (mi_okL_e))))) (mi_okS_e) (mi_al (ho.1) (mi_al (ho.2.1) (mi_al (ho.2.2.1) (mi_al (ho.2.2.2.1) (mi_al (ho.2.2.2.2.1) (mi_al (ho.2.2.2.2.2) (mi_al_e))))))) (fun h1 W _ hst => kon h1 W)
set_option maxRecDepth 20000 in
theorem mp_stP_2 (h : sm_H) (d : Nat) (za zb : Int) (q3 : Option mi_V) : mi_path [(194, (4, 0, sb_194))] sx_sk h 30 [0, 0] (d + 3, 194, 287, [some (.inr (.inr 109)), some (.inl (za)), some (.inl (zb)), q3], [], [], []) = some ((d + 3, 194, 287, [some (.inr (.inr 109)), some (.inl (za)), some (.inl (zb + 1)), q3], [], [.inr (.inr (.inl (116, Int.toNat zb, (Int32.ofInt (mi_a h 116 (Int.toNat zb)) ||| Int32.ofInt (mi_a h 116 (Int.toNat za))).toInt)))], []), [zb < (mi_f h 13961), 0 ≤ zb ∧ zb < 10, ((Int32.ofInt ((Int32.ofInt (mi_a h 116 (Int.toNat zb)) >>> (Int32.ofInt za &&& 31)).toInt) &&& Int32.ofInt ((1 : Int))).toInt) = ((1 : Int)), 0 ≤ zb ∧ zb < 10, 0 ≤ za ∧ za < 10, 0 ≤ zb ∧ zb < 10, -2147483648 ≤ zb + 1 ∧ zb + 1 ≤ 2147483647]) := rfl
theorem mi_tab_stP_2 : ∀ e ∈ ([(194, (4, 0, sb_194))] : mi_T), sc_P e.1 = some e.2 := mi_tb mi_P194 (mi_tb_e)
set_option maxRecDepth 20000 in
theorem ms_stP_2 {h : sm_H} {d : Nat} {Q : Option mi_V → sm_H → Prop} {za zb : Int} {q3 : Option mi_V} (hS : ab_Sh sx_sk h) (ok_za : mi_in za) (ok_zb : mi_in zb) (ok_q3 : ∀ v, q3 = some v → mi_ok v) (ho : (zb < (mi_f h 13961)) ∧ (0 ≤ zb ∧ zb < 10) ∧ (((Int32.ofInt ((Int32.ofInt (mi_a h 116 (Int.toNat zb)) >>> (Int32.ofInt za &&& 31)).toInt) &&& Int32.ofInt ((1 : Int))).toInt) = ((1 : Int))) ∧ (0 ≤ zb ∧ zb < 10) ∧ (0 ≤ za ∧ za < 10) ∧ (0 ≤ zb ∧ zb < 10) ∧ (-2147483648 ≤ zb + 1 ∧ zb + 1 ≤ 2147483647)) (kon : ∀ h1, me_W [.inr (.inr (.inl (116, Int.toNat zb, (Int32.ofInt (mi_a h 116 (Int.toNat zb)) ||| Int32.ofInt (mi_a h 116 (Int.toNat za))).toInt)))] h h1 → me_E (d + 3) 194 287 [some (.inr (.inr 109)), some (.inl (za)), some (.inl (zb + 1)), q3] [] h1 Q) : me_E (d + 3) 194 287 [some (.inr (.inr 109)), some (.inl (za)), some (.inl (zb)), q3] [] h Q := me_seg (mp_stP_2 h d za zb q3) (mi_tab_stP_2) hS (mi_okL_c (trivial) (mi_okL_c (ok_za) (mi_okL_c (ok_zb) (mi_okL_o ok_q3 (mi_okL_e))))) (mi_okS_e) (mi_al (ho.1) (mi_al (ho.2.1) (mi_al (ho.2.2.1) (mi_al (ho.2.2.2.1) (mi_al (ho.2.2.2.2.1) (mi_al (ho.2.2.2.2.2.1) (mi_al (ho.2.2.2.2.2.2) (mi_al_e)))))))) (fun h1 W _ hst => kon h1 W)
set_option maxRecDepth 20000 in
theorem mt_stP {h : sm_H} {d : Nat} {Q : Option mi_V → sm_H → Prop} {za zb : Int} {q3 : Option mi_V} (hS : ab_Sh sx_sk h) (ok_za : mi_in za) (ok_zb : mi_in zb) (ok_q3 : ∀ v, q3 = some v → mi_ok v) (k0 : (0 ≤ mi_f h 13961 ∧ mi_f h 13961 ≤ 10) → ((mi_f h 13961) ≤ zb) → ((-2147483648 ≤ za + 1 ∧ za + 1 ≤ 2147483647)) ∧ (∀ h1, ab_Sh sx_sk h1 → ab_Fr [] h h1 → me_E (d + 3) 194 277 [some (.inr (.inr 109)), some (.inl (za + 1)), some (.inl (zb)), q3] [] h1 Q)) (k1 : (0 ≤ mi_f h 13961 ∧ mi_f h 13961 ≤ 10) → (zb < (mi_f h 13961)) → (((Int32.ofInt ((Int32.ofInt (mi_a h 116 (Int.toNat zb)) >>> (Int32.ofInt za &&& 31)).toInt) &&& Int32.ofInt ((1 : Int))).toInt) ≠ ((1 : Int))) → ((0 ≤ zb ∧ zb < 10) ∧ (-2147483648 ≤ zb + 1 ∧ zb + 1 ≤ 2147483647)) ∧ (∀ h1, ab_Sh sx_sk h1 → (∀ i, mi_a h1 116 i = if i = Int.toNat zb then mi_a h 116 (Int.toNat zb) else (mi_a h 116 i)) → ab_Fr [(14848, 14849)] h h1 → me_E (d + 3) 194 287 [some (.inr (.inr 109)), some (.inl (za)), some (.inl (zb + 1)), q3] [] h1 Q)) (k2 : (0 ≤ mi_f h 13961 ∧ mi_f h 13961 ≤ 10) → (zb < (mi_f h 13961)) → (((Int32.ofInt ((Int32.ofInt (mi_a h 116 (Int.toNat zb)) >>> (Int32.ofInt za &&& 31)).toInt) &&& Int32.ofInt ((1 : Int))).toInt) = ((1 : Int))) → ((0 ≤ zb ∧ zb < 10) ∧ (0 ≤ za ∧ za < 10) ∧ (-2147483648 ≤ zb + 1 ∧ zb + 1 ≤ 2147483647)) ∧ (∀ h1, ab_Sh sx_sk h1 → (∀ i, mi_a h1 116 i = if i = Int.toNat zb then (Int32.ofInt (mi_a h 116 (Int.toNat zb)) ||| Int32.ofInt (mi_a h 116 (Int.toNat za))).toInt else (mi_a h 116 i)) → ab_Fr [(14848, 14849)] h h1 → me_E (d + 3) 194 287 [some (.inr (.inr 109)), some (.inl (za)), some (.inl (zb + 1)), q3] [] h1 Q)) : me_E (d + 3) 194 287 [some (.inr (.inr 109)), some (.inl (za)), some (.inl (zb)), q3] [] h Q := Or.elim (mi_em .ge (zb) ((mi_f h 13961))) (fun c0 => ms_stP_0 hS ok_za ok_zb ok_q3 ⟨c0, (k0 (me_fb hS rfl) c0).1⟩ (fun h1 W => (k0 (me_fb hS rfl) c0).2 h1 W.1 (W.2.2.2.2.2 _ rfl))) (fun c0 => Or.elim (mi_em .ne (((Int32.ofInt ((Int32.ofInt (mi_a h 116 (Int.toNat zb)) >>> (Int32.ofInt za &&& 31)).toInt) &&& Int32.ofInt ((1 : Int))).toInt)) (((1 : Int)))) (fun c1 => ms_stP_1 hS ok_za ok_zb ok_q3 ⟨c0, (k1 (me_fb hS rfl) c0 c1).1.1, c1, (k1 (me_fb hS rfl) c0 c1).1.1, (k1 (me_fb hS rfl) c0 c1).1.1, (k1 (me_fb hS rfl) c0 c1).1.2⟩ (fun h1 W => (k1 (me_fb hS rfl) c0 c1).2 h1 W.1 (fun i => W.2.2.1 116 i) (W.2.2.2.2.2 _ rfl))) (fun c1 => ms_stP_2 hS ok_za ok_zb ok_q3 ⟨c0, (k2 (me_fb hS rfl) c0 c1).1.1, c1, (k2 (me_fb hS rfl) c0 c1).1.1, (k2 (me_fb hS rfl) c0 c1).1.2.1, (k2 (me_fb hS rfl) c0 c1).1.1, (k2 (me_fb hS rfl) c0 c1).1.2.2⟩ (fun h1 W => (k2 (me_fb hS rfl) c0 c1).2 h1 W.1 (fun i => W.2.2.1 116 i) (W.2.2.2.2.2 _ rfl))))
/-! segments: check, compile -/
set_option maxRecDepth 20000 in
theorem mp_ckA_0 (h : sm_H) (d : Nat) : mi_path [(201, (8, 1, sb_201))] sx_sk h 4 [] (d + 1, 201, 0, [some (.inr (.inr 109)), none, none, none, none, none, none, none], [], [], []) = some ((d + 1, 201, 4, [some (.inr (.inr 109)), some (.inl ((0 : Int))), some (.inl ((0 : Int))), none, none, none, none, none], [], [], []), []) := rfl
theorem mi_tab_ckA_0 : ∀ e ∈ ([(201, (8, 1, sb_201))] : mi_T), sc_P e.1 = some e.2 := mi_tb mi_P201 (mi_tb_e)
set_option maxRecDepth 20000 in
theorem ms_ckA_0 {h : sm_H} {d : Nat} {Q : Option mi_V → sm_H → Prop} (hS : ab_Sh sx_sk h)  (kon : ∀ h1, me_W [] h h1 → me_E (d + 1) 201 4 [some (.inr (.inr 109)), some (.inl ((0 : Int))), some (.inl ((0 : Int))), none, none, none, none, none] [] h1 Q) : me_E (d + 1) 201 0 [some (.inr (.inr 109)), none, none, none, none, none, none, none] [] h Q := me_seg (mp_ckA_0 h d ) (mi_tab_ckA_0) hS (mi_okL_c (trivial) (mi_okL_n (mi_okL_n (mi_okL_n (mi_okL_n (mi_okL_n (mi_okL_n (mi_okL_n (mi_okL_e))))))))) (mi_okS_e) (mi_al_e) (fun h1 W _ hst => kon h1 W)
set_option maxRecDepth 20000 in
theorem mt_ckA {h : sm_H} {d : Nat} {Q : Option mi_V → sm_H → Prop} (hS : ab_Sh sx_sk h)  (k0 : (∀ h1, ab_Sh sx_sk h1 → ab_Fr [] h h1 → me_E (d + 1) 201 4 [some (.inr (.inr 109)), some (.inl ((0 : Int))), some (.inl ((0 : Int))), none, none, none, none, none] [] h1 Q)) : me_E (d + 1) 201 0 [some (.inr (.inr 109)), none, none, none, none, none, none, none] [] h Q := ms_ckA_0 hS (fun h1 W => (k0) h1 W.1 (W.2.2.2.2.2 _ rfl))
set_option maxRecDepth 20000 in
theorem mp_ckB_0 (h : sm_H) (d : Nat) (zb zr : Int) (q3 q4 q5 q6 q7 : Option mi_V) : mi_path [(201, (8, 1, sb_201))] sx_sk h 6 [1] (d + 1, 201, 4, [some (.inr (.inr 109)), some (.inl (zb)), some (.inl (zr)), q3, q4, q5, q6, q7], [], [], []) = some ((d + 1, 201, 78, [some (.inr (.inr 109)), some (.inl (zb)), some (.inl ((0 : Int))), q3, q4, q5, q6, q7], [], [], []), [(mi_f h 13961) ≤ zr]) := rfl
theorem mi_tab_ckB_0 : ∀ e ∈ ([(201, (8, 1, sb_201))] : mi_T), sc_P e.1 = some e.2 := mi_tb mi_P201 (mi_tb_e)
set_option maxRecDepth 20000 in
theorem ms_ckB_0 {h : sm_H} {d : Nat} {Q : Option mi_V → sm_H → Prop} {zb zr : Int} {q3 q4 q5 q6 q7 : Option mi_V} (hS : ab_Sh sx_sk h) (ok_zb : mi_in zb) (ok_zr : mi_in zr) (ok_q3 : ∀ v, q3 = some v → mi_ok v) (ok_q4 : ∀ v, q4 = some v → mi_ok v) (ok_q5 : ∀ v, q5 = some v → mi_ok v) (ok_q6 : ∀ v, q6 = some v → mi_ok v) (ok_q7 : ∀ v, q7 = some v → mi_ok v) (ho : ((mi_f h 13961) ≤ zr)) (kon : ∀ h1, me_W [] h h1 → me_E (d + 1) 201 78 [some (.inr (.inr 109)), some (.inl (zb)), some (.inl ((0 : Int))), q3, q4, q5, q6, q7] [] h1 Q) : me_E (d + 1) 201 4 [some (.inr (.inr 109)), some (.inl (zb)), some (.inl (zr)), q3, q4, q5, q6, q7] [] h Q := me_seg (mp_ckB_0 h d zb zr q3 q4 q5 q6 q7) (mi_tab_ckB_0) hS (mi_okL_c (trivial) (mi_okL_c (ok_zb) (mi_okL_c (ok_zr) (mi_okL_o ok_q3 (mi_okL_o ok_q4 (mi_okL_o ok_q5 (mi_okL_o ok_q6 (mi_okL_o ok_q7 (mi_okL_e))))))))) (mi_okS_e) (mi_al (ho) (mi_al_e)) (fun h1 W _ hst => kon h1 W)
set_option maxRecDepth 20000 in
theorem mp_ckB_1 (h : sm_H) (d : Nat) (zb zr : Int) (q3 q4 q5 q6 q7 : Option mi_V) : mi_path [(201, (8, 1, sb_201))] sx_sk h 14 [0, 1] (d + 1, 201, 4, [some (.inr (.inr 109)), some (.inl (zb)), some (.inl (zr)), q3, q4, q5, q6, q7], [], [], []) = some ((d + 1, 201, 39, [some (.inr (.inr 109)), some (.inl (zb)), some (.inl (zr)), q3, q4, q5, q6, q7], [], [], []), [zr < (mi_f h 13961), 0 ≤ zr ∧ zr < 10, ((Int32.ofInt ((Int32.ofInt (mi_a h 116 (Int.toNat zr)) >>> (Int32.ofInt zr &&& 31)).toInt) &&& Int32.ofInt ((1 : Int))).toInt) ≠ ((1 : Int))]) := rfl
theorem mi_tab_ckB_1 : ∀ e ∈ ([(201, (8, 1, sb_201))] : mi_T), sc_P e.1 = some e.2 := mi_tb mi_P201 (mi_tb_e)
set_option maxRecDepth 20000 in
theorem ms_ckB_1 {h : sm_H} {d : Nat} {Q : Option mi_V → sm_H → Prop} {zb zr : Int} {q3 q4 q5 q6 q7 : Option mi_V} (hS : ab_Sh sx_sk h) (ok_zb : mi_in zb) (ok_zr : mi_in zr) (ok_q3 : ∀ v, q3 = some v → mi_ok v) (ok_q4 : ∀ v, q4 = some v → mi_ok v) (ok_q5 : ∀ v, q5 = some v → mi_ok v) (ok_q6 : ∀ v, q6 = some v → mi_ok v) (ok_q7 : ∀ v, q7 = some v → mi_ok v) (ho : (zr < (mi_f h 13961)) ∧ (0 ≤ zr ∧ zr < 10) ∧ (((Int32.ofInt ((Int32.ofInt (mi_a h 116 (Int.toNat zr)) >>> (Int32.ofInt zr &&& 31)).toInt) &&& Int32.ofInt ((1 : Int))).toInt) ≠ ((1 : Int)))) (kon : ∀ h1, me_W [] h h1 → me_E (d + 1) 201 39 [some (.inr (.inr 109)), some (.inl (zb)), some (.inl (zr)), q3, q4, q5, q6, q7] [] h1 Q) : me_E (d + 1) 201 4 [some (.inr (.inr 109)), some (.inl (zb)), some (.inl (zr)), q3, q4, q5, q6, q7] [] h Q := me_seg (mp_ckB_1 h d zb zr q3 q4 q5 q6 q7) (mi_tab_ckB_1) hS (mi_okL_c (trivial) (mi_okL_c (ok_zb) (mi_okL_c (ok_zr) (mi_okL_o ok_q3 (mi_okL_o ok_q4 (mi_okL_o ok_q5 (mi_okL_o ok_q6 (mi_okL_o ok_q7 (mi_okL_e))))))))) (mi_okS_e) (mi_al (ho.1) (mi_al (ho.2.1) (mi_al (ho.2.2) (mi_al_e)))) (fun h1 W _ hst => kon h1 W)
set_option maxRecDepth 20000 in
theorem mp_ckB_2 (h : sm_H) (d : Nat) (zb zr : Int) (q3 q4 q5 q6 q7 : Option mi_V) : mi_path [(201, (8, 1, sb_201))] sx_sk h 21 [0, 0] (d + 1, 201, 4, [some (.inr (.inr 109)), some (.inl (zb)), some (.inl (zr)), q3, q4, q5, q6, q7], [], [], []) = some ((d + 1, 201, 35, [some (.inr (.inr 109)), some (.inl (zb)), some (.inl (zr)), q3, q4, q5, q6, q7], [.inl (mi_a h 113 (Int.toNat zr)), .inl ((5 : Int)), .inl (zb), .inr (.inr 109)], [], []), [zr < (mi_f h 13961), 0 ≤ zr ∧ zr < 10, ((Int32.ofInt ((Int32.ofInt (mi_a h 116 (Int.toNat zr)) >>> (Int32.ofInt zr &&& 31)).toInt) &&& Int32.ofInt ((1 : Int))).toInt) = ((1 : Int)), 0 ≤ zr ∧ zr < 10]) := rfl
theorem mi_tab_ckB_2 : ∀ e ∈ ([(201, (8, 1, sb_201))] : mi_T), sc_P e.1 = some e.2 := mi_tb mi_P201 (mi_tb_e)
set_option maxRecDepth 20000 in
theorem ms_ckB_2 {h : sm_H} {d : Nat} {Q : Option mi_V → sm_H → Prop} {zb zr : Int} {q3 q4 q5 q6 q7 : Option mi_V} (hS : ab_Sh sx_sk h) (ok_zb : mi_in zb) (ok_zr : mi_in zr) (ok_q3 : ∀ v, q3 = some v → mi_ok v) (ok_q4 : ∀ v, q4 = some v → mi_ok v) (ok_q5 : ∀ v, q5 = some v → mi_ok v) (ok_q6 : ∀ v, q6 = some v → mi_ok v) (ok_q7 : ∀ v, q7 = some v → mi_ok v) (ho : (zr < (mi_f h 13961)) ∧ (0 ≤ zr ∧ zr < 10) ∧ (((Int32.ofInt ((Int32.ofInt (mi_a h 116 (Int.toNat zr)) >>> (Int32.ofInt zr &&& 31)).toInt) &&& Int32.ofInt ((1 : Int))).toInt) = ((1 : Int))) ∧ (0 ≤ zr ∧ zr < 10)) (kon : ∀ h1, me_W [] h h1 → ∃ Q1, me_E (d + 0) 202 0 (mi_entry 5 [.inr (.inr 109), .inl (zb), .inl ((5 : Int)), .inl (mi_a h 113 (Int.toNat zr))]) [] h1 Q1 ∧ ∀ w h2, (∀ x, w = some x → mi_ok x) → Q1 w h2 → me_E (d + 1) 201 38 [some (.inr (.inr 109)), some (.inl (zb)), some (.inl (zr)), q3, q4, q5, q6, q7] (mi_back w []) h2 Q) : me_E (d + 1) 201 4 [some (.inr (.inr 109)), some (.inl (zb)), some (.inl (zr)), q3, q4, q5, q6, q7] [] h Q := me_seg (mp_ckB_2 h d zb zr q3 q4 q5 q6 q7) (mi_tab_ckB_2) hS (mi_okL_c (trivial) (mi_okL_c (ok_zb) (mi_okL_c (ok_zr) (mi_okL_o ok_q3 (mi_okL_o ok_q4 (mi_okL_o ok_q5 (mi_okL_o ok_q6 (mi_okL_o ok_q7 (mi_okL_e))))))))) (mi_okS_e) (mi_al (ho.1) (mi_al (ho.2.1) (mi_al (ho.2.2.1) (mi_al (ho.2.2.2) (mi_al_e))))) (fun h1 W _ hst => let ⟨_, k1, k2⟩ := kon h1 W; me_call (M := (8, 1, sb_201)) (M' := (5, 1, sb_202)) rfl rfl rfl rfl (Nat.le_of_ble_eq_true rfl) (Nat.le_of_ble_eq_true rfl) W.1 k1 k2)
set_option maxRecDepth 20000 in
theorem mt_ckB {h : sm_H} {d : Nat} {Q : Option mi_V → sm_H → Prop} {zb zr : Int} {q3 q4 q5 q6 q7 : Option mi_V} (hS : ab_Sh sx_sk h) (ok_zb : mi_in zb) (ok_zr : mi_in zr) (ok_q3 : ∀ v, q3 = some v → mi_ok v) (ok_q4 : ∀ v, q4 = some v → mi_ok v) (ok_q5 : ∀ v, q5 = some v → mi_ok v) (ok_q6 : ∀ v, q6 = some v → mi_ok v) (ok_q7 : ∀ v, q7 = some v → mi_ok v) (k0 : (0 ≤ mi_f h 13961 ∧ mi_f h 13961 ≤ 10) → ((mi_f h 13961) ≤ zr) → (∀ h1, ab_Sh sx_sk h1 → ab_Fr [] h h1 → me_E (d + 1) 201 78 [some (.inr (.inr 109)), some (.inl (zb)), some (.inl ((0 : Int))), q3, q4, q5, q6, q7] [] h1 Q)) (k1 : (0 ≤ mi_f h 13961 ∧ mi_f h 13961 ≤ 10) → (zr < (mi_f h 13961)) → (((Int32.ofInt ((Int32.ofInt (mi_a h 116 (Int.toNat zr)) >>> (Int32.ofInt zr &&& 31)).toInt) &&& Int32.ofInt ((1 : Int))).toInt) ≠ ((1 : Int))) → ((0 ≤ zr ∧ zr < 10)) ∧ (∀ h1, ab_Sh sx_sk h1 → ab_Fr [] h h1 → me_E (d + 1) 201 39 [some (.inr (.inr 109)), some (.inl (zb)), some (.inl (zr)), q3, q4, q5, q6, q7] [] h1 Q)) (k2 : (0 ≤ mi_f h 13961 ∧ mi_f h 13961 ≤ 10) → (zr < (mi_f h 13961)) → (((Int32.ofInt ((Int32.ofInt (mi_a h 116 (Int.toNat zr)) >>> (Int32.ofInt zr &&& 31)).toInt) &&& Int32.ofInt ((1 : Int))).toInt) = ((1 : Int))) → ((0 ≤ zr ∧ zr < 10)) ∧ (∀ h1, ab_Sh sx_sk h1 → ab_Fr [] h h1 → ∃ Q1, me_E (d + 0) 202 0 (mi_entry 5 [.inr (.inr 109), .inl (zb), .inl ((5 : Int)), .inl (mi_a h 113 (Int.toNat zr))]) [] h1 Q1 ∧ ∀ w h2, (∀ x, w = some x → mi_ok x) → Q1 w h2 → me_E (d + 1) 201 38 [some (.inr (.inr 109)), some (.inl (zb)), some (.inl (zr)), q3, q4, q5, q6, q7] (mi_back w []) h2 Q)) : me_E (d + 1) 201 4 [some (.inr (.inr 109)), some (.inl (zb)), some (.inl (zr)), q3, q4, q5, q6, q7] [] h Q := Or.elim (mi_em .ge (zr) ((mi_f h 13961))) (fun c0 => ms_ckB_0 hS ok_zb ok_zr ok_q3 ok_q4 ok_q5 ok_q6 ok_q7 (c0) (fun h1 W => (k0 (me_fb hS rfl) c0) h1 W.1 (W.2.2.2.2.2 _ rfl))) (fun c0 => Or.elim (mi_em .ne (((Int32.ofInt ((Int32.ofInt (mi_a h 116 (Int.toNat zr)) >>> (Int32.ofInt zr &&& 31)).toInt) &&& Int32.ofInt ((1 : Int))).toInt)) (((1 : Int)))) (fun c1 => ms_ckB_1 hS ok_zb ok_zr ok_q3 ok_q4 ok_q5 ok_q6 ok_q7 ⟨c0, (k1 (me_fb hS rfl) c0 c1).1, c1⟩ (fun h1 W => (k1 (me_fb hS rfl) c0 c1).2 h1 W.1 (W.2.2.2.2.2 _ rfl))) (fun c1 => ms_ckB_2 hS ok_zb ok_zr ok_q3 ok_q4 ok_q5 ok_q6 ok_q7 ⟨c0, (k2 (me_fb hS rfl) c0 c1).1, c1, (k2 (me_fb hS rfl) c0 c1).1⟩ (fun h1 W => (k2 (me_fb hS rfl) c0 c1).2 h1 W.1 (W.2.2.2.2.2 _ rfl))))
set_option maxRecDepth 20000 in
theorem mp_ckC_0 (h : sm_H) (d : Nat) (zb zr zz : Int) (q3 q4 q5 q6 q7 : Option mi_V) : mi_path [(201, (8, 1, sb_201))] sx_sk h 1 [] (d + 1, 201, 38, [some (.inr (.inr 109)), some (.inl (zb)), some (.inl (zr)), q3, q4, q5, q6, q7], [.inl (zz)], [], []) = some ((d + 1, 201, 39, [some (.inr (.inr 109)), some (.inl (zz)), some (.inl (zr)), q3, q4, q5, q6, q7], [], [], []), []) := rfl
theorem mi_tab_ckC_0 : ∀ e ∈ ([(201, (8, 1, sb_201))] : mi_T), sc_P e.1 = some e.2 := mi_tb mi_P201 (mi_tb_e)
set_option maxRecDepth 20000 in
theorem ms_ckC_0 {h : sm_H} {d : Nat} {Q : Option mi_V → sm_H → Prop} {zb zr zz : Int} {q3 q4 q5 q6 q7 : Option mi_V} (hS : ab_Sh sx_sk h) (ok_zb : mi_in zb) (ok_zr : mi_in zr) (ok_zz : mi_in zz) (ok_q3 : ∀ v, q3 = some v → mi_ok v) (ok_q4 : ∀ v, q4 = some v → mi_ok v) (ok_q5 : ∀ v, q5 = some v → mi_ok v) (ok_q6 : ∀ v, q6 = some v → mi_ok v) (ok_q7 : ∀ v, q7 = some v → mi_ok v) (kon : ∀ h1, me_W [] h h1 → me_E (d + 1) 201 39 [some (.inr (.inr 109)), some (.inl (zz)), some (.inl (zr)), q3, q4, q5, q6, q7] [] h1 Q) : me_E (d + 1) 201 38 [some (.inr (.inr 109)), some (.inl (zb)), some (.inl (zr)), q3, q4, q5, q6, q7] [.inl (zz)] h Q := me_seg (mp_ckC_0 h d zb zr zz q3 q4 q5 q6 q7) (mi_tab_ckC_0) hS (mi_okL_c (trivial) (mi_okL_c (ok_zb) (mi_okL_c (ok_zr) (mi_okL_o ok_q3 (mi_okL_o ok_q4 (mi_okL_o ok_q5 (mi_okL_o ok_q6 (mi_okL_o ok_q7 (mi_okL_e))))))))) (mi_okS_cons (ok_zz) (mi_okS_e)) (mi_al_e) (fun h1 W _ hst => kon h1 W)
set_option maxRecDepth 20000 in
theorem mt_ckC {h : sm_H} {d : Nat} {Q : Option mi_V → sm_H → Prop} {zb zr zz : Int} {q3 q4 q5 q6 q7 : Option mi_V} (hS : ab_Sh sx_sk h) (ok_zb : mi_in zb) (ok_zr : mi_in zr) (ok_zz : mi_in zz) (ok_q3 : ∀ v, q3 = some v → mi_ok v) (ok_q4 : ∀ v, q4 = some v → mi_ok v) (ok_q5 : ∀ v, q5 = some v → mi_ok v) (ok_q6 : ∀ v, q6 = some v → mi_ok v) (ok_q7 : ∀ v, q7 = some v → mi_ok v) (k0 : (∀ h1, ab_Sh sx_sk h1 → ab_Fr [] h h1 → me_E (d + 1) 201 39 [some (.inr (.inr 109)), some (.inl (zz)), some (.inl (zr)), q3, q4, q5, q6, q7] [] h1 Q)) : me_E (d + 1) 201 38 [some (.inr (.inr 109)), some (.inl (zb)), some (.inl (zr)), q3, q4, q5, q6, q7] [.inl (zz)] h Q := ms_ckC_0 hS ok_zb ok_zr ok_zz ok_q3 ok_q4 ok_q5 ok_q6 ok_q7 (fun h1 W => (k0) h1 W.1 (W.2.2.2.2.2 _ rfl))
set_option maxRecDepth 20000 in
theorem mp_ckD_0 (h : sm_H) (d : Nat) (zb zr : Int) (q3 q4 q5 q6 q7 : Option mi_V) : mi_path [(201, (8, 1, sb_201))] sx_sk h 11 [1] (d + 1, 201, 39, [some (.inr (.inr 109)), some (.inl (zb)), some (.inl (zr)), q3, q4, q5, q6, q7], [], [], []) = some ((d + 1, 201, 4, [some (.inr (.inr 109)), some (.inl (zb)), some (.inl (zr + 1)), q3, q4, q5, q6, q7], [], [], []), [0 ≤ zr ∧ zr < 10, 0 ≤ (mi_a h 114 (Int.toNat zr)) ∧ (mi_a h 114 (Int.toNat zr)) < 80, (mi_a h 144 (Int.toNat (mi_a h 114 (Int.toNat zr)))) < ((1000 : Int)), -2147483648 ≤ zr + 1 ∧ zr + 1 ≤ 2147483647]) := rfl
theorem mi_tab_ckD_0 : ∀ e ∈ ([(201, (8, 1, sb_201))] : mi_T), sc_P e.1 = some e.2 := mi_tb mi_P201 (mi_tb_e)
set_option maxRecDepth 20000 in
theorem ms_ckD_0 {h : sm_H} {d : Nat} {Q : Option mi_V → sm_H → Prop} {zb zr : Int} {q3 q4 q5 q6 q7 : Option mi_V} (hS : ab_Sh sx_sk h) (ok_zb : mi_in zb) (ok_zr : mi_in zr) (ok_q3 : ∀ v, q3 = some v → mi_ok v) (ok_q4 : ∀ v, q4 = some v → mi_ok v) (ok_q5 : ∀ v, q5 = some v → mi_ok v) (ok_q6 : ∀ v, q6 = some v → mi_ok v) (ok_q7 : ∀ v, q7 = some v → mi_ok v) (ho : (0 ≤ zr ∧ zr < 10) ∧ (0 ≤ (mi_a h 114 (Int.toNat zr)) ∧ (mi_a h 114 (Int.toNat zr)) < 80) ∧ ((mi_a h 144 (Int.toNat (mi_a h 114 (Int.toNat zr)))) < ((1000 : Int))) ∧ (-2147483648 ≤ zr + 1 ∧ zr + 1 ≤ 2147483647)) (kon : ∀ h1, me_W [] h h1 → me_E (d + 1) 201 4 [some (.inr (.inr 109)), some (.inl (zb)), some (.inl (zr + 1)), q3, q4, q5, q6, q7] [] h1 Q) : me_E (d + 1) 201 39 [some (.inr (.inr 109)), some (.inl (zb)), some (.inl (zr)), q3, q4, q5, q6, q7] [] h Q := me_seg (mp_ckD_0 h d zb zr q3 q4 q5 q6 q7) (mi_tab_ckD_0) hS (mi_okL_c (trivial) (mi_okL_c (ok_zb) (mi_okL_c (ok_zr) (mi_okL_o ok_q3 (mi_okL_o ok_q4 (mi_okL_o ok_q5 (mi_okL_o ok_q6 (mi_okL_o ok_q7 (mi_okL_e))))))))) (mi_okS_e) (mi_al (ho.1) (mi_al (ho.2.1) (mi_al (ho.2.2.1) (mi_al (ho.2.2.2) (mi_al_e))))) (fun h1 W _ hst => kon h1 W)
set_option maxRecDepth 20000 in
theorem mp_ckD_1 (h : sm_H) (d : Nat) (zb zr : Int) (q3 q4 q5 q6 q7 : Option mi_V) : mi_path [(201, (8, 1, sb_201))] sx_sk h 16 [0] (d + 1, 201, 39, [some (.inr (.inr 109)), some (.inl (zb)), some (.inl (zr)), q3, q4, q5, q6, q7], [], [], []) = some ((d + 1, 201, 66, [some (.inr (.inr 109)), some (.inl (zb)), some (.inl (zr)), q3, q4, q5, q6, q7], [.inl (mi_a h 113 (Int.toNat zr)), .inl ((6 : Int)), .inl (zb), .inr (.inr 109)], [], []), [0 ≤ zr ∧ zr < 10, 0 ≤ (mi_a h 114 (Int.toNat zr)) ∧ (mi_a h 114 (Int.toNat zr)) < 80, ((1000 : Int)) ≤ (mi_a h 144 (Int.toNat (mi_a h 114 (Int.toNat zr)))), 0 ≤ zr ∧ zr < 10]) := rfl
theorem mi_tab_ckD_1 : ∀ e ∈ ([(201, (8, 1, sb_201))] : mi_T), sc_P e.1 = some e.2 := mi_tb mi_P201 (mi_tb_e)
set_option maxRecDepth 20000 in
theorem ms_ckD_1 {h : sm_H} {d : Nat} {Q : Option mi_V → sm_H → Prop} {zb zr : Int} {q3 q4 q5 q6 q7 : Option mi_V} (hS : ab_Sh sx_sk h) (ok_zb : mi_in zb) (ok_zr : mi_in zr) (ok_q3 : ∀ v, q3 = some v → mi_ok v) (ok_q4 : ∀ v, q4 = some v → mi_ok v) (ok_q5 : ∀ v, q5 = some v → mi_ok v) (ok_q6 : ∀ v, q6 = some v → mi_ok v) (ok_q7 : ∀ v, q7 = some v → mi_ok v) (ho : (0 ≤ zr ∧ zr < 10) ∧ (0 ≤ (mi_a h 114 (Int.toNat zr)) ∧ (mi_a h 114 (Int.toNat zr)) < 80) ∧ (((1000 : Int)) ≤ (mi_a h 144 (Int.toNat (mi_a h 114 (Int.toNat zr))))) ∧ (0 ≤ zr ∧ zr < 10)) (kon : ∀ h1, me_W [] h h1 → ∃ Q1, me_E (d + 0) 202 0 (mi_entry 5 [.inr (.inr 109), .inl (zb), .inl ((6 : Int)), .inl (mi_a h 113 (Int.toNat zr))]) [] h1 Q1 ∧ ∀ w h2, (∀ x, w = some x → mi_ok x) → Q1 w h2 → me_E (d + 1) 201 69 [some (.inr (.inr 109)), some (.inl (zb)), some (.inl (zr)), q3, q4, q5, q6, q7] (mi_back w []) h2 Q) : me_E (d + 1) 201 39 [some (.inr (.inr 109)), some (.inl (zb)), some (.inl (zr)), q3, q4, q5, q6, q7] [] h Q := me_seg (mp_ckD_1 h d zb zr q3 q4 q5 q6 q7) (mi_tab_ckD_1) hS (mi_okL_c (trivial) (mi_okL_c (ok_zb) (mi_okL_c (ok_zr) (mi_okL_o ok_q3 (mi_okL_o ok_q4 (mi_okL_o ok_q5 (mi_okL_o ok_q6 (mi_okL_o ok_q7 (mi_okL_e))))))))) (mi_okS_e) (mi_al (ho.1) (mi_al (ho.2.1) (mi_al (ho.2.2.1) (mi_al (ho.2.2.2) (mi_al_e))))) (fun h1 W _ hst => let ⟨_, k1, k2⟩ := kon h1 W; me_call (M := (8, 1, sb_201)) (M' := (5, 1, sb_202)) rfl rfl rfl rfl (Nat.le_of_ble_eq_true rfl) (Nat.le_of_ble_eq_true rfl) W.1 k1 k2)
set_option maxRecDepth 20000 in
theorem mt_ckD {h : sm_H} {d : Nat} {Q : Option mi_V → sm_H → Prop} {zb zr : Int} {q3 q4 q5 q6 q7 : Option mi_V} (hS : ab_Sh sx_sk h) (ok_zb : mi_in zb) (ok_zr : mi_in zr) (ok_q3 : ∀ v, q3 = some v → mi_ok v) (ok_q4 : ∀ v, q4 = some v → mi_ok v) (ok_q5 : ∀ v, q5 = some v → mi_ok v) (ok_q6 : ∀ v, q6 = some v → mi_ok v) (ok_q7 : ∀ v, q7 = some v → mi_ok v) (k0 : ((mi_a h 144 (Int.toNat (mi_a h 114 (Int.toNat zr)))) < ((1000 : Int))) → ((0 ≤ zr ∧ zr < 10) ∧ (0 ≤ (mi_a h 114 (Int.toNat zr)) ∧ (mi_a h 114 (Int.toNat zr)) < 80) ∧ (-2147483648 ≤ zr + 1 ∧ zr + 1 ≤ 2147483647)) ∧ (∀ h1, ab_Sh sx_sk h1 → ab_Fr [] h h1 → me_E (d + 1) 201 4 [some (.inr (.inr 109)), some (.inl (zb)), some (.inl (zr + 1)), q3, q4, q5, q6, q7] [] h1 Q)) (k1 : (((1000 : Int)) ≤ (mi_a h 144 (Int.toNat (mi_a h 114 (Int.toNat zr))))) → ((0 ≤ zr ∧ zr < 10) ∧ (0 ≤ (mi_a h 114 (Int.toNat zr)) ∧ (mi_a h 114 (Int.toNat zr)) < 80)) ∧ (∀ h1, ab_Sh sx_sk h1 → ab_Fr [] h h1 → ∃ Q1, me_E (d + 0) 202 0 (mi_entry 5 [.inr (.inr 109), .inl (zb), .inl ((6 : Int)), .inl (mi_a h 113 (Int.toNat zr))]) [] h1 Q1 ∧ ∀ w h2, (∀ x, w = some x → mi_ok x) → Q1 w h2 → me_E (d + 1) 201 69 [some (.inr (.inr 109)), some (.inl (zb)), some (.inl (zr)), q3, q4, q5, q6, q7] (mi_back w []) h2 Q)) : me_E (d + 1) 201 39 [some (.inr (.inr 109)), some (.inl (zb)), some (.inl (zr)), q3, q4, q5, q6, q7] [] h Q := Or.elim (mi_em .lt ((mi_a h 144 (Int.toNat (mi_a h 114 (Int.toNat zr))))) (((1000 : Int)))) (fun c0 => ms_ckD_0 hS ok_zb ok_zr ok_q3 ok_q4 ok_q5 ok_q6 ok_q7 ⟨(k0 c0).1.1, (k0 c0).1.2.1, c0, (k0 c0).1.2.2⟩ (fun h1 W => (k0 c0).2 h1 W.1 (W.2.2.2.2.2 _ rfl))) (fun c0 => ms_ckD_1 hS ok_zb ok_zr ok_q3 ok_q4 ok_q5 ok_q6 ok_q7 ⟨(k1 c0).1.1, (k1 c0).1.2, c0, (k1 c0).1.1⟩ (fun h1 W => (k1 c0).2 h1 W.1 (W.2.2.2.2.2 _ rfl)))
set_option maxRecDepth 20000 in
theorem mp_ckE_0 (h : sm_H) (d : Nat) (zb zr zz : Int) (q3 q4 q5 q6 q7 : Option mi_V) : mi_path [(201, (8, 1, sb_201))] sx_sk h 3 [] (d + 1, 201, 69, [some (.inr (.inr 109)), some (.inl (zb)), some (.inl (zr)), q3, q4, q5, q6, q7], [.inl (zz)], [], []) = some ((d + 1, 201, 4, [some (.inr (.inr 109)), some (.inl (zz)), some (.inl (zr + 1)), q3, q4, q5, q6, q7], [], [], []), [-2147483648 ≤ zr + 1 ∧ zr + 1 ≤ 2147483647]) := rfl
theorem mi_tab_ckE_0 : ∀ e ∈ ([(201, (8, 1, sb_201))] : mi_T), sc_P e.1 = some e.2 := mi_tb mi_P201 (mi_tb_e)
set_option maxRecDepth 20000 in
theorem ms_ckE_0 {h : sm_H} {d : Nat} {Q : Option mi_V → sm_H → Prop} {zb zr zz : Int} {q3 q4 q5 q6 q7 : Option mi_V} (hS : ab_Sh sx_sk h) (ok_zb : mi_in zb) (ok_zr : mi_in zr) (ok_zz : mi_in zz) (ok_q3 : ∀ v, q3 = some v → mi_ok v) (ok_q4 : ∀ v, q4 = some v → mi_ok v) (ok_q5 : ∀ v, q5 = some v → mi_ok v) (ok_q6 : ∀ v, q6 = some v → mi_ok v) (ok_q7 : ∀ v, q7 = some v → mi_ok v) (ho : (-2147483648 ≤ zr + 1 ∧ zr + 1 ≤ 2147483647)) (kon : ∀ h1, me_W [] h h1 → me_E (d + 1) 201 4 [some (.inr (.inr 109)), some (.inl (zz)), some (.inl (zr + 1)), q3, q4, q5, q6, q7] [] h1 Q) : me_E (d + 1) 201 69 [some (.inr (.inr 109)), some (.inl (zb)), some (.inl (zr)), q3, q4, q5, q6, q7] [.inl (zz)] h Q := me_seg (mp_ckE_0 h d zb zr zz q3 q4 q5 q6 q7) (mi_tab_ckE_0) hS (mi_okL_c (trivial) (mi_okL_c (ok_zb) (mi_okL_c (ok_zr) (mi_okL_o ok_q3 (mi_okL_o ok_q4 (mi_okL_o ok_q5 (mi_okL_o ok_q6 (mi_okL_o ok_q7 (mi_okL_e))))))))) (mi_okS_cons (ok_zz) (mi_okS_e)) (mi_al (ho) (mi_al_e)) (fun h1 W _ hst => kon h1 W)
set_option maxRecDepth 20000 in
theorem mt_ckE {h : sm_H} {d : Nat} {Q : Option mi_V → sm_H → Prop} {zb zr zz : Int} {q3 q4 q5 q6 q7 : Option mi_V} (hS : ab_Sh sx_sk h) (ok_zb : mi_in zb) (ok_zr : mi_in zr) (ok_zz : mi_in zz) (ok_q3 : ∀ v, q3 = some v → mi_ok v) (ok_q4 : ∀ v, q4 = some v → mi_ok v) (ok_q5 : ∀ v, q5 = some v → mi_ok v) (ok_q6 : ∀ v, q6 = some v → mi_ok v) (ok_q7 : ∀ v, q7 = some v → mi_ok v) (k0 : ((-2147483648 ≤ zr + 1 ∧ zr + 1 ≤ 2147483647)) ∧ (∀ h1, ab_Sh sx_sk h1 → ab_Fr [] h h1 → me_E (d + 1) 201 4 [some (.inr (.inr 109)), some (.inl (zz)), some (.inl (zr + 1)), q3, q4, q5, q6, q7] [] h1 Q)) : me_E (d + 1) 201 69 [some (.inr (.inr 109)), some (.inl (zb)), some (.inl (zr)), q3, q4, q5, q6, q7] [.inl (zz)] h Q := ms_ckE_0 hS ok_zb ok_zr ok_zz ok_q3 ok_q4 ok_q5 ok_q6 ok_q7 ((k0).1) (fun h1 W => (k0).2 h1 W.1 (W.2.2.2.2.2 _ rfl))
set_option maxRecDepth 20000 in
theorem mp_ckF_0 (h : sm_H) (d : Nat) (zb zr : Int) (q3 q4 q5 q6 q7 : Option mi_V) : mi_path [(201, (8, 1, sb_201))] sx_sk h 6 [1] (d + 1, 201, 78, [some (.inr (.inr 109)), some (.inl (zb)), some (.inl (zr)), q3, q4, q5, q6, q7], [], [], []) = some ((d + 1, 201, 167, [some (.inr (.inr 109)), some (.inl (zb)), some (.inl ((0 : Int))), q3, q4, q5, q6, q7], [], [], []), [(mi_f h 13963) ≤ zr]) := rfl
theorem mi_tab_ckF_0 : ∀ e ∈ ([(201, (8, 1, sb_201))] : mi_T), sc_P e.1 = some e.2 := mi_tb mi_P201 (mi_tb_e)
set_option maxRecDepth 20000 in
theorem ms_ckF_0 {h : sm_H} {d : Nat} {Q : Option mi_V → sm_H → Prop} {zb zr : Int} {q3 q4 q5 q6 q7 : Option mi_V} (hS : ab_Sh sx_sk h) (ok_zb : mi_in zb) (ok_zr : mi_in zr) (ok_q3 : ∀ v, q3 = some v → mi_ok v) (ok_q4 : ∀ v, q4 = some v → mi_ok v) (ok_q5 : ∀ v, q5 = some v → mi_ok v) (ok_q6 : ∀ v, q6 = some v → mi_ok v) (ok_q7 : ∀ v, q7 = some v → mi_ok v) (ho : ((mi_f h 13963) ≤ zr)) (kon : ∀ h1, me_W [] h h1 → me_E (d + 1) 201 167 [some (.inr (.inr 109)), some (.inl (zb)), some (.inl ((0 : Int))), q3, q4, q5, q6, q7] [] h1 Q) : me_E (d + 1) 201 78 [some (.inr (.inr 109)), some (.inl (zb)), some (.inl (zr)), q3, q4, q5, q6, q7] [] h Q := me_seg (mp_ckF_0 h d zb zr q3 q4 q5 q6 q7) (mi_tab_ckF_0) hS (mi_okL_c (trivial) (mi_okL_c (ok_zb) (mi_okL_c (ok_zr) (mi_okL_o ok_q3 (mi_okL_o ok_q4 (mi_okL_o ok_q5 (mi_okL_o ok_q6 (mi_okL_o ok_q7 (mi_okL_e))))))))) (mi_okS_e) (mi_al (ho) (mi_al_e)) (fun h1 W _ hst => kon h1 W)
set_option maxRecDepth 20000 in
theorem mp_ckF_1 (h : sm_H) (d : Nat) (zb zr : Int) (q3 q4 q5 q6 q7 : Option mi_V) : mi_path [(201, (8, 1, sb_201))] sx_sk h 9 [0, 1] (d + 1, 201, 78, [some (.inr (.inr 109)), some (.inl (zb)), some (.inl (zr)), q3, q4, q5, q6, q7], [], [], []) = some ((d + 1, 201, 118, [some (.inr (.inr 109)), some (.inl (zb)), some (.inl (zr)), q3, q4, q5, q6, q7], [], [], []), [zr < (mi_f h 13963), 0 ≤ zr ∧ zr < 60, (mi_a h 122 (Int.toNat zr)) ≤ ((0 : Int))]) := rfl
theorem mi_tab_ckF_1 : ∀ e ∈ ([(201, (8, 1, sb_201))] : mi_T), sc_P e.1 = some e.2 := mi_tb mi_P201 (mi_tb_e)
set_option maxRecDepth 20000 in
theorem ms_ckF_1 {h : sm_H} {d : Nat} {Q : Option mi_V → sm_H → Prop} {zb zr : Int} {q3 q4 q5 q6 q7 : Option mi_V} (hS : ab_Sh sx_sk h) (ok_zb : mi_in zb) (ok_zr : mi_in zr) (ok_q3 : ∀ v, q3 = some v → mi_ok v) (ok_q4 : ∀ v, q4 = some v → mi_ok v) (ok_q5 : ∀ v, q5 = some v → mi_ok v) (ok_q6 : ∀ v, q6 = some v → mi_ok v) (ok_q7 : ∀ v, q7 = some v → mi_ok v) (ho : (zr < (mi_f h 13963)) ∧ (0 ≤ zr ∧ zr < 60) ∧ ((mi_a h 122 (Int.toNat zr)) ≤ ((0 : Int)))) (kon : ∀ h1, me_W [] h h1 → me_E (d + 1) 201 118 [some (.inr (.inr 109)), some (.inl (zb)), some (.inl (zr)), q3, q4, q5, q6, q7] [] h1 Q) : me_E (d + 1) 201 78 [some (.inr (.inr 109)), some (.inl (zb)), some (.inl (zr)), q3, q4, q5, q6, q7] [] h Q := me_seg (mp_ckF_1 h d zb zr q3 q4 q5 q6 q7) (mi_tab_ckF_1) hS (mi_okL_c (trivial) (mi_okL_c (ok_zb) (mi_okL_c (ok_zr) (mi_okL_o ok_q3 (mi_okL_o ok_q4 (mi_okL_o ok_q5 (mi_okL_o ok_q6 (mi_okL_o ok_q7 (mi_okL_e))))))))) (mi_okS_e) (mi_al (ho.1) (mi_al (ho.2.1) (mi_al (ho.2.2) (mi_al_e)))) (fun h1 W _ hst => kon h1 W)
set_option maxRecDepth 20000 in
theorem mp_ckF_2 (h : sm_H) (d : Nat) (zb zr : Int) (q3 q4 q5 q6 q7 : Option mi_V) : mi_path [(201, (8, 1, sb_201))] sx_sk h 14 [0, 0, 1] (d + 1, 201, 78, [some (.inr (.inr 109)), some (.inl (zb)), some (.inl (zr)), q3, q4, q5, q6, q7], [], [], []) = some ((d + 1, 201, 118, [some (.inr (.inr 109)), some (.inl (zb)), some (.inl (zr)), q3, q4, q5, q6, q7], [], [], []), [zr < (mi_f h 13963), 0 ≤ zr ∧ zr < 60, ((0 : Int)) < (mi_a h 122 (Int.toNat zr)), 0 ≤ zr ∧ zr < 60, (mi_a h 131 (Int.toNat zr)) = ((0 : Int))]) := rfl
theorem mi_tab_ckF_2 : ∀ e ∈ ([(201, (8, 1, sb_201))] : mi_T), sc_P e.1 = some e.2 := mi_tb mi_P201 (mi_tb_e)
set_option maxRecDepth 20000 in
theorem ms_ckF_2 {h : sm_H} {d : Nat} {Q : Option mi_V → sm_H → Prop} {zb zr : Int} {q3 q4 q5 q6 q7 : Option mi_V} (hS : ab_Sh sx_sk h) (ok_zb : mi_in zb) (ok_zr : mi_in zr) (ok_q3 : ∀ v, q3 = some v → mi_ok v) (ok_q4 : ∀ v, q4 = some v → mi_ok v) (ok_q5 : ∀ v, q5 = some v → mi_ok v) (ok_q6 : ∀ v, q6 = some v → mi_ok v) (ok_q7 : ∀ v, q7 = some v → mi_ok v) (ho : (zr < (mi_f h 13963)) ∧ (0 ≤ zr ∧ zr < 60) ∧ (((0 : Int)) < (mi_a h 122 (Int.toNat zr))) ∧ (0 ≤ zr ∧ zr < 60) ∧ ((mi_a h 131 (Int.toNat zr)) = ((0 : Int)))) (kon : ∀ h1, me_W [] h h1 → me_E (d + 1) 201 118 [some (.inr (.inr 109)), some (.inl (zb)), some (.inl (zr)), q3, q4, q5, q6, q7] [] h1 Q) : me_E (d + 1) 201 78 [some (.inr (.inr 109)), some (.inl (zb)), some (.inl (zr)), q3, q4, q5, q6, q7] [] h Q := me_seg (mp_ckF_2 h d zb zr q3 q4 q5 q6 q7) (mi_tab_ckF_2) hS (mi_okL_c (trivial) (mi_okL_c (ok_zb) (mi_okL_c (ok_zr) (mi_okL_o ok_q3 (mi_okL_o ok_q4 (mi_okL_o ok_q5 (mi_okL_o ok_q6 (mi_okL_o ok_q7 (mi_okL_e))))))))) (mi_okS_e) (mi_al (ho.1) (mi_al (ho.2.1) (mi_al (ho.2.2.1) (mi_al (ho.2.2.2.1) (mi_al (ho.2.2.2.2) (mi_al_e)))))) (fun h1 W _ hst => kon h1 W)
set_option maxRecDepth 20000 in
theorem mp_ckF_3 (h : sm_H) (d : Nat) (zb zr : Int) (q3 q4 q5 q6 q7 : Option mi_V) : mi_path [(201, (8, 1, sb_201))] sx_sk h 21 [0, 0, 0] (d + 1, 201, 78, [some (.inr (.inr 109)), some (.inl (zb)), some (.inl (zr)), q3, q4, q5, q6, q7], [], [], []) = some ((d + 1, 201, 114, [some (.inr (.inr 109)), some (.inl (zb)), some (.inl (zr)), q3, q4, q5, q6, q7], [.inl (mi_a h 123 (Int.toNat zr)), .inl ((7 : Int)), .inl (zb), .inr (.inr 109)], [], []), [zr < (mi_f h 13963), 0 ≤ zr ∧ zr < 60, ((0 : Int)) < (mi_a h 122 (Int.toNat zr)), 0 ≤ zr ∧ zr < 60, (mi_a h 131 (Int.toNat zr)) ≠ ((0 : Int)), 0 ≤ zr ∧ zr < 60]) := rfl
theorem mi_tab_ckF_3 : ∀ e ∈ ([(201, (8, 1, sb_201))] : mi_T), sc_P e.1 = some e.2 := mi_tb mi_P201 (mi_tb_e)
set_option maxRecDepth 20000 in
theorem ms_ckF_3 {h : sm_H} {d : Nat} {Q : Option mi_V → sm_H → Prop} {zb zr : Int} {q3 q4 q5 q6 q7 : Option mi_V} (hS : ab_Sh sx_sk h) (ok_zb : mi_in zb) (ok_zr : mi_in zr) (ok_q3 : ∀ v, q3 = some v → mi_ok v) (ok_q4 : ∀ v, q4 = some v → mi_ok v) (ok_q5 : ∀ v, q5 = some v → mi_ok v) (ok_q6 : ∀ v, q6 = some v → mi_ok v) (ok_q7 : ∀ v, q7 = some v → mi_ok v) (ho : (zr < (mi_f h 13963)) ∧ (0 ≤ zr ∧ zr < 60) ∧ (((0 : Int)) < (mi_a h 122 (Int.toNat zr))) ∧ (0 ≤ zr ∧ zr < 60) ∧ ((mi_a h 131 (Int.toNat zr)) ≠ ((0 : Int))) ∧ (0 ≤ zr ∧ zr < 60)) (kon : ∀ h1, me_W [] h h1 → ∃ Q1, me_E (d + 0) 202 0 (mi_entry 5 [.inr (.inr 109), .inl (zb), .inl ((7 : Int)), .inl (mi_a h 123 (Int.toNat zr))]) [] h1 Q1 ∧ ∀ w h2, (∀ x, w = some x → mi_ok x) → Q1 w h2 → me_E (d + 1) 201 117 [some (.inr (.inr 109)), some (.inl (zb)), some (.inl (zr)), q3, q4, q5, q6, q7] (mi_back w []) h2 Q) : me_E (d + 1) 201 78 [some (.inr (.inr 109)), some (.inl (zb)), some (.inl (zr)), q3, q4, q5, q6, q7] [] h Q := me_seg (mp_ckF_3 h d zb zr q3 q4 q5 q6 q7) (mi_tab_ckF_3) hS (mi_okL_c (trivial) (mi_okL_c (ok_zb) (mi_okL_c (ok_zr) (mi_okL_o ok_q3 (mi_okL_o ok_q4 (mi_okL_o ok_q5 (mi_okL_o ok_q6 (mi_okL_o ok_q7 (mi_okL_e))))))))) (mi_okS_e) (mi_al (ho.1) (mi_al (ho.2.1) (mi_al (ho.2.2.1) (mi_al (ho.2.2.2.1) (mi_al (ho.2.2.2.2.1) (mi_al (ho.2.2.2.2.2) (mi_al_e))))))) (fun h1 W _ hst => let ⟨_, k1, k2⟩ := kon h1 W; me_call (M := (8, 1, sb_201)) (M' := (5, 1, sb_202)) rfl rfl rfl rfl (Nat.le_of_ble_eq_true rfl) (Nat.le_of_ble_eq_true rfl) W.1 k1 k2)
set_option maxRecDepth 20000 in
theorem mt_ckF {h : sm_H} {d : Nat} {Q : Option mi_V → sm_H → Prop} {zb zr : Int} {q3 q4 q5 q6 q7 : Option mi_V} (hS : ab_Sh sx_sk h) (ok_zb : mi_in zb) (ok_zr : mi_in zr) (ok_q3 : ∀ v, q3 = some v → mi_ok v) (ok_q4 : ∀ v, q4 = some v → mi_ok v) (ok_q5 : ∀ v, q5 = some v → mi_ok v) (ok_q6 : ∀ v, q6 = some v → mi_ok v) (ok_q7 : ∀ v, q7 = some v → mi_ok v) (k0 : (0 ≤ mi_f h 13963 ∧ mi_f h 13963 ≤ 60) → ((mi_f h 13963) ≤ zr) → (∀ h1, ab_Sh sx_sk h1 → ab_Fr [] h h1 → me_E (d + 1) 201 167 [some (.inr (.inr 109)), some (.inl (zb)), some (.inl ((0 : Int))), q3, q4, q5, q6, q7] [] h1 Q)) (k1 : (0 ≤ mi_f h 13963 ∧ mi_f h 13963 ≤ 60) → (zr < (mi_f h 13963)) → ((mi_a h 122 (Int.toNat zr)) ≤ ((0 : Int))) → ((0 ≤ zr ∧ zr < 60)) ∧ (∀ h1, ab_Sh sx_sk h1 → ab_Fr [] h h1 → me_E (d + 1) 201 118 [some (.inr (.inr 109)), some (.inl (zb)), some (.inl (zr)), q3, q4, q5, q6, q7] [] h1 Q)) (k2 : (0 ≤ mi_f h 13963 ∧ mi_f h 13963 ≤ 60) → (zr < (mi_f h 13963)) → (((0 : Int)) < (mi_a h 122 (Int.toNat zr))) → ((mi_a h 131 (Int.toNat zr)) = ((0 : Int))) → ((0 ≤ zr ∧ zr < 60)) ∧ (∀ h1, ab_Sh sx_sk h1 → ab_Fr [] h h1 → me_E (d + 1) 201 118 [some (.inr (.inr 109)), some (.inl (zb)), some (.inl (zr)), q3, q4, q5, q6, q7] [] h1 Q)) (k3 : (0 ≤ mi_f h 13963 ∧ mi_f h 13963 ≤ 60) → (zr < (mi_f h 13963)) → (((0 : Int)) < (mi_a h 122 (Int.toNat zr))) → ((mi_a h 131 (Int.toNat zr)) ≠ ((0 : Int))) → ((0 ≤ zr ∧ zr < 60)) ∧ (∀ h1, ab_Sh sx_sk h1 → ab_Fr [] h h1 → ∃ Q1, me_E (d + 0) 202 0 (mi_entry 5 [.inr (.inr 109), .inl (zb), .inl ((7 : Int)), .inl (mi_a h 123 (Int.toNat zr))]) [] h1 Q1 ∧ ∀ w h2, (∀ x, w = some x → mi_ok x) → Q1 w h2 → me_E (d + 1) 201 117 [some (.inr (.inr 109)), some (.inl (zb)), some (.inl (zr)), q3, q4, q5, q6, q7] (mi_back w []) h2 Q)) : me_E (d + 1) 201 78 [some (.inr (.inr 109)), some (.inl (zb)), some (.inl (zr)), q3, q4, q5, q6, q7] [] h Q := Or.elim (mi_em .ge (zr) ((mi_f h 13963))) (fun c0 => ms_ckF_0 hS ok_zb ok_zr ok_q3 ok_q4 ok_q5 ok_q6 ok_q7 (c0) (fun h1 W => (k0 (me_fb hS rfl) c0) h1 W.1 (W.2.2.2.2.2 _ rfl))) (fun c0 => Or.elim (mi_em .le ((mi_a h 122 (Int.toNat zr))) (((0 : Int)))) (fun c1 => ms_ckF_1 hS ok_zb ok_zr ok_q3 ok_q4 ok_q5 ok_q6 ok_q7 ⟨c0, (k1 (me_fb hS rfl) c0 c1).1, c1⟩ (fun h1 W => (k1 (me_fb hS rfl) c0 c1).2 h1 W.1 (W.2.2.2.2.2 _ rfl))) (fun c1 => Or.elim (mi_em .eq ((mi_a h 131 (Int.toNat zr))) (((0 : Int)))) (fun c2 => ms_ckF_2 hS ok_zb ok_zr ok_q3 ok_q4 ok_q5 ok_q6 ok_q7 ⟨c0, (k2 (me_fb hS rfl) c0 c1 c2).1, c1, (k2 (me_fb hS rfl) c0 c1 c2).1, c2⟩ (fun h1 W => (k2 (me_fb hS rfl) c0 c1 c2).2 h1 W.1 (W.2.2.2.2.2 _ rfl))) (fun c2 => ms_ckF_3 hS ok_zb ok_zr ok_q3 ok_q4 ok_q5 ok_q6 ok_q7 ⟨c0, (k3 (me_fb hS rfl) c0 c1 c2).1, c1, (k3 (me_fb hS rfl) c0 c1 c2).1, c2, (k3 (me_fb hS rfl) c0 c1 c2).1⟩ (fun h1 W => (k3 (me_fb hS rfl) c0 c1 c2).2 h1 W.1 (W.2.2.2.2.2 _ rfl)))))
set_option maxRecDepth 20000 in
theorem mp_ckG_0 (h : sm_H) (d : Nat) (zb zr zz : Int) (q3 q4 q5 q6 q7 : Option mi_V) : mi_path [(201, (8, 1, sb_201))] sx_sk h 1 [] (d + 1, 201, 117, [some (.inr (.inr 109)), some (.inl (zb)), some (.inl (zr)), q3, q4, q5, q6, q7], [.inl (zz)], [], []) = some ((d + 1, 201, 118, [some (.inr (.inr 109)), some (.inl (zz)), some (.inl (zr)), q3, q4, q5, q6, q7], [], [], []), []) := rfl
theorem mi_tab_ckG_0 : ∀ e ∈ ([(201, (8, 1, sb_201))] : mi_T), sc_P e.1 = some e.2 := mi_tb mi_P201 (mi_tb_e)
set_option maxRecDepth 20000 in
theorem ms_ckG_0 {h : sm_H} {d : Nat} {Q : Option mi_V → sm_H → Prop} {zb zr zz : Int} {q3 q4 q5 q6 q7 : Option mi_V} (hS : ab_Sh sx_sk h) (ok_zb : mi_in zb) (ok_zr : mi_in zr) (ok_zz : mi_in zz) (ok_q3 : ∀ v, q3 = some v → mi_ok v) (ok_q4 : ∀ v, q4 = some v → mi_ok v) (ok_q5 : ∀ v, q5 = some v → mi_ok v) (ok_q6 : ∀ v, q6 = some v → mi_ok v) (ok_q7 : ∀ v, q7 = some v → mi_ok v) (kon : ∀ h1, me_W [] h h1 → me_E (d + 1) 201 118 [some (.inr (.inr 109)), some (.inl (zz)), some (.inl (zr)), q3, q4, q5, q6, q7] [] h1 Q) : me_E (d + 1) 201 117 [some (.inr (.inr 109)), some (.inl (zb)), some (.inl (zr)), q3, q4, q5, q6, q7] [.inl (zz)] h Q := me_seg (mp_ckG_0 h d zb zr zz q3 q4 q5 q6 q7) (mi_tab_ckG_0) hS (mi_okL_c (trivial) (mi_okL_c (ok_zb) (mi_okL_c (ok_zr) (mi_okL_o ok_q3 (mi_okL_o ok_q4 (mi_okL_o ok_q5 (mi_okL_o ok_q6 (mi_okL_o ok_q7 (mi_okL_e))))))))) (mi_okS_cons (ok_zz) (mi_okS_e)) (mi_al_e) (fun h1 W _ hst => kon h1 W)
set_option maxRecDepth 20000 in
theorem mt_ckG {h : sm_H} {d : Nat} {Q : Option mi_V → sm_H → Prop} {zb zr zz : Int} {q3 q4 q5 q6 q7 : Option mi_V} (hS : ab_Sh sx_sk h) (ok_zb : mi_in zb) (ok_zr : mi_in zr) (ok_zz : mi_in zz) (ok_q3 : ∀ v, q3 = some v → mi_ok v) (ok_q4 : ∀ v, q4 = some v → mi_ok v) (ok_q5 : ∀ v, q5 = some v → mi_ok v) (ok_q6 : ∀ v, q6 = some v → mi_ok v) (ok_q7 : ∀ v, q7 = some v → mi_ok v) (k0 : (∀ h1, ab_Sh sx_sk h1 → ab_Fr [] h h1 → me_E (d + 1) 201 118 [some (.inr (.inr 109)), some (.inl (zz)), some (.inl (zr)), q3, q4, q5, q6, q7] [] h1 Q)) : me_E (d + 1) 201 117 [some (.inr (.inr 109)), some (.inl (zb)), some (.inl (zr)), q3, q4, q5, q6, q7] [.inl (zz)] h Q := ms_ckG_0 hS ok_zb ok_zr ok_zz ok_q3 ok_q4 ok_q5 ok_q6 ok_q7 (fun h1 W => (k0) h1 W.1 (W.2.2.2.2.2 _ rfl))
set_option maxRecDepth 20000 in
theorem mp_ckH_0 (h : sm_H) (d : Nat) (zb zr : Int) (q3 q4 q5 q6 q7 : Option mi_V) : mi_path [(201, (8, 1, sb_201))] sx_sk h 7 [1] (d + 1, 201, 118, [some (.inr (.inr 109)), some (.inl (zb)), some (.inl (zr)), q3, q4, q5, q6, q7], [], [], []) = some ((d + 1, 201, 78, [some (.inr (.inr 109)), some (.inl (zb)), some (.inl (zr + 1)), q3, q4, q5, q6, q7], [], [], []), [0 ≤ zr ∧ zr < 60, (mi_a h 122 (Int.toNat zr)) ≤ ((0 : Int)), -2147483648 ≤ zr + 1 ∧ zr + 1 ≤ 2147483647]) := rfl
theorem mi_tab_ckH_0 : ∀ e ∈ ([(201, (8, 1, sb_201))] : mi_T), sc_P e.1 = some e.2 := mi_tb mi_P201 (mi_tb_e)
set_option maxRecDepth 20000 in
theorem ms_ckH_0 {h : sm_H} {d : Nat} {Q : Option mi_V → sm_H → Prop} {zb zr : Int} {q3 q4 q5 q6 q7 : Option mi_V} (hS : ab_Sh sx_sk h) (ok_zb : mi_in zb) (ok_zr : mi_in zr) (ok_q3 : ∀ v, q3 = some v → mi_ok v) (ok_q4 : ∀ v, q4 = some v → mi_ok v) (ok_q5 : ∀ v, q5 = some v → mi_ok v) (ok_q6 : ∀ v, q6 = some v → mi_ok v) (ok_q7 : ∀ v, q7 = some v → mi_ok v) (ho : (0 ≤ zr ∧ zr < 60) ∧ ((mi_a h 122 (Int.toNat zr)) ≤ ((0 : Int))) ∧ (-2147483648 ≤ zr + 1 ∧ zr + 1 ≤ 2147483647)) (kon : ∀ h1, me_W [] h h1 → me_E (d + 1) 201 78 [some (.inr (.inr 109)), some (.inl (zb)), some (.inl (zr + 1)), q3, q4, q5, q6, q7] [] h1 Q) : me_E (d + 1) 201 118 [some (.inr (.inr 109)), some (.inl (zb)), some (.inl (zr)), q3, q4, q5, q6, q7] [] h Q := me_seg (mp_ckH_0 h d zb zr q3 q4 q5 q6 q7) (mi_tab_ckH_0) hS (mi_okL_c (trivial) (mi_okL_c (ok_zb) (mi_okL_c (ok_zr) (mi_okL_o ok_q3 (mi_okL_o ok_q4 (mi_okL_o ok_q5 (mi_okL_o ok_q6 (mi_okL_o ok_q7 (mi_okL_e))))))))) (mi_okS_e) (mi_al (ho.1) (mi_al (ho.2.1) (mi_al (ho.2.2) (mi_al_e)))) (fun h1 W _ hst => kon h1 W)
set_option maxRecDepth 20000 in
theorem mp_ckH_1 (h : sm_H) (d : Nat) (zb zr : Int) (q3 q4 q5 q6 q7 : Option mi_V) : mi_path [(201, (8, 1, sb_201))] sx_sk h 19 [0, 1] (d + 1, 201, 118, [some (.inr (.inr 109)), some (.inl (zb)), some (.inl (zr)), q3, q4, q5, q6, q7], [], [], []) = some ((d + 1, 201, 78, [some (.inr (.inr 109)), some (.inl (zb)), some (.inl (zr + 1)), q3, q4, q5, q6, q7], [], [], []), [0 ≤ zr ∧ zr < 60, ((0 : Int)) < (mi_a h 122 (Int.toNat zr)), 0 ≤ zr ∧ zr < 60, 0 ≤ zr ∧ zr < 60, ((lg_cmp ((mx_b h 134 (Int.toNat zr)) &&& (mx_b h 137 (Int.toNat zr))) (Int64.ofNat 0)).toInt) = ((0 : Int)), -2147483648 ≤ zr + 1 ∧ zr + 1 ≤ 2147483647]) := rfl
theorem mi_tab_ckH_1 : ∀ e ∈ ([(201, (8, 1, sb_201))] : mi_T), sc_P e.1 = some e.2 := mi_tb mi_P201 (mi_tb_e)
set_option maxRecDepth 20000 in
theorem ms_ckH_1 {h : sm_H} {d : Nat} {Q : Option mi_V → sm_H → Prop} {zb zr : Int} {q3 q4 q5 q6 q7 : Option mi_V} (hS : ab_Sh sx_sk h) (ok_zb : mi_in zb) (ok_zr : mi_in zr) (ok_q3 : ∀ v, q3 = some v → mi_ok v) (ok_q4 : ∀ v, q4 = some v → mi_ok v) (ok_q5 : ∀ v, q5 = some v → mi_ok v) (ok_q6 : ∀ v, q6 = some v → mi_ok v) (ok_q7 : ∀ v, q7 = some v → mi_ok v) (ho : (0 ≤ zr ∧ zr < 60) ∧ (((0 : Int)) < (mi_a h 122 (Int.toNat zr))) ∧ (0 ≤ zr ∧ zr < 60) ∧ (0 ≤ zr ∧ zr < 60) ∧ (((lg_cmp ((mx_b h 134 (Int.toNat zr)) &&& (mx_b h 137 (Int.toNat zr))) (Int64.ofNat 0)).toInt) = ((0 : Int))) ∧ (-2147483648 ≤ zr + 1 ∧ zr + 1 ≤ 2147483647)) (kon : ∀ h1, me_W [] h h1 → me_E (d + 1) 201 78 [some (.inr (.inr 109)), some (.inl (zb)), some (.inl (zr + 1)), q3, q4, q5, q6, q7] [] h1 Q) : me_E (d + 1) 201 118 [some (.inr (.inr 109)), some (.inl (zb)), some (.inl (zr)), q3, q4, q5, q6, q7] [] h Q := me_seg (mp_ckH_1 h d zb zr q3 q4 q5 q6 q7) (mi_tab_ckH_1) hS (mi_okL_c (trivial) (mi_okL_c (ok_zb) (mi_okL_c (ok_zr) (mi_okL_o ok_q3 (mi_okL_o ok_q4 (mi_okL_o ok_q5 (mi_okL_o ok_q6 (mi_okL_o ok_q7 (mi_okL_e))))))))) (mi_okS_e) (mi_al (ho.1) (mi_al (ho.2.1) (mi_al (ho.2.2.1) (mi_al (ho.2.2.2.1) (mi_al (ho.2.2.2.2.1) (mi_al (ho.2.2.2.2.2) (mi_al_e))))))) (fun h1 W _ hst => kon h1 W)
set_option maxRecDepth 20000 in
theorem mp_ckH_2 (h : sm_H) (d : Nat) (zb zr : Int) (q3 q4 q5 q6 q7 : Option mi_V) : mi_path [(201, (8, 1, sb_201))] sx_sk h 24 [0, 0] (d + 1, 201, 118, [some (.inr (.inr 109)), some (.inl (zb)), some (.inl (zr)), q3, q4, q5, q6, q7], [], [], []) = some ((d + 1, 201, 155, [some (.inr (.inr 109)), some (.inl (zb)), some (.inl (zr)), q3, q4, q5, q6, q7], [.inl (mi_a h 123 (Int.toNat zr)), .inl ((9 : Int)), .inl (zb), .inr (.inr 109)], [], []), [0 ≤ zr ∧ zr < 60, ((0 : Int)) < (mi_a h 122 (Int.toNat zr)), 0 ≤ zr ∧ zr < 60, 0 ≤ zr ∧ zr < 60, ((lg_cmp ((mx_b h 134 (Int.toNat zr)) &&& (mx_b h 137 (Int.toNat zr))) (Int64.ofNat 0)).toInt) ≠ ((0 : Int)), 0 ≤ zr ∧ zr < 60]) := rfl
theorem mi_tab_ckH_2 : ∀ e ∈ ([(201, (8, 1, sb_201))] : mi_T), sc_P e.1 = some e.2 := mi_tb mi_P201 (mi_tb_e)
set_option maxRecDepth 20000 in
theorem ms_ckH_2 {h : sm_H} {d : Nat} {Q : Option mi_V → sm_H → Prop} {zb zr : Int} {q3 q4 q5 q6 q7 : Option mi_V} (hS : ab_Sh sx_sk h) (ok_zb : mi_in zb) (ok_zr : mi_in zr) (ok_q3 : ∀ v, q3 = some v → mi_ok v) (ok_q4 : ∀ v, q4 = some v → mi_ok v) (ok_q5 : ∀ v, q5 = some v → mi_ok v) (ok_q6 : ∀ v, q6 = some v → mi_ok v) (ok_q7 : ∀ v, q7 = some v → mi_ok v) (ho : (0 ≤ zr ∧ zr < 60) ∧ (((0 : Int)) < (mi_a h 122 (Int.toNat zr))) ∧ (0 ≤ zr ∧ zr < 60) ∧ (0 ≤ zr ∧ zr < 60) ∧ (((lg_cmp ((mx_b h 134 (Int.toNat zr)) &&& (mx_b h 137 (Int.toNat zr))) (Int64.ofNat 0)).toInt) ≠ ((0 : Int))) ∧ (0 ≤ zr ∧ zr < 60)) (kon : ∀ h1, me_W [] h h1 → ∃ Q1, me_E (d + 0) 202 0 (mi_entry 5 [.inr (.inr 109), .inl (zb), .inl ((9 : Int)), .inl (mi_a h 123 (Int.toNat zr))]) [] h1 Q1 ∧ ∀ w h2, (∀ x, w = some x → mi_ok x) → Q1 w h2 → me_E (d + 1) 201 158 [some (.inr (.inr 109)), some (.inl (zb)), some (.inl (zr)), q3, q4, q5, q6, q7] (mi_back w []) h2 Q) : me_E (d + 1) 201 118 [some (.inr (.inr 109)), some (.inl (zb)), some (.inl (zr)), q3, q4, q5, q6, q7] [] h Q := me_seg (mp_ckH_2 h d zb zr q3 q4 q5 q6 q7) (mi_tab_ckH_2) hS (mi_okL_c (trivial) (mi_okL_c (ok_zb) (mi_okL_c (ok_zr) (mi_okL_o ok_q3 (mi_okL_o ok_q4 (mi_okL_o ok_q5 (mi_okL_o ok_q6 (mi_okL_o ok_q7 (mi_okL_e))))))))) (mi_okS_e) (mi_al (ho.1) (mi_al (ho.2.1) (mi_al (ho.2.2.1) (mi_al (ho.2.2.2.1) (mi_al (ho.2.2.2.2.1) (mi_al (ho.2.2.2.2.2) (mi_al_e))))))) (fun h1 W _ hst => let ⟨_, k1, k2⟩ := kon h1 W; me_call (M := (8, 1, sb_201)) (M' := (5, 1, sb_202)) rfl rfl rfl rfl (Nat.le_of_ble_eq_true rfl) (Nat.le_of_ble_eq_true rfl) W.1 k1 k2)
set_option maxRecDepth 20000 in
theorem mt_ckH {h : sm_H} {d : Nat} {Q : Option mi_V → sm_H → Prop} {zb zr : Int} {q3 q4 q5 q6 q7 : Option mi_V} (hS : ab_Sh sx_sk h) (ok_zb : mi_in zb) (ok_zr : mi_in zr) (ok_q3 : ∀ v, q3 = some v → mi_ok v) (ok_q4 : ∀ v, q4 = some v → mi_ok v) (ok_q5 : ∀ v, q5 = some v → mi_ok v) (ok_q6 : ∀ v, q6 = some v → mi_ok v) (ok_q7 : ∀ v, q7 = some v → mi_ok v) (k0 : ((mi_a h 122 (Int.toNat zr)) ≤ ((0 : Int))) → ((0 ≤ zr ∧ zr < 60) ∧ (-2147483648 ≤ zr + 1 ∧ zr + 1 ≤ 2147483647)) ∧ (∀ h1, ab_Sh sx_sk h1 → ab_Fr [] h h1 → me_E (d + 1) 201 78 [some (.inr (.inr 109)), some (.inl (zb)), some (.inl (zr + 1)), q3, q4, q5, q6, q7] [] h1 Q)) (k1 : (((0 : Int)) < (mi_a h 122 (Int.toNat zr))) → (((lg_cmp ((mx_b h 134 (Int.toNat zr)) &&& (mx_b h 137 (Int.toNat zr))) (Int64.ofNat 0)).toInt) = ((0 : Int))) → ((0 ≤ zr ∧ zr < 60) ∧ (-2147483648 ≤ zr + 1 ∧ zr + 1 ≤ 2147483647)) ∧ (∀ h1, ab_Sh sx_sk h1 → ab_Fr [] h h1 → me_E (d + 1) 201 78 [some (.inr (.inr 109)), some (.inl (zb)), some (.inl (zr + 1)), q3, q4, q5, q6, q7] [] h1 Q)) (k2 : (((0 : Int)) < (mi_a h 122 (Int.toNat zr))) → (((lg_cmp ((mx_b h 134 (Int.toNat zr)) &&& (mx_b h 137 (Int.toNat zr))) (Int64.ofNat 0)).toInt) ≠ ((0 : Int))) → ((0 ≤ zr ∧ zr < 60)) ∧ (∀ h1, ab_Sh sx_sk h1 → ab_Fr [] h h1 → ∃ Q1, me_E (d + 0) 202 0 (mi_entry 5 [.inr (.inr 109), .inl (zb), .inl ((9 : Int)), .inl (mi_a h 123 (Int.toNat zr))]) [] h1 Q1 ∧ ∀ w h2, (∀ x, w = some x → mi_ok x) → Q1 w h2 → me_E (d + 1) 201 158 [some (.inr (.inr 109)), some (.inl (zb)), some (.inl (zr)), q3, q4, q5, q6, q7] (mi_back w []) h2 Q)) : me_E (d + 1) 201 118 [some (.inr (.inr 109)), some (.inl (zb)), some (.inl (zr)), q3, q4, q5, q6, q7] [] h Q := Or.elim (mi_em .le ((mi_a h 122 (Int.toNat zr))) (((0 : Int)))) (fun c0 => ms_ckH_0 hS ok_zb ok_zr ok_q3 ok_q4 ok_q5 ok_q6 ok_q7 ⟨(k0 c0).1.1, c0, (k0 c0).1.2⟩ (fun h1 W => (k0 c0).2 h1 W.1 (W.2.2.2.2.2 _ rfl))) (fun c0 => Or.elim (mi_em .eq (((lg_cmp ((mx_b h 134 (Int.toNat zr)) &&& (mx_b h 137 (Int.toNat zr))) (Int64.ofNat 0)).toInt)) (((0 : Int)))) (fun c1 => ms_ckH_1 hS ok_zb ok_zr ok_q3 ok_q4 ok_q5 ok_q6 ok_q7 ⟨(k1 c0 c1).1.1, c0, (k1 c0 c1).1.1, (k1 c0 c1).1.1, c1, (k1 c0 c1).1.2⟩ (fun h1 W => (k1 c0 c1).2 h1 W.1 (W.2.2.2.2.2 _ rfl))) (fun c1 => ms_ckH_2 hS ok_zb ok_zr ok_q3 ok_q4 ok_q5 ok_q6 ok_q7 ⟨(k2 c0 c1).1, c0, (k2 c0 c1).1, (k2 c0 c1).1, c1, (k2 c0 c1).1⟩ (fun h1 W => (k2 c0 c1).2 h1 W.1 (W.2.2.2.2.2 _ rfl))))
set_option maxRecDepth 20000 in
theorem mp_ckI_0 (h : sm_H) (d : Nat) (zb zr zz : Int) (q3 q4 q5 q6 q7 : Option mi_V) : mi_path [(201, (8, 1, sb_201))] sx_sk h 3 [] (d + 1, 201, 158, [some (.inr (.inr 109)), some (.inl (zb)), some (.inl (zr)), q3, q4, q5, q6, q7], [.inl (zz)], [], []) = some ((d + 1, 201, 78, [some (.inr (.inr 109)), some (.inl (zz)), some (.inl (zr + 1)), q3, q4, q5, q6, q7], [], [], []), [-2147483648 ≤ zr + 1 ∧ zr + 1 ≤ 2147483647]) := rfl
theorem mi_tab_ckI_0 : ∀ e ∈ ([(201, (8, 1, sb_201))] : mi_T), sc_P e.1 = some e.2 := mi_tb mi_P201 (mi_tb_e)
set_option maxRecDepth 20000 in
theorem ms_ckI_0 {h : sm_H} {d : Nat} {Q : Option mi_V → sm_H → Prop} {zb zr zz : Int} {q3 q4 q5 q6 q7 : Option mi_V} (hS : ab_Sh sx_sk h) (ok_zb : mi_in zb) (ok_zr : mi_in zr) (ok_zz : mi_in zz) (ok_q3 : ∀ v, q3 = some v → mi_ok v) (ok_q4 : ∀ v, q4 = some v → mi_ok v) (ok_q5 : ∀ v, q5 = some v → mi_ok v) (ok_q6 : ∀ v, q6 = some v → mi_ok v) (ok_q7 : ∀ v, q7 = some v → mi_ok v) (ho : (-2147483648 ≤ zr + 1 ∧ zr + 1 ≤ 2147483647)) (kon : ∀ h1, me_W [] h h1 → me_E (d + 1) 201 78 [some (.inr (.inr 109)), some (.inl (zz)), some (.inl (zr + 1)), q3, q4, q5, q6, q7] [] h1 Q) : me_E (d + 1) 201 158 [some (.inr (.inr 109)), some (.inl (zb)), some (.inl (zr)), q3, q4, q5, q6, q7] [.inl (zz)] h Q := me_seg (mp_ckI_0 h d zb zr zz q3 q4 q5 q6 q7) (mi_tab_ckI_0) hS (mi_okL_c (trivial) (mi_okL_c (ok_zb) (mi_okL_c (ok_zr) (mi_okL_o ok_q3 (mi_okL_o ok_q4 (mi_okL_o ok_q5 (mi_okL_o ok_q6 (mi_okL_o ok_q7 (mi_okL_e))))))))) (mi_okS_cons (ok_zz) (mi_okS_e)) (mi_al (ho) (mi_al_e)) (fun h1 W _ hst => kon h1 W)
set_option maxRecDepth 20000 in
theorem mt_ckI {h : sm_H} {d : Nat} {Q : Option mi_V → sm_H → Prop} {zb zr zz : Int} {q3 q4 q5 q6 q7 : Option mi_V} (hS : ab_Sh sx_sk h) (ok_zb : mi_in zb) (ok_zr : mi_in zr) (ok_zz : mi_in zz) (ok_q3 : ∀ v, q3 = some v → mi_ok v) (ok_q4 : ∀ v, q4 = some v → mi_ok v) (ok_q5 : ∀ v, q5 = some v → mi_ok v) (ok_q6 : ∀ v, q6 = some v → mi_ok v) (ok_q7 : ∀ v, q7 = some v → mi_ok v) (k0 : ((-2147483648 ≤ zr + 1 ∧ zr + 1 ≤ 2147483647)) ∧ (∀ h1, ab_Sh sx_sk h1 → ab_Fr [] h h1 → me_E (d + 1) 201 78 [some (.inr (.inr 109)), some (.inl (zz)), some (.inl (zr + 1)), q3, q4, q5, q6, q7] [] h1 Q)) : me_E (d + 1) 201 158 [some (.inr (.inr 109)), some (.inl (zb)), some (.inl (zr)), q3, q4, q5, q6, q7] [.inl (zz)] h Q := ms_ckI_0 hS ok_zb ok_zr ok_zz ok_q3 ok_q4 ok_q5 ok_q6 ok_q7 ((k0).1) (fun h1 W => (k0).2 h1 W.1 (W.2.2.2.2.2 _ rfl))
set_option maxRecDepth 20000 in
theorem mp_ckJ_0 (h : sm_H) (d : Nat) (zb zr : Int) (q3 q4 q5 q6 q7 : Option mi_V) : mi_path [(201, (8, 1, sb_201))] sx_sk h 5 [1] (d + 1, 201, 167, [some (.inr (.inr 109)), some (.inl (zb)), some (.inl (zr)), q3, q4, q5, q6, q7], [], [], []) = some ((d + 1, 201, 247, [some (.inr (.inr 109)), some (.inl (zb)), some (.inl (zr)), q3, q4, q5, q6, q7], [.inl (zb)], [], []), [(mi_f h 13965) ≤ zr]) := rfl
theorem mi_tab_ckJ_0 : ∀ e ∈ ([(201, (8, 1, sb_201))] : mi_T), sc_P e.1 = some e.2 := mi_tb mi_P201 (mi_tb_e)
set_option maxRecDepth 20000 in
theorem ms_ckJ_0 {h : sm_H} {d : Nat} {Q : Option mi_V → sm_H → Prop} {zb zr : Int} {q3 q4 q5 q6 q7 : Option mi_V} (hS : ab_Sh sx_sk h) (ok_zb : mi_in zb) (ok_zr : mi_in zr) (ok_q3 : ∀ v, q3 = some v → mi_ok v) (ok_q4 : ∀ v, q4 = some v → mi_ok v) (ok_q5 : ∀ v, q5 = some v → mi_ok v) (ok_q6 : ∀ v, q6 = some v → mi_ok v) (ok_q7 : ∀ v, q7 = some v → mi_ok v) (ho : ((mi_f h 13965) ≤ zr)) (kon : ∀ h1, me_W [] h h1 → Q (some (.inl (zb))) h1) : me_E (d + 1) 201 167 [some (.inr (.inr 109)), some (.inl (zb)), some (.inl (zr)), q3, q4, q5, q6, q7] [] h Q := me_seg (mp_ckJ_0 h d zb zr q3 q4 q5 q6 q7) (mi_tab_ckJ_0) hS (mi_okL_c (trivial) (mi_okL_c (ok_zb) (mi_okL_c (ok_zr) (mi_okL_o ok_q3 (mi_okL_o ok_q4 (mi_okL_o ok_q5 (mi_okL_o ok_q6 (mi_okL_o ok_q7 (mi_okL_e))))))))) (mi_okS_e) (mi_al (ho) (mi_al_e)) (fun h1 W _ hst => me_ret (M := (8, 1, sb_201)) rfl rfl rfl hst (mi_al_e) (kon h1 W))
set_option maxRecDepth 20000 in
theorem mp_ckJ_1 (h : sm_H) (d : Nat) (zb zr : Int) (q3 q4 q5 q6 q7 : Option mi_V) : mi_path [(201, (8, 1, sb_201))] sx_sk h 11 [0] (d + 1, 201, 167, [some (.inr (.inr 109)), some (.inl (zb)), some (.inl (zr)), q3, q4, q5, q6, q7], [], [], []) = some ((d + 1, 201, 185, [some (.inr (.inr 109)), some (.inl (zb)), some (.inl (zr)), some (.inr (.inl (Int64.ofNat 0))), none, some (.inl (mi_a h 129 (Int.toNat zr))), q6, q7], [], [], []), [zr < (mi_f h 13965), 0 ≤ zr ∧ zr < 80]) := rfl
theorem mi_tab_ckJ_1 : ∀ e ∈ ([(201, (8, 1, sb_201))] : mi_T), sc_P e.1 = some e.2 := mi_tb mi_P201 (mi_tb_e)
set_option maxRecDepth 20000 in
theorem ms_ckJ_1 {h : sm_H} {d : Nat} {Q : Option mi_V → sm_H → Prop} {zb zr : Int} {q3 q4 q5 q6 q7 : Option mi_V} (hS : ab_Sh sx_sk h) (ok_zb : mi_in zb) (ok_zr : mi_in zr) (ok_q3 : ∀ v, q3 = some v → mi_ok v) (ok_q4 : ∀ v, q4 = some v → mi_ok v) (ok_q5 : ∀ v, q5 = some v → mi_ok v) (ok_q6 : ∀ v, q6 = some v → mi_ok v) (ok_q7 : ∀ v, q7 = some v → mi_ok v) (ho : (zr < (mi_f h 13965)) ∧ (0 ≤ zr ∧ zr < 80)) (kon : ∀ h1, me_W [] h h1 → me_E (d + 1) 201 185 [some (.inr (.inr 109)), some (.inl (zb)), some (.inl (zr)), some (.inr (.inl (Int64.ofNat 0))), none, some (.inl (mi_a h 129 (Int.toNat zr))), q6, q7] [] h1 Q) : me_E (d + 1) 201 167 [some (.inr (.inr 109)), some (.inl (zb)), some (.inl (zr)), q3, q4, q5, q6, q7] [] h Q := me_seg (mp_ckJ_1 h d zb zr q3 q4 q5 q6 q7) (mi_tab_ckJ_1) hS (mi_okL_c (trivial) (mi_okL_c (ok_zb) (mi_okL_c (ok_zr) (mi_okL_o ok_q3 (mi_okL_o ok_q4 (mi_okL_o ok_q5 (mi_okL_o ok_q6 (mi_okL_o ok_q7 (mi_okL_e))))))))) (mi_okS_e) (mi_al (ho.1) (mi_al (ho.2) (mi_al_e))) (fun h1 W _ hst => kon h1 W)
set_option maxRecDepth 20000 in
theorem mt_ckJ {h : sm_H} {d : Nat} {Q : Option mi_V → sm_H → Prop} {zb zr : Int} {q3 q4 q5 q6 q7 : Option mi_V} (hS : ab_Sh sx_sk h) (ok_zb : mi_in zb) (ok_zr : mi_in zr) (ok_q3 : ∀ v, q3 = some v → mi_ok v) (ok_q4 : ∀ v, q4 = some v → mi_ok v) (ok_q5 : ∀ v, q5 = some v → mi_ok v) (ok_q6 : ∀ v, q6 = some v → mi_ok v) (ok_q7 : ∀ v, q7 = some v → mi_ok v) (k0 : (0 ≤ mi_f h 13965 ∧ mi_f h 13965 ≤ 80) → ((mi_f h 13965) ≤ zr) → (∀ h1, ab_Sh sx_sk h1 → ab_Fr [] h h1 → Q (some (.inl (zb))) h1)) (k1 : (0 ≤ mi_f h 13965 ∧ mi_f h 13965 ≤ 80) → (zr < (mi_f h 13965)) → ((0 ≤ zr ∧ zr < 80)) ∧ (∀ h1, ab_Sh sx_sk h1 → ab_Fr [] h h1 → me_E (d + 1) 201 185 [some (.inr (.inr 109)), some (.inl (zb)), some (.inl (zr)), some (.inr (.inl (Int64.ofNat 0))), none, some (.inl (mi_a h 129 (Int.toNat zr))), q6, q7] [] h1 Q)) : me_E (d + 1) 201 167 [some (.inr (.inr 109)), some (.inl (zb)), some (.inl (zr)), q3, q4, q5, q6, q7] [] h Q := Or.elim (mi_em .ge (zr) ((mi_f h 13965))) (fun c0 => ms_ckJ_0 hS ok_zb ok_zr ok_q3 ok_q4 ok_q5 ok_q6 ok_q7 (c0) (fun h1 W => (k0 (me_fb hS rfl) c0) h1 W.1 (W.2.2.2.2.2 _ rfl))) (fun c0 => ms_ckJ_1 hS ok_zb ok_zr ok_q3 ok_q4 ok_q5 ok_q6 ok_q7 ⟨c0, (k1 (me_fb hS rfl) c0).1⟩ (fun h1 W => (k1 (me_fb hS rfl) c0).2 h1 W.1 (W.2.2.2.2.2 _ rfl)))
set_option maxRecDepth 20000 in
theorem mp_ckK_0 (h : sm_H) (d : Nat) (zb zr za : Int) (zx : Int64) (q6 q7 : Option mi_V) : mi_path [(201, (8, 1, sb_201))] sx_sk h 4 [1] (d + 1, 201, 185, [some (.inr (.inr 109)), some (.inl (zb)), some (.inl (zr)), some (.inr (.inl (zx))), none, some (.inl (za)), q6, q7], [], [], []) = some ((d + 1, 201, 167, [some (.inr (.inr 109)), some (.inl (zb)), some (.inl (zr + 1)), some (.inr (.inl (zx))), none, some (.inl (za)), q6, q7], [], [], []), [za < ((0 : Int)), -2147483648 ≤ zr + 1 ∧ zr + 1 ≤ 2147483647]) := rfl
theorem mi_tab_ckK_0 : ∀ e ∈ ([(201, (8, 1, sb_201))] : mi_T), sc_P e.1 = some e.2 := mi_tb mi_P201 (mi_tb_e)
set_option maxRecDepth 20000 in
theorem ms_ckK_0 {h : sm_H} {d : Nat} {Q : Option mi_V → sm_H → Prop} {zb zr za : Int} {zx : Int64} {q6 q7 : Option mi_V} (hS : ab_Sh sx_sk h) (ok_zb : mi_in zb) (ok_zr : mi_in zr) (ok_za : mi_in za) (ok_q6 : ∀ v, q6 = some v → mi_ok v) (ok_q7 : ∀ v, q7 = some v → mi_ok v) (ho : (za < ((0 : Int))) ∧ (-2147483648 ≤ zr + 1 ∧ zr + 1 ≤ 2147483647)) (kon : ∀ h1, me_W [] h h1 → me_E (d + 1) 201 167 [some (.inr (.inr 109)), some (.inl (zb)), some (.inl (zr + 1)), some (.inr (.inl (zx))), none, some (.inl (za)), q6, q7] [] h1 Q) : me_E (d + 1) 201 185 [some (.inr (.inr 109)), some (.inl (zb)), some (.inl (zr)), some (.inr (.inl (zx))), none, some (.inl (za)), q6, q7] [] h Q := me_seg (mp_ckK_0 h d zb zr za zx q6 q7) (mi_tab_ckK_0) hS (mi_okL_c (trivial) (mi_okL_c (ok_zb) (mi_okL_c (ok_zr) (mi_okL_c (trivial) (mi_okL_n (mi_okL_c (ok_za) (mi_okL_o ok_q6 (mi_okL_o ok_q7 (mi_okL_e))))))))) (mi_okS_e) (mi_al (ho.1) (mi_al (ho.2) (mi_al_e))) (fun h1 W _ hst => kon h1 W)
set_option maxRecDepth 20000 in
theorem mp_ckK_1 (h : sm_H) (d : Nat) (zb zr za : Int) (zx : Int64) (q6 q7 : Option mi_V) : mi_path [(201, (8, 1, sb_201))] sx_sk h 5 [0] (d + 1, 201, 185, [some (.inr (.inr 109)), some (.inl (zb)), some (.inl (zr)), some (.inr (.inl (zx))), none, some (.inl (za)), q6, q7], [], [], []) = some ((d + 1, 201, 194, [some (.inr (.inr 109)), some (.inl (zb)), some (.inl (zr)), some (.inr (.inl (zx))), none, some (.inl (za)), q6, q7], [.inl (za), .inl (zr), .inr (.inr 109)], [], []), [((0 : Int)) ≤ za]) := rfl
theorem mi_tab_ckK_1 : ∀ e ∈ ([(201, (8, 1, sb_201))] : mi_T), sc_P e.1 = some e.2 := mi_tb mi_P201 (mi_tb_e)
set_option maxRecDepth 20000 in
theorem ms_ckK_1 {h : sm_H} {d : Nat} {Q : Option mi_V → sm_H → Prop} {zb zr za : Int} {zx : Int64} {q6 q7 : Option mi_V} (hS : ab_Sh sx_sk h) (ok_zb : mi_in zb) (ok_zr : mi_in zr) (ok_za : mi_in za) (ok_q6 : ∀ v, q6 = some v → mi_ok v) (ok_q7 : ∀ v, q7 = some v → mi_ok v) (ho : (((0 : Int)) ≤ za)) (kon : ∀ h1, me_W [] h h1 → ∃ Q1, me_E (d + 0) 203 0 (mi_entry 3 [.inr (.inr 109), .inl (zr), .inl (za)]) [] h1 Q1 ∧ ∀ w h2, (∀ x, w = some x → mi_ok x) → Q1 w h2 → me_E (d + 1) 201 197 [some (.inr (.inr 109)), some (.inl (zb)), some (.inl (zr)), some (.inr (.inl (zx))), none, some (.inl (za)), q6, q7] (mi_back w []) h2 Q) : me_E (d + 1) 201 185 [some (.inr (.inr 109)), some (.inl (zb)), some (.inl (zr)), some (.inr (.inl (zx))), none, some (.inl (za)), q6, q7] [] h Q := me_seg (mp_ckK_1 h d zb zr za zx q6 q7) (mi_tab_ckK_1) hS (mi_okL_c (trivial) (mi_okL_c (ok_zb) (mi_okL_c (ok_zr) (mi_okL_c (trivial) (mi_okL_n (mi_okL_c (ok_za) (mi_okL_o ok_q6 (mi_okL_o ok_q7 (mi_okL_e))))))))) (mi_okS_e) (mi_al (ho) (mi_al_e)) (fun h1 W _ hst => let ⟨_, k1, k2⟩ := kon h1 W; me_call (M := (8, 1, sb_201)) (M' := (3, 2, sb_203)) rfl rfl rfl rfl (Nat.le_of_ble_eq_true rfl) (Nat.le_of_ble_eq_true rfl) W.1 k1 k2)
set_option maxRecDepth 20000 in
theorem mt_ckK {h : sm_H} {d : Nat} {Q : Option mi_V → sm_H → Prop} {zb zr za : Int} {zx : Int64} {q6 q7 : Option mi_V} (hS : ab_Sh sx_sk h) (ok_zb : mi_in zb) (ok_zr : mi_in zr) (ok_za : mi_in za) (ok_q6 : ∀ v, q6 = some v → mi_ok v) (ok_q7 : ∀ v, q7 = some v → mi_ok v) (k0 : (za < ((0 : Int))) → ((-2147483648 ≤ zr + 1 ∧ zr + 1 ≤ 2147483647)) ∧ (∀ h1, ab_Sh sx_sk h1 → ab_Fr [] h h1 → me_E (d + 1) 201 167 [some (.inr (.inr 109)), some (.inl (zb)), some (.inl (zr + 1)), some (.inr (.inl (zx))), none, some (.inl (za)), q6, q7] [] h1 Q)) (k1 : (((0 : Int)) ≤ za) → (∀ h1, ab_Sh sx_sk h1 → ab_Fr [] h h1 → ∃ Q1, me_E (d + 0) 203 0 (mi_entry 3 [.inr (.inr 109), .inl (zr), .inl (za)]) [] h1 Q1 ∧ ∀ w h2, (∀ x, w = some x → mi_ok x) → Q1 w h2 → me_E (d + 1) 201 197 [some (.inr (.inr 109)), some (.inl (zb)), some (.inl (zr)), some (.inr (.inl (zx))), none, some (.inl (za)), q6, q7] (mi_back w []) h2 Q)) : me_E (d + 1) 201 185 [some (.inr (.inr 109)), some (.inl (zb)), some (.inl (zr)), some (.inr (.inl (zx))), none, some (.inl (za)), q6, q7] [] h Q := Or.elim (mi_em .lt (za) (((0 : Int)))) (fun c0 => ms_ckK_0 hS ok_zb ok_zr ok_za ok_q6 ok_q7 ⟨c0, (k0 c0).1⟩ (fun h1 W => (k0 c0).2 h1 W.1 (W.2.2.2.2.2 _ rfl))) (fun c0 => ms_ckK_1 hS ok_zb ok_zr ok_za ok_q6 ok_q7 (c0) (fun h1 W => (k1 c0) h1 W.1 (W.2.2.2.2.2 _ rfl)))
set_option maxRecDepth 20000 in
theorem mp_ckL_0 (h : sm_H) (d : Nat) (zb zr za : Int) (zx zz : Int64) (q6 q7 : Option mi_V) : mi_path [(201, (8, 1, sb_201))] sx_sk h 7 [1] (d + 1, 201, 197, [some (.inr (.inr 109)), some (.inl (zb)), some (.inl (zr)), some (.inr (.inl (zx))), none, some (.inl (za)), q6, q7], [.inr (.inl (zz))], [], []) = some ((d + 1, 201, 223, [some (.inr (.inr 109)), some (.inl (zb)), some (.inl (zr)), some (.inr (.inl (zx))), none, some (.inl (za)), some (.inr (.inl (zz))), none], [], [], []), [((lg_cmp (zx &&& zz) (Int64.ofNat 0)).toInt) = ((0 : Int))]) := rfl
theorem mi_tab_ckL_0 : ∀ e ∈ ([(201, (8, 1, sb_201))] : mi_T), sc_P e.1 = some e.2 := mi_tb mi_P201 (mi_tb_e)
set_option maxRecDepth 20000 in
theorem ms_ckL_0 {h : sm_H} {d : Nat} {Q : Option mi_V → sm_H → Prop} {zb zr za : Int} {zx zz : Int64} {q6 q7 : Option mi_V} (hS : ab_Sh sx_sk h) (ok_zb : mi_in zb) (ok_zr : mi_in zr) (ok_za : mi_in za) (ok_q6 : ∀ v, q6 = some v → mi_ok v) (ok_q7 : ∀ v, q7 = some v → mi_ok v) (ho : (((lg_cmp (zx &&& zz) (Int64.ofNat 0)).toInt) = ((0 : Int)))) (kon : ∀ h1, me_W [] h h1 → me_E (d + 1) 201 223 [some (.inr (.inr 109)), some (.inl (zb)), some (.inl (zr)), some (.inr (.inl (zx))), none, some (.inl (za)), some (.inr (.inl (zz))), none] [] h1 Q) : me_E (d + 1) 201 197 [some (.inr (.inr 109)), some (.inl (zb)), some (.inl (zr)), some (.inr (.inl (zx))), none, some (.inl (za)), q6, q7] [.inr (.inl (zz))] h Q := me_seg (mp_ckL_0 h d zb zr za zx zz q6 q7) (mi_tab_ckL_0) hS (mi_okL_c (trivial) (mi_okL_c (ok_zb) (mi_okL_c (ok_zr) (mi_okL_c (trivial) (mi_okL_n (mi_okL_c (ok_za) (mi_okL_o ok_q6 (mi_okL_o ok_q7 (mi_okL_e))))))))) (mi_okS_cons (trivial) (mi_okS_e)) (mi_al (ho) (mi_al_e)) (fun h1 W _ hst => kon h1 W)
set_option maxRecDepth 20000 in
theorem mp_ckL_1 (h : sm_H) (d : Nat) (zb zr za : Int) (zx zz : Int64) (q6 q7 : Option mi_V) : mi_path [(201, (8, 1, sb_201))] sx_sk h 14 [0] (d + 1, 201, 197, [some (.inr (.inr 109)), some (.inl (zb)), some (.inl (zr)), some (.inr (.inl (zx))), none, some (.inl (za)), q6, q7], [.inr (.inl (zz))], [], []) = some ((d + 1, 201, 219, [some (.inr (.inr 109)), some (.inl (zb)), some (.inl (zr)), some (.inr (.inl (zx))), none, some (.inl (za)), some (.inr (.inl (zz))), none], [.inl (mi_a h 127 (Int.toNat za)), .inl ((8 : Int)), .inl (zb), .inr (.inr 109)], [], []), [((lg_cmp (zx &&& zz) (Int64.ofNat 0)).toInt) ≠ ((0 : Int)), 0 ≤ za ∧ za < 80]) := rfl
theorem mi_tab_ckL_1 : ∀ e ∈ ([(201, (8, 1, sb_201))] : mi_T), sc_P e.1 = some e.2 := mi_tb mi_P201 (mi_tb_e)
set_option maxRecDepth 20000 in
theorem ms_ckL_1 {h : sm_H} {d : Nat} {Q : Option mi_V → sm_H → Prop} {zb zr za : Int} {zx zz : Int64} {q6 q7 : Option mi_V} (hS : ab_Sh sx_sk h) (ok_zb : mi_in zb) (ok_zr : mi_in zr) (ok_za : mi_in za) (ok_q6 : ∀ v, q6 = some v → mi_ok v) (ok_q7 : ∀ v, q7 = some v → mi_ok v) (ho : (((lg_cmp (zx &&& zz) (Int64.ofNat 0)).toInt) ≠ ((0 : Int))) ∧ (0 ≤ za ∧ za < 80)) (kon : ∀ h1, me_W [] h h1 → ∃ Q1, me_E (d + 0) 202 0 (mi_entry 5 [.inr (.inr 109), .inl (zb), .inl ((8 : Int)), .inl (mi_a h 127 (Int.toNat za))]) [] h1 Q1 ∧ ∀ w h2, (∀ x, w = some x → mi_ok x) → Q1 w h2 → me_E (d + 1) 201 222 [some (.inr (.inr 109)), some (.inl (zb)), some (.inl (zr)), some (.inr (.inl (zx))), none, some (.inl (za)), some (.inr (.inl (zz))), none] (mi_back w []) h2 Q) : me_E (d + 1) 201 197 [some (.inr (.inr 109)), some (.inl (zb)), some (.inl (zr)), some (.inr (.inl (zx))), none, some (.inl (za)), q6, q7] [.inr (.inl (zz))] h Q := me_seg (mp_ckL_1 h d zb zr za zx zz q6 q7) (mi_tab_ckL_1) hS (mi_okL_c (trivial) (mi_okL_c (ok_zb) (mi_okL_c (ok_zr) (mi_okL_c (trivial) (mi_okL_n (mi_okL_c (ok_za) (mi_okL_o ok_q6 (mi_okL_o ok_q7 (mi_okL_e))))))))) (mi_okS_cons (trivial) (mi_okS_e)) (mi_al (ho.1) (mi_al (ho.2) (mi_al_e))) (fun h1 W _ hst => let ⟨_, k1, k2⟩ := kon h1 W; me_call (M := (8, 1, sb_201)) (M' := (5, 1, sb_202)) rfl rfl rfl rfl (Nat.le_of_ble_eq_true rfl) (Nat.le_of_ble_eq_true rfl) W.1 k1 k2)
set_option maxRecDepth 20000 in
theorem mt_ckL {h : sm_H} {d : Nat} {Q : Option mi_V → sm_H → Prop} {zb zr za : Int} {zx zz : Int64} {q6 q7 : Option mi_V} (hS : ab_Sh sx_sk h) (ok_zb : mi_in zb) (ok_zr : mi_in zr) (ok_za : mi_in za) (ok_q6 : ∀ v, q6 = some v → mi_ok v) (ok_q7 : ∀ v, q7 = some v → mi_ok v) (k0 : (((lg_cmp (zx &&& zz) (Int64.ofNat 0)).toInt) = ((0 : Int))) → (∀ h1, ab_Sh sx_sk h1 → ab_Fr [] h h1 → me_E (d + 1) 201 223 [some (.inr (.inr 109)), some (.inl (zb)), some (.inl (zr)), some (.inr (.inl (zx))), none, some (.inl (za)), some (.inr (.inl (zz))), none] [] h1 Q)) (k1 : (((lg_cmp (zx &&& zz) (Int64.ofNat 0)).toInt) ≠ ((0 : Int))) → ((0 ≤ za ∧ za < 80)) ∧ (∀ h1, ab_Sh sx_sk h1 → ab_Fr [] h h1 → ∃ Q1, me_E (d + 0) 202 0 (mi_entry 5 [.inr (.inr 109), .inl (zb), .inl ((8 : Int)), .inl (mi_a h 127 (Int.toNat za))]) [] h1 Q1 ∧ ∀ w h2, (∀ x, w = some x → mi_ok x) → Q1 w h2 → me_E (d + 1) 201 222 [some (.inr (.inr 109)), some (.inl (zb)), some (.inl (zr)), some (.inr (.inl (zx))), none, some (.inl (za)), some (.inr (.inl (zz))), none] (mi_back w []) h2 Q)) : me_E (d + 1) 201 197 [some (.inr (.inr 109)), some (.inl (zb)), some (.inl (zr)), some (.inr (.inl (zx))), none, some (.inl (za)), q6, q7] [.inr (.inl (zz))] h Q := Or.elim (mi_em .eq (((lg_cmp (zx &&& zz) (Int64.ofNat 0)).toInt)) (((0 : Int)))) (fun c0 => ms_ckL_0 hS ok_zb ok_zr ok_za ok_q6 ok_q7 (c0) (fun h1 W => (k0 c0) h1 W.1 (W.2.2.2.2.2 _ rfl))) (fun c0 => ms_ckL_1 hS ok_zb ok_zr ok_za ok_q6 ok_q7 ⟨c0, (k1 c0).1⟩ (fun h1 W => (k1 c0).2 h1 W.1 (W.2.2.2.2.2 _ rfl)))
set_option maxRecDepth 20000 in
theorem mp_ckM_0 (h : sm_H) (d : Nat) (zb zr za zz : Int) (zx zd : Int64) : mi_path [(201, (8, 1, sb_201))] sx_sk h 1 [] (d + 1, 201, 222, [some (.inr (.inr 109)), some (.inl (zb)), some (.inl (zr)), some (.inr (.inl (zx))), none, some (.inl (za)), some (.inr (.inl (zd))), none], [.inl (zz)], [], []) = some ((d + 1, 201, 223, [some (.inr (.inr 109)), some (.inl (zz)), some (.inl (zr)), some (.inr (.inl (zx))), none, some (.inl (za)), some (.inr (.inl (zd))), none], [], [], []), []) := rfl
theorem mi_tab_ckM_0 : ∀ e ∈ ([(201, (8, 1, sb_201))] : mi_T), sc_P e.1 = some e.2 := mi_tb mi_P201 (mi_tb_e)
set_option maxRecDepth 20000 in
theorem ms_ckM_0 {h : sm_H} {d : Nat} {Q : Option mi_V → sm_H → Prop} {zb zr za zz : Int} {zx zd : Int64} (hS : ab_Sh sx_sk h) (ok_zb : mi_in zb) (ok_zr : mi_in zr) (ok_za : mi_in za) (ok_zz : mi_in zz) (kon : ∀ h1, me_W [] h h1 → me_E (d + 1) 201 223 [some (.inr (.inr 109)), some (.inl (zz)), some (.inl (zr)), some (.inr (.inl (zx))), none, some (.inl (za)), some (.inr (.inl (zd))), none] [] h1 Q) : me_E (d + 1) 201 222 [some (.inr (.inr 109)), some (.inl (zb)), some (.inl (zr)), some (.inr (.inl (zx))), none, some (.inl (za)), some (.inr (.inl (zd))), none] [.inl (zz)] h Q := me_seg (mp_ckM_0 h d zb zr za zz zx zd) (mi_tab_ckM_0) hS (mi_okL_c (trivial) (mi_okL_c (ok_zb) (mi_okL_c (ok_zr) (mi_okL_c (trivial) (mi_okL_n (mi_okL_c (ok_za) (mi_okL_c (trivial) (mi_okL_n (mi_okL_e))))))))) (mi_okS_cons (ok_zz) (mi_okS_e)) (mi_al_e) (fun h1 W _ hst => kon h1 W)
set_option maxRecDepth 20000 in
theorem mt_ckM {h : sm_H} {d : Nat} {Q : Option mi_V → sm_H → Prop} {zb zr za zz : Int} {zx zd : Int64} (hS : ab_Sh sx_sk h) (ok_zb : mi_in zb) (ok_zr : mi_in zr) (ok_za : mi_in za) (ok_zz : mi_in zz) (k0 : (∀ h1, ab_Sh sx_sk h1 → ab_Fr [] h h1 → me_E (d + 1) 201 223 [some (.inr (.inr 109)), some (.inl (zz)), some (.inl (zr)), some (.inr (.inl (zx))), none, some (.inl (za)), some (.inr (.inl (zd))), none] [] h1 Q)) : me_E (d + 1) 201 222 [some (.inr (.inr 109)), some (.inl (zb)), some (.inl (zr)), some (.inr (.inl (zx))), none, some (.inl (za)), some (.inr (.inl (zd))), none] [.inl (zz)] h Q := ms_ckM_0 hS ok_zb ok_zr ok_za ok_zz (fun h1 W => (k0) h1 W.1 (W.2.2.2.2.2 _ rfl))
set_option maxRecDepth 20000 in
theorem mp_ckN_0 (h : sm_H) (d : Nat) (zb zr za : Int) (zx zd : Int64) : mi_path [(201, (8, 1, sb_201))] sx_sk h 10 [] (d + 1, 201, 223, [some (.inr (.inr 109)), some (.inl (zb)), some (.inl (zr)), some (.inr (.inl (zx))), none, some (.inl (za)), some (.inr (.inl (zd))), none], [], [], []) = some ((d + 1, 201, 185, [some (.inr (.inr 109)), some (.inl (zb)), some (.inl (zr)), some (.inr (.inl (zx ||| zd))), none, some (.inl (mi_a h 128 (Int.toNat za))), some (.inr (.inl (zd))), none], [], [], []), [0 ≤ za ∧ za < 80]) := rfl
theorem mi_tab_ckN_0 : ∀ e ∈ ([(201, (8, 1, sb_201))] : mi_T), sc_P e.1 = some e.2 := mi_tb mi_P201 (mi_tb_e)
set_option maxRecDepth 20000 in
theorem ms_ckN_0 {h : sm_H} {d : Nat} {Q : Option mi_V → sm_H → Prop} {zb zr za : Int} {zx zd : Int64} (hS : ab_Sh sx_sk h) (ok_zb : mi_in zb) (ok_zr : mi_in zr) (ok_za : mi_in za) (ho : (0 ≤ za ∧ za < 80)) (kon : ∀ h1, me_W [] h h1 → me_E (d + 1) 201 185 [some (.inr (.inr 109)), some (.inl (zb)), some (.inl (zr)), some (.inr (.inl (zx ||| zd))), none, some (.inl (mi_a h 128 (Int.toNat za))), some (.inr (.inl (zd))), none] [] h1 Q) : me_E (d + 1) 201 223 [some (.inr (.inr 109)), some (.inl (zb)), some (.inl (zr)), some (.inr (.inl (zx))), none, some (.inl (za)), some (.inr (.inl (zd))), none] [] h Q := me_seg (mp_ckN_0 h d zb zr za zx zd) (mi_tab_ckN_0) hS (mi_okL_c (trivial) (mi_okL_c (ok_zb) (mi_okL_c (ok_zr) (mi_okL_c (trivial) (mi_okL_n (mi_okL_c (ok_za) (mi_okL_c (trivial) (mi_okL_n (mi_okL_e))))))))) (mi_okS_e) (mi_al (ho) (mi_al_e)) (fun h1 W _ hst => kon h1 W)
set_option maxRecDepth 20000 in
theorem mt_ckN {h : sm_H} {d : Nat} {Q : Option mi_V → sm_H → Prop} {zb zr za : Int} {zx zd : Int64} (hS : ab_Sh sx_sk h) (ok_zb : mi_in zb) (ok_zr : mi_in zr) (ok_za : mi_in za) (k0 : ((0 ≤ za ∧ za < 80)) ∧ (∀ h1, ab_Sh sx_sk h1 → ab_Fr [] h h1 → me_E (d + 1) 201 185 [some (.inr (.inr 109)), some (.inl (zb)), some (.inl (zr)), some (.inr (.inl (zx ||| zd))), none, some (.inl (mi_a h 128 (Int.toNat za))), some (.inr (.inl (zd))), none] [] h1 Q)) : me_E (d + 1) 201 223 [some (.inr (.inr 109)), some (.inl (zb)), some (.inl (zr)), some (.inr (.inl (zx))), none, some (.inl (za)), some (.inr (.inl (zd))), none] [] h Q := ms_ckN_0 hS ok_zb ok_zr ok_za ((k0).1) (fun h1 W => (k0).2 h1 W.1 (W.2.2.2.2.2 _ rfl))
set_option maxRecDepth 20000 in
theorem mp_coA_0 (h : sm_H) (d : Nat) : mi_path [(175, (2, 1, sb_175))] sx_sk h 4 [] (d + 20, 175, 0, [some (.inr (.inr 109)), none], [], [], []) = some ((d + 20, 175, 6, [some (.inr (.inr 109)), none], [.inr (.inr 109)], [.inl (13952, (0 : Int))], []), []) := rfl
theorem mi_tab_coA_0 : ∀ e ∈ ([(175, (2, 1, sb_175))] : mi_T), sc_P e.1 = some e.2 := mi_tb mi_P175 (mi_tb_e)
set_option maxRecDepth 20000 in
theorem ms_coA_0 {h : sm_H} {d : Nat} {Q : Option mi_V → sm_H → Prop} (hS : ab_Sh sx_sk h)  (kon : ∀ h1, me_W [.inl (13952, (0 : Int))] h h1 → ∃ Q1, me_E (d + 19) 176 0 (mi_entry 3 [.inr (.inr 109)]) [] h1 Q1 ∧ ∀ w h2, (∀ x, w = some x → mi_ok x) → Q1 w h2 → me_E (d + 20) 175 9 [some (.inr (.inr 109)), none] (mi_back w []) h2 Q) : me_E (d + 20) 175 0 [some (.inr (.inr 109)), none] [] h Q := me_seg (mp_coA_0 h d ) (mi_tab_coA_0) hS (mi_okL_c (trivial) (mi_okL_n (mi_okL_e))) (mi_okS_e) (mi_al_e) (fun h1 W _ hst => let ⟨_, k1, k2⟩ := kon h1 W; me_call (M := (2, 1, sb_175)) (M' := (3, 0, sb_176)) rfl rfl rfl rfl (Nat.le_of_ble_eq_true rfl) (Nat.le_of_ble_eq_true rfl) W.1 k1 k2)
set_option maxRecDepth 20000 in
theorem mt_coA {h : sm_H} {d : Nat} {Q : Option mi_V → sm_H → Prop} (hS : ab_Sh sx_sk h)  (k0 : (∀ h1, ab_Sh sx_sk h1 → mi_f h1 13952 = (0 : Int) → ab_Fr [(13952, 13953)] h h1 → ∃ Q1, me_E (d + 19) 176 0 (mi_entry 3 [.inr (.inr 109)]) [] h1 Q1 ∧ ∀ w h2, (∀ x, w = some x → mi_ok x) → Q1 w h2 → me_E (d + 20) 175 9 [some (.inr (.inr 109)), none] (mi_back w []) h2 Q)) : me_E (d + 20) 175 0 [some (.inr (.inr 109)), none] [] h Q := ms_coA_0 hS (fun h1 W => (k0) h1 W.1 (W.2.1 13952) (W.2.2.2.2.2 _ rfl))
set_option maxRecDepth 20000 in
theorem mp_coB_0 (h : sm_H) (d : Nat) : mi_path [(175, (2, 1, sb_175))] sx_sk h 16 [1, 1] (d + 20, 175, 9, [some (.inr (.inr 109)), none], [], [], []) = some ((d + 20, 175, 54, [some (.inr (.inr 109)), none], [.inr (.inr 109)], [.inl (14015, (0 : Int)), .inl (14017, (0 : Int)), .inl (13959, (0 : Int))], []), [0 ≤ ((0 : Int)) ∧ ((0 : Int)) ≤ 100, 0 ≤ ((0 : Int)) ∧ ((0 : Int)) ≤ 100, (mi_f h 13960) ≤ ((0 : Int)), (mi_f h 13960) ≤ ((0 : Int))]) := rfl
theorem mi_tab_coB_0 : ∀ e ∈ ([(175, (2, 1, sb_175))] : mi_T), sc_P e.1 = some e.2 := mi_tb mi_P175 (mi_tb_e)
set_option maxRecDepth 20000 in
theorem ms_coB_0 {h : sm_H} {d : Nat} {Q : Option mi_V → sm_H → Prop} (hS : ab_Sh sx_sk h)  (ho : (0 ≤ ((0 : Int)) ∧ ((0 : Int)) ≤ 100) ∧ (0 ≤ ((0 : Int)) ∧ ((0 : Int)) ≤ 100) ∧ ((mi_f h 13960) ≤ ((0 : Int))) ∧ ((mi_f h 13960) ≤ ((0 : Int)))) (kon : ∀ h1, me_W [.inl (14015, (0 : Int)), .inl (14017, (0 : Int)), .inl (13959, (0 : Int))] h h1 → ∃ Q1, me_E (d + 19) 194 0 (mi_entry 4 [.inr (.inr 109)]) [] h1 Q1 ∧ ∀ w h2, (∀ x, w = some x → mi_ok x) → Q1 w h2 → me_E (d + 20) 175 57 [some (.inr (.inr 109)), none] (mi_back w []) h2 Q) : me_E (d + 20) 175 9 [some (.inr (.inr 109)), none] [] h Q := me_seg (mp_coB_0 h d ) (mi_tab_coB_0) hS (mi_okL_c (trivial) (mi_okL_n (mi_okL_e))) (mi_okS_e) (mi_al (ho.1) (mi_al (ho.2.1) (mi_al (ho.2.2.1) (mi_al (ho.2.2.2) (mi_al_e))))) (fun h1 W _ hst => let ⟨_, k1, k2⟩ := kon h1 W; me_call (M := (2, 1, sb_175)) (M' := (4, 0, sb_194)) rfl rfl rfl rfl (Nat.le_of_ble_eq_true rfl) (Nat.le_of_ble_eq_true rfl) W.1 k1 k2)
set_option maxRecDepth 20000 in
theorem mp_coB_1 (h : sm_H) (d : Nat) : mi_path [(175, (2, 1, sb_175))] sx_sk h 23 [0, 0] (d + 20, 175, 9, [some (.inr (.inr 109)), none], [], [], []) = some ((d + 20, 175, 52, [some (.inr (.inr 109)), none], [.inl (mi_f h 13960)], [.inl (13961, (0 : Int)), .inl (13962, (0 : Int)), .inl (14015, (0 : Int)), .inl (14017, (0 : Int)), .inl (13959, (0 : Int))], []), [0 ≤ ((0 : Int)) ∧ ((0 : Int)) ≤ 100, 0 ≤ ((0 : Int)) ∧ ((0 : Int)) ≤ 100, ((0 : Int)) < (mi_f h 13960), 0 ≤ ((0 : Int)) ∧ ((0 : Int)) ≤ 20, 0 ≤ ((0 : Int)) ∧ ((0 : Int)) ≤ 10, ((0 : Int)) < (mi_f h 13960)]) := rfl
theorem mi_tab_coB_1 : ∀ e ∈ ([(175, (2, 1, sb_175))] : mi_T), sc_P e.1 = some e.2 := mi_tb mi_P175 (mi_tb_e)
set_option maxRecDepth 20000 in
theorem ms_coB_1 {h : sm_H} {d : Nat} {Q : Option mi_V → sm_H → Prop} (hS : ab_Sh sx_sk h)  (ho : (0 ≤ ((0 : Int)) ∧ ((0 : Int)) ≤ 100) ∧ (0 ≤ ((0 : Int)) ∧ ((0 : Int)) ≤ 100) ∧ (((0 : Int)) < (mi_f h 13960)) ∧ (0 ≤ ((0 : Int)) ∧ ((0 : Int)) ≤ 20) ∧ (0 ≤ ((0 : Int)) ∧ ((0 : Int)) ≤ 10) ∧ (((0 : Int)) < (mi_f h 13960))) (kon : ∀ h1, me_W [.inl (13961, (0 : Int)), .inl (13962, (0 : Int)), .inl (14015, (0 : Int)), .inl (14017, (0 : Int)), .inl (13959, (0 : Int))] h h1 → Q (some (.inl (mi_f h 13960))) h1) : me_E (d + 20) 175 9 [some (.inr (.inr 109)), none] [] h Q := me_seg (mp_coB_1 h d ) (mi_tab_coB_1) hS (mi_okL_c (trivial) (mi_okL_n (mi_okL_e))) (mi_okS_e) (mi_al (ho.1) (mi_al (ho.2.1) (mi_al (ho.2.2.1) (mi_al (ho.2.2.2.1) (mi_al (ho.2.2.2.2.1) (mi_al (ho.2.2.2.2.2) (mi_al_e))))))) (fun h1 W _ hst => me_ret (M := (2, 1, sb_175)) rfl rfl rfl hst (mi_al_e) (kon h1 W))
set_option maxRecDepth 20000 in
theorem mt_coB {h : sm_H} {d : Nat} {Q : Option mi_V → sm_H → Prop} (hS : ab_Sh sx_sk h)  (k0 : ((-2147483648) ≤ mi_f h 13960 ∧ mi_f h 13960 ≤ 2147483647) → ((mi_f h 13960) ≤ ((0 : Int))) → (∀ h1, ab_Sh sx_sk h1 → mi_f h1 13959 = (0 : Int) → mi_f h1 14015 = (0 : Int) → mi_f h1 14017 = (0 : Int) → ab_Fr [(13959, 13960), (14015, 14016), (14017, 14018)] h h1 → ∃ Q1, me_E (d + 19) 194 0 (mi_entry 4 [.inr (.inr 109)]) [] h1 Q1 ∧ ∀ w h2, (∀ x, w = some x → mi_ok x) → Q1 w h2 → me_E (d + 20) 175 57 [some (.inr (.inr 109)), none] (mi_back w []) h2 Q)) (k1 : ((-2147483648) ≤ mi_f h 13960 ∧ mi_f h 13960 ≤ 2147483647) → (((0 : Int)) < (mi_f h 13960)) → (∀ h1, ab_Sh sx_sk h1 → mi_f h1 13959 = (0 : Int) → mi_f h1 13961 = (0 : Int) → mi_f h1 13962 = (0 : Int) → mi_f h1 14015 = (0 : Int) → mi_f h1 14017 = (0 : Int) → ab_Fr [(13959, 13960), (13961, 13963), (14015, 14016), (14017, 14018)] h h1 → Q (some (.inl (mi_f h 13960))) h1)) : me_E (d + 20) 175 9 [some (.inr (.inr 109)), none] [] h Q := Or.elim (mi_em .le ((mi_f h 13960)) (((0 : Int)))) (fun c0 => ms_coB_0 hS ⟨(by decide), (by decide), c0, c0⟩ (fun h1 W => (k0 (me_fb hS rfl) c0) h1 W.1 (W.2.1 13959) (W.2.1 14015) (W.2.1 14017) (W.2.2.2.2.2 _ rfl))) (fun c0 => ms_coB_1 hS ⟨(by decide), (by decide), c0, (by decide), (by decide), c0⟩ (fun h1 W => (k1 (me_fb hS rfl) c0) h1 W.1 (W.2.1 13959) (W.2.1 13961) (W.2.1 13962) (W.2.1 14015) (W.2.1 14017) (W.2.2.2.2.2 _ rfl)))
set_option maxRecDepth 20000 in
theorem mp_coC_0 (h : sm_H) (d : Nat) : mi_path [(175, (2, 1, sb_175))] sx_sk h 1 [] (d + 20, 175, 57, [some (.inr (.inr 109)), none], [], [], []) = some ((d + 20, 175, 58, [some (.inr (.inr 109)), none], [.inr (.inr 109)], [], []), []) := rfl
theorem mi_tab_coC_0 : ∀ e ∈ ([(175, (2, 1, sb_175))] : mi_T), sc_P e.1 = some e.2 := mi_tb mi_P175 (mi_tb_e)
set_option maxRecDepth 20000 in
theorem ms_coC_0 {h : sm_H} {d : Nat} {Q : Option mi_V → sm_H → Prop} (hS : ab_Sh sx_sk h)  (kon : ∀ h1, me_W [] h h1 → ∃ Q1, me_E (d + 19) 201 0 (mi_entry 8 [.inr (.inr 109)]) [] h1 Q1 ∧ ∀ w h2, (∀ x, w = some x → mi_ok x) → Q1 w h2 → me_E (d + 20) 175 61 [some (.inr (.inr 109)), none] (mi_back w []) h2 Q) : me_E (d + 20) 175 57 [some (.inr (.inr 109)), none] [] h Q := me_seg (mp_coC_0 h d ) (mi_tab_coC_0) hS (mi_okL_c (trivial) (mi_okL_n (mi_okL_e))) (mi_okS_e) (mi_al_e) (fun h1 W _ hst => let ⟨_, k1, k2⟩ := kon h1 W; me_call (M := (2, 1, sb_175)) (M' := (8, 1, sb_201)) rfl rfl rfl rfl (Nat.le_of_ble_eq_true rfl) (Nat.le_of_ble_eq_true rfl) W.1 k1 k2)
set_option maxRecDepth 20000 in
theorem mt_coC {h : sm_H} {d : Nat} {Q : Option mi_V → sm_H → Prop} (hS : ab_Sh sx_sk h)  (k0 : (∀ h1, ab_Sh sx_sk h1 → ab_Fr [] h h1 → ∃ Q1, me_E (d + 19) 201 0 (mi_entry 8 [.inr (.inr 109)]) [] h1 Q1 ∧ ∀ w h2, (∀ x, w = some x → mi_ok x) → Q1 w h2 → me_E (d + 20) 175 61 [some (.inr (.inr 109)), none] (mi_back w []) h2 Q)) : me_E (d + 20) 175 57 [some (.inr (.inr 109)), none] [] h Q := ms_coC_0 hS (fun h1 W => (k0) h1 W.1 (W.2.2.2.2.2 _ rfl))
set_option maxRecDepth 20000 in
theorem mp_coD_0 (h : sm_H) (d : Nat) (zz : Int) : mi_path [(175, (2, 1, sb_175))] sx_sk h 7 [1] (d + 20, 175, 61, [some (.inr (.inr 109)), none], [.inl (zz)], [], []) = some ((d + 20, 175, 76, [some (.inr (.inr 109)), some (.inl (zz))], [.inl (zz)], [.inl (13959, (1 : Int))], []), [zz ≠ ((0 : Int))]) := rfl
theorem mi_tab_coD_0 : ∀ e ∈ ([(175, (2, 1, sb_175))] : mi_T), sc_P e.1 = some e.2 := mi_tb mi_P175 (mi_tb_e)
set_option maxRecDepth 20000 in
theorem ms_coD_0 {h : sm_H} {d : Nat} {Q : Option mi_V → sm_H → Prop} {zz : Int} (hS : ab_Sh sx_sk h) (ok_zz : mi_in zz) (ho : (zz ≠ ((0 : Int)))) (kon : ∀ h1, me_W [.inl (13959, (1 : Int))] h h1 → Q (some (.inl (zz))) h1) : me_E (d + 20) 175 61 [some (.inr (.inr 109)), none] [.inl (zz)] h Q := me_seg (mp_coD_0 h d zz) (mi_tab_coD_0) hS (mi_okL_c (trivial) (mi_okL_n (mi_okL_e))) (mi_okS_cons (ok_zz) (mi_okS_e)) (mi_al (ho) (mi_al_e)) (fun h1 W _ hst => me_ret (M := (2, 1, sb_175)) rfl rfl rfl hst (mi_al_e) (kon h1 W))
set_option maxRecDepth 20000 in
theorem mp_coD_1 (h : sm_H) (d : Nat) (zz : Int) : mi_path [(175, (2, 1, sb_175))] sx_sk h 8 [0] (d + 20, 175, 61, [some (.inr (.inr 109)), none], [.inl (zz)], [], []) = some ((d + 20, 175, 76, [some (.inr (.inr 109)), some (.inl (zz))], [.inl (zz)], [.inl (13959, (2 : Int))], []), [zz = ((0 : Int))]) := rfl
theorem mi_tab_coD_1 : ∀ e ∈ ([(175, (2, 1, sb_175))] : mi_T), sc_P e.1 = some e.2 := mi_tb mi_P175 (mi_tb_e)
set_option maxRecDepth 20000 in
theorem ms_coD_1 {h : sm_H} {d : Nat} {Q : Option mi_V → sm_H → Prop} {zz : Int} (hS : ab_Sh sx_sk h) (ok_zz : mi_in zz) (ho : (zz = ((0 : Int)))) (kon : ∀ h1, me_W [.inl (13959, (2 : Int))] h h1 → Q (some (.inl (zz))) h1) : me_E (d + 20) 175 61 [some (.inr (.inr 109)), none] [.inl (zz)] h Q := me_seg (mp_coD_1 h d zz) (mi_tab_coD_1) hS (mi_okL_c (trivial) (mi_okL_n (mi_okL_e))) (mi_okS_cons (ok_zz) (mi_okS_e)) (mi_al (ho) (mi_al_e)) (fun h1 W _ hst => me_ret (M := (2, 1, sb_175)) rfl rfl rfl hst (mi_al_e) (kon h1 W))
set_option maxRecDepth 20000 in
theorem mt_coD {h : sm_H} {d : Nat} {Q : Option mi_V → sm_H → Prop} {zz : Int} (hS : ab_Sh sx_sk h) (ok_zz : mi_in zz) (k0 : (zz ≠ ((0 : Int))) → (∀ h1, ab_Sh sx_sk h1 → mi_f h1 13959 = (1 : Int) → ab_Fr [(13959, 13960)] h h1 → Q (some (.inl (zz))) h1)) (k1 : (zz = ((0 : Int))) → (∀ h1, ab_Sh sx_sk h1 → mi_f h1 13959 = (2 : Int) → ab_Fr [(13959, 13960)] h h1 → Q (some (.inl (zz))) h1)) : me_E (d + 20) 175 61 [some (.inr (.inr 109)), none] [.inl (zz)] h Q := Or.elim (mi_em .ne (zz) (((0 : Int)))) (fun c0 => ms_coD_0 hS ok_zz (c0) (fun h1 W => (k0 c0) h1 W.1 (W.2.1 13959) (W.2.2.2.2.2 _ rfl))) (fun c0 => ms_coD_1 hS ok_zz (c0) (fun h1 W => (k1 c0) h1 W.1 (W.2.1 13959) (W.2.2.2.2.2 _ rfl)))
/-! study -/
def sy_L (h : sm_H) (Y : wk_Y) : Prop := wk_L (mi_a h) Y ∧ wk_u Y = mi_f h 13963 ∧ wk_f Y = mi_f h 13965 ∧ (∀ a, 0 ≤ a → a < mi_f h 13964 → mi_a h 126 a.toNat < 0 ∨ mi_a h 126 a.toNat < wk_u Y) ∧ ∀ r, 0 ≤ r → r < mi_f h 13961 → 0 ≤ mi_a h 114 r.toNat ∧ mi_a h 114 r.toNat < wk_f Y
def sy_R (h : sm_H) (w : Option mi_V) (h' : sm_H) : Prop := w = none ∧ ab_Sh sx_sk h' ∧ ab_Fr sy_W h h'
def sy_S (h0 : sm_H) (Y : wk_Y) (h : sm_H) : Prop := ab_Sh sx_sk h ∧ ab_Fr sy_W h0 h ∧ ∀ f : Nat, (f : Int) < wk_f Y → mi_a h 144 f ≤ 1000
theorem sy_L_fr {h h' : sm_H} {Y : wk_Y} (hL : sy_L h Y) (hS : ab_Sh sx_sk h) (hF : ab_Fr sy_W h h') : sy_L h' Y := by
  have hg : wk_gc (mi_a h) (mi_a h') := wk_gc_fr hF hS rfl
  obtain ⟨a, b, c, e, f⟩ := hL
  unfold sy_L
  rw [me_f (c := 13963) hF hS rfl rfl, me_f (c := 13965) hF hS rfl rfl, me_f (c := 13964) hF hS rfl rfl, me_f (c := 13961) hF hS rfl rfl]
  refine ⟨wk_L_g a hg, b, c, fun x h0 h1 => ?_, fun r h0 h1 => ?_⟩
  · rw [hg 126 (by decide)]
    exact e x h0 h1
  · rw [hg 114 (by decide)]
    exact f r h0 h1
section STU
variable {d : Nat} {h0 : sm_H} {Y : wk_Y}
theorem sy_S_V {h h' : sm_H} (hs : sy_S h0 Y h) (hS' : ab_Sh sx_sk h') (hF : ab_Fr sy_V h h') : sy_S h0 Y h' := ⟨hS', hs.2.1.trans (hF.wide (fun c hc => ab_swr_ok (by decide) hc)), fun f hf => by rw [me_a (k := 144) hF hs.1 rfl rfl]; exact hs.2.2 f hf⟩
theorem s277 : ∀ (N : Nat) (za : Int) (q2 q3 : Option mi_V) (h : sm_H), 10 - za < N → 0 ≤ za → za ≤ 10 → (∀ v, q2 = some v → mi_ok v) → (∀ v, q3 = some v → mi_ok v) → ab_Sh sx_sk h → ab_Fr sy_W h0 h → me_E (d + 3) 194 277 [some (.inr (.inr 109)), some (.inl za), q2, q3] [] h (sy_R h0) := by
  intro N
  induction N with
  | zero => intro za q2 q3 h hN _ _; exfalso; omega
  | succ N ih =>
    intro za q2 q3 h hN a0 a1 o2 o3 hS hF
    have oa : mi_in za := ⟨by omega, by omega⟩
    have s287 : za < 10 → ∀ (M : Nat) (zb : Int) (h : sm_H), 10 - zb < M → 0 ≤ zb → zb ≤ 10 → ab_Sh sx_sk h → ab_Fr sy_W h0 h → me_E (d + 3) 194 287 [some (.inr (.inr 109)), some (.inl za), some (.inl zb), q3] [] h (sy_R h0) := by
      intro lt M
      induction M with
      | zero => intro zb h hM _ _; exfalso; omega
      | succ M im =>
        intro zb h hM b0 b1 hS hF
        have ob : mi_in zb := ⟨by omega, by omega⟩
        refine mt_stP hS oa ob o3 ?_ ?_ ?_
        · intro b c
          refine ⟨by omega, fun h1 g1 g2 => ?_⟩
          have e := me_nil g2
          subst e
          exact ih (za + 1) _ _ _ (by omega) (by omega) (by omega) (me_oi ob) o3 g1 hF
        · intro b c1 c2
          exact ⟨by omega, fun h1 g1 g2 g3 => im (zb + 1) h1 (by omega) (by omega) (by omega) g1 (hF.trans (g3.wide (fun c hc => ab_swr_ok (by decide) hc)))⟩
        · intro b c1 c2
          exact ⟨by omega, fun h1 g1 g2 g3 => im (zb + 1) h1 (by omega) (by omega) (by omega) g1 (hF.trans (g3.wide (fun c hc => ab_swr_ok (by decide) hc)))⟩
    refine mt_stO hS oa o2 o3 ?_ ?_
    · intro b c h1 g1 g2
      have e := me_nil g2
      subst e
      exact ⟨rfl, g1, hF⟩
    · intro b c h1 g1 g2
      have e := me_nil g2
      subst e
      exact s287 (by omega) 20 0 _ (by omega) (by decide) (by decide) g1 hF
theorem s244 (hL : sy_L h0 Y) (hS0 : ab_Sh sx_sk h0) : ∀ (N : Nat) (za : Int) (q2 q3 : Option mi_V) (h : sm_H), 10 - za < N → 0 ≤ za → za ≤ 10 → (∀ v, q2 = some v → mi_ok v) → (∀ v, q3 = some v → mi_ok v) → ab_Sh sx_sk h → ab_Fr sy_W h0 h → me_E (d + 3) 194 244 [some (.inr (.inr 109)), some (.inl za), q2, q3] [] h (sy_R h0) := by
  intro N
  induction N with
  | zero => intro za q2 q3 h hN _ _; exfalso; omega
  | succ N ih =>
    intro za q2 q3 h hN a0 a1 o2 o3 hS hF
    have oa : mi_in za := ⟨by omega, by omega⟩
    have hL1 := sy_L_fr hL hS0 hF
    have h80 := hL1.1.2.1
    refine mt_stN hS oa o2 o3 ?_ ?_
    · intro b c h1 g1 g2
      have e := me_nil g2
      subst e
      exact s277 20 0 _ _ _ (by decide) (by decide) (by decide) o2 o3 g1 hF
    · intro b c
      have := hL1.2.2.2.2 za a0 c
      exact ⟨by omega, fun h1 g1 g2 g3 => ih (za + 1) _ _ h1 (by omega) (by omega) (by omega) o2 o3 g1 (hF.trans (g3.wide (fun c hc => ab_swr_ok (by decide) hc)))⟩
theorem s169 (hL : sy_L h0 Y) (hS0 : ab_Sh sx_sk h0) : ∀ (N : Nat) (za : Int) (q2 q3 : Option mi_V) (h : sm_H), 900 - za < N → 0 ≤ za → za ≤ 900 → (∀ v, q2 = some v → mi_ok v) → (∀ v, q3 = some v → mi_ok v) → ab_Sh sx_sk h → ab_Fr sy_W h0 h → me_E (d + 3) 194 169 [some (.inr (.inr 109)), some (.inl za), q2, q3] [] h (sy_R h0) := by
  intro N
  induction N with
  | zero => intro za q2 q3 h hN _ _; exfalso; omega
  | succ N ih =>
    intro za q2 q3 h hN a0 a1 o2 o3 hS hF
    have oa : mi_in za := ⟨by omega, by omega⟩
    have s190 : za < 900 → ∀ (M : Nat) (zb : Int) (q3 : Option mi_V) (h : sm_H), 80 - zb < M → 0 ≤ zb → zb ≤ 80 → (∀ v, q3 = some v → mi_ok v) → ab_Sh sx_sk h → ab_Fr sy_W h0 h → me_E (d + 3) 194 190 [some (.inr (.inr 109)), some (.inl za), some (.inl zb), q3] [] h (sy_R h0) := by
      intro lt M
      induction M with
      | zero => intro zb q3 h hM _ _; exfalso; omega
      | succ M im =>
        intro zb q3 h hM b0 b1 o3 hS hF
        have ob : mi_in zb := ⟨by omega, by omega⟩
        have hL1 := sy_L_fr hL hS0 hF
        refine mt_stK hS oa ob o3 ?_ ?_
        · intro b c
          refine ⟨by omega, fun h1 g1 g2 => ?_⟩
          have e := me_nil g2
          subst e
          exact ih (za + 1) _ _ _ (by omega) (by omega) (by omega) (me_oi ob) o3 g1 hF
        · intro b c
          refine ⟨by omega, fun h1 g1 g2 => ?_⟩
          have e := me_nil g2
          subst e
          have hfz : zb < wk_f Y := by rw [hL1.2.2.1]; exact c
          have s205 : ∀ (R j : Nat) (zc : Int) (h : sm_H), (mi_a h0 130 zb.toNat).toNat - j < R → (j : Int) ≤ mi_a h0 130 zb.toNat → zc = wk_alt (mi_a h0) j (mi_a h0 129 zb.toNat) → mi_in zc → ab_Sh sx_sk h → ab_Fr sy_W h0 h → me_E (d + 3) 194 205 [some (.inr (.inr 109)), some (.inl za), some (.inl zb), some (.inl zc)] [] h (sy_R h0) := by
            obtain ⟨-, -, c1, c2, -, c3⟩ := hL.1.2.2.2 zb b0 hfz
            intro R
            induction R with
            | zero => intro j zc h hR; exfalso; omega
            | succ R ir =>
              intro j zc h hR hj hzc oc hS hF
              have hg : wk_gc (mi_a h0) (mi_a h) := wk_gc_fr hF hS0 rfl
              have lt : 0 ≤ zc → (j : Int) < mi_a h0 130 zb.toNat := fun z => by
                by_cases e : (j : Int) = mi_a h0 130 zb.toNat
                · exfalso
                  have ej : j = (mi_a h0 130 zb.toNat).toNat := by omega
                  rw [← ej, ← hzc] at c2
                  omega
                · omega
              refine mt_stL hS oa ob oc ?_ ?_
              · intro c
                refine ⟨by omega, fun h1 g1 g2 => ?_⟩
                have e := me_nil g2
                subst e
                exact im (zb + 1) _ _ (by omega) (by omega) (by omega) (me_oi oc) g1 hF
              · intro c
                obtain ⟨x1, x2, x3⟩ := c3 j (lt c)
                rw [← hzc] at x2 x3
                refine ⟨by omega, fun h1 g1 g2 => ?_⟩
                have e := me_nil g2
                subst e
                refine ⟨_, me_behind (d := d + 1) (sy_L_fr hL hS0 hF).1 g1 c x2 ?_, fun w h2 ow hq => ?_⟩
                · rw [hg 126 (by decide)]
                  rcases x3 with x | x
                  · exact Or.inl x
                  · exact Or.inr x.1
                · obtain ⟨rfl, q1, q2⟩ := hq
                  have hF2 : ab_Fr sy_W h0 h2 := hF.trans (q2.wide (fun c hc => ab_swr_ok (by decide) hc))
                  have hg2 : wk_gc (mi_a h0) (mi_a h2) := wk_gc_fr hF2 hS0 rfl
                  refine mt_stM q1 oa ob oc ⟨by omega, fun h3 r1 r2 => ?_⟩
                  have e := me_nil r2
                  subst e
                  have := lt c
                  refine ir (j + 1) _ _ (by omega) (by omega) ?_ (mi_inT _) r1 hF2
                  rw [wk_alt_succ, hg2 128 (by decide), hzc]
          have hg : wk_gc (mi_a h0) (mi_a h1) := wk_gc_fr hF hS0 rfl
          obtain ⟨-, -, c1, -⟩ := hL.1.2.2.2 zb b0 hfz
          refine s205 ((mi_a h0 130 zb.toNat).toNat + 1) 0 _ _ (by omega) (by omega) ?_ (mi_inT _) g1 hF
          rw [hg 129 (by decide)]
          rfl
    refine mt_stJ hS oa o2 o3 ?_ ?_ ?_
    · intro c h1 g1 g2
      have e := me_nil g2
      subst e
      exact s244 hL hS0 20 0 _ _ _ (by decide) (by decide) (by decide) o2 o3 g1 hF
    · intro b c1 c2 h1 g1 g2
      have e := me_nil g2
      subst e
      exact s244 hL hS0 20 0 _ _ _ (by decide) (by decide) (by decide) o2 o3 g1 hF
    · intro b c1 c2 h1 g1 g2 g3
      exact s190 c1 90 0 _ h1 (by decide) (by decide) (by decide) o3 g1 (hF.trans (g3.wide (fun c hc => ab_swr_ok (by decide) hc)))
theorem s74 (hL : sy_L h0 Y) (hS0 : ab_Sh sx_sk h0) : ∀ (N : Nat) (za : Int) (q2 q3 : Option mi_V) (h : sm_H), 900 - za < N → 0 ≤ za → za ≤ 900 → (∀ v, q2 = some v → mi_ok v) → (∀ v, q3 = some v → mi_ok v) → sy_S h0 Y h → me_E (d + 3) 194 74 [some (.inr (.inr 109)), some (.inl za), q2, q3] [] h (sy_R h0) := by
  intro N
  induction N with
  | zero => intro za q2 q3 h hN _ _; exfalso; omega
  | succ N ih =>
    intro za q2 q3 h hN a0 a1 o2 o3 hs
    have oa : mi_in za := ⟨by omega, by omega⟩
    have s137 : za < 900 → ∀ (M : Nat) (zb : Int) (h : sm_H), 80 - zb < M → 0 ≤ zb → zb ≤ 80 → sy_S h0 Y h → me_E (d + 3) 194 137 [some (.inr (.inr 109)), some (.inl za), some (.inl zb), q3] [] h (sy_R h0) := by
      intro lt M
      induction M with
      | zero => intro zb h hM _ _; exfalso; omega
      | succ M im =>
        intro zb h hM b0 b1 hs
        have ob : mi_in zb := ⟨by omega, by omega⟩
        have hL1 := sy_L_fr hL hS0 hs.2.1
        refine mt_stH hs.1 oa ob o3 ?_ ?_
        · intro b c
          refine ⟨by omega, fun h1 g1 g2 => ?_⟩
          have e := me_nil g2
          subst e
          exact ih (za + 1) _ _ _ (by omega) (by omega) (by omega) (me_oi ob) o3 hs
        · intro b c h1 g1 g2
          have e := me_nil g2
          subst e
          refine ⟨_, me_formOf (d := d + 2) hL1.1 b0 (by rw [hL1.2.2.1]; exact c) g1, fun w h2 ow hq => ?_⟩
          obtain ⟨rfl, q1, q2, v, q3, q4⟩ := hq
          refine mt_stI q1 oa ob o3 ⟨by omega, fun h3 r1 r2 => ?_⟩
          have e := me_nil r2
          subst e
          refine im (zb + 1) _ (by omega) (by omega) (by omega) ⟨q1, hs.2.1.trans q2, fun f hf => ?_⟩
          rw [q4]
          split
          · exact q3
          · exact hs.2.2 f hf
    have s116 : za < 900 → ∀ (M : Nat) (zb : Int) (h : sm_H), 80 - zb < M → 0 ≤ zb → zb ≤ 80 → sy_S h0 Y h → me_E (d + 3) 194 116 [some (.inr (.inr 109)), some (.inl za), some (.inl zb), q3] [] h (sy_R h0) := by
      intro lt M
      induction M with
      | zero => intro zb h hM _ _; exfalso; omega
      | succ M im =>
        intro zb h hM b0 b1 hs
        have ob : mi_in zb := ⟨by omega, by omega⟩
        have hL1 := sy_L_fr hL hS0 hs.2.1
        refine mt_stF hs.1 oa ob o3 ?_ ?_
        · intro b c h1 g1 g2
          have e := me_nil g2
          subst e
          exact s137 lt 90 0 _ (by decide) (by decide) (by decide) hs
        · intro b c h1 g1 g2
          have e := me_nil g2
          subst e
          refine ⟨_, me_alternative (d := d + 1) (U := wk_u Y) g1 (wk_L_C hL1.1) b0 (by omega) (hL1.2.2.2.1 zb b0 c), fun w h2 ow hq => ?_⟩
          obtain ⟨rfl, q1, q2⟩ := hq
          refine mt_stG q1 oa ob o3 ⟨by omega, fun h3 r1 r2 => ?_⟩
          have e := me_nil r2
          subst e
          exact im (zb + 1) _ (by omega) (by omega) (by omega) (sy_S_V hs q1 q2)
    have s95 : za < 900 → ∀ (M : Nat) (zb : Int) (h : sm_H), 60 - zb < M → 0 ≤ zb → zb ≤ 60 → sy_S h0 Y h → me_E (d + 3) 194 95 [some (.inr (.inr 109)), some (.inl za), some (.inl zb), q3] [] h (sy_R h0) := by
      intro lt M
      induction M with
      | zero => intro zb h hM _ _; exfalso; omega
      | succ M im =>
        intro zb h hM b0 b1 hs
        have ob : mi_in zb := ⟨by omega, by omega⟩
        have hL1 := sy_L_fr hL hS0 hs.2.1
        refine mt_stD hs.1 oa ob o3 ?_ ?_
        · intro b c h1 g1 g2
          have e := me_nil g2
          subst e
          exact s116 lt 90 0 _ (by decide) (by decide) (by decide) hs
        · intro b c h1 g1 g2
          have e := me_nil g2
          subst e
          refine ⟨_, me_weigh (d := d + 2) hL1.1 b0 (by rw [hL1.2.1]; exact c) hs.2.2 g1, fun w h2 ow hq => ?_⟩
          obtain ⟨rfl, q1, q2⟩ := hq
          refine mt_stE q1 oa ob o3 ⟨by omega, fun h3 r1 r2 => ?_⟩
          have e := me_nil r2
          subst e
          exact im (zb + 1) _ (by omega) (by omega) (by omega) (sy_S_V hs q1 q2)
    refine mt_stC hs.1 oa o2 o3 ?_ ?_ ?_
    · intro c h1 g1 g2 g3
      exact s169 hL hS0 1000 0 _ _ h1 (by decide) (by decide) (by decide) o2 o3 g1 (hs.2.1.trans (g3.wide (fun c hc => ab_swr_ok (by decide) hc)))
    · intro b c1 c2 h1 g1 g2 g3
      exact s169 hL hS0 1000 0 _ _ h1 (by decide) (by decide) (by decide) o2 o3 g1 (hs.2.1.trans (g3.wide (fun c hc => ab_swr_ok (by decide) hc)))
    · intro b c1 c2 h1 g1 g2 g3
      exact s95 c1 70 0 h1 (by decide) (by decide) (by decide) (sy_S_V hs g1 (g3.wide (fun c hc => ab_swr_ok (by decide) hc)))
theorem me_study (hL : sy_L h0 Y) (hS0 : ab_Sh sx_sk h0) : me_E (d + 3) 194 0 [some (.inr (.inr 109)), none, none, none] [] h0 (sy_R h0) := by
  have s2 : ∀ (N : Nat) (za : Int) (q2 q3 : Option mi_V) (h : sm_H), 80 - za < N → 0 ≤ za → za ≤ 80 → (∀ v, q2 = some v → mi_ok v) → (∀ v, q3 = some v → mi_ok v) → ab_Sh sx_sk h → ab_Fr sy_W h0 h → (∀ f : Nat, (f : Int) < za → mi_a h 144 f ≤ 1000) → me_E (d + 3) 194 2 [some (.inr (.inr 109)), some (.inl za), q2, q3] [] h (sy_R h0) := by
    intro N
    induction N with
    | zero => intro za q2 q3 h hN _ _; exfalso; omega
    | succ N ih =>
      intro za q2 q3 h hN a0 a1 o2 o3 hS hF hH
      have oa : mi_in za := ⟨by omega, by omega⟩
      have hL1 := sy_L_fr hL hS0 hF
      refine mt_stB hS oa o2 o3 ?_ ?_ ?_
      · intro b c h1 g1 g2 g3
        refine s74 hL hS0 1000 0 _ _ h1 (by decide) (by decide) (by decide) o2 o3 ⟨g1, hF.trans (g3.wide (fun c hc => ab_swr_ok (by decide) hc)), fun f hf => ?_⟩
        rw [me_a (k := 144) g3 hS rfl rfl]
        rw [hL1.2.2.1] at hf
        exact hH f (by omega)
      · intro b c1 c2
        refine ⟨by omega, fun h1 g1 g2 g3 g4 g5 g6 g7 => ih (za + 1) _ _ h1 (by omega) (by omega) (by omega) o2 o3 g1 (hF.trans (g7.wide (fun c hc => ab_swr_ok (by decide) hc))) (fun f hf => ?_)⟩
        rw [g4]
        split
        · exact Int.le_refl _
        · exact hH f (by omega)
      · intro b c1 c2
        refine ⟨by omega, fun h1 g1 g2 g3 g4 g5 g6 g7 => ih (za + 1) _ _ h1 (by omega) (by omega) (by omega) o2 o3 g1 (hF.trans (g7.wide (fun c hc => ab_swr_ok (by decide) hc))) (fun f hf => ?_)⟩
        rw [g4]
        split
        · exact Int.le_refl _
        · exact hH f (by omega)
  refine mt_stA hS0 ?_
  intro h1 g1 g2
  have e := me_nil g2
  subst e
  exact s2 90 0 _ _ _ (by decide) (by decide) (by decide) me_on me_on g1 ab_Fr.refl (fun f hf => by exfalso; omega)
end STU
/-! check -/
def ck_Q (h : sm_H) (w : Option mi_V) (h' : sm_H) : Prop := h' = h ∧ ∃ z, w = some (.inl z) ∧ mi_in z
section CHK
variable {d : Nat} {h : sm_H} {Y : wk_Y}
theorem me_least {z1 z2 z3 : Int} (hS : ab_Sh sx_sk h) (o1 : mi_in z1) (o2 : mi_in z2) (o3 : mi_in z3) : me_E d 202 0 [some (.inr (.inr 109)), some (.inl z1), some (.inl z2), some (.inl z3), none] [] h (ck_Q h) := by
  have := me_abs (M := (5, 1, sb_202)) (as := [.inr (.inr 109), .inl z1, .inl z2, .inl z3]) xo_v_least rfl hS ⟨rfl, me_nv1 o1 o1.1 o1.2, me_nv1 o2 o2.1 o2.2, me_nv1 o3 o3.1 o3.2, trivial⟩ (fun e he => by cases he) (by decide)
  refine (me_E.deep (d' := d) this (Nat.zero_le _)).imp (fun w h' hq => ?_)
  obtain ⟨q1, q2, p, hp, q3, -⟩ := hq
  refine ⟨me_nil q2, ?_⟩
  rcases List.mem_cons.mp hp with rfl | hp
  · obtain ⟨z, e, z0, z1⟩ := me_resI q3 (by decide) rfl
    exact ⟨z, e, z0, z1⟩
  · cases hp
theorem me_directors {z1 z2 : Int} (hS : ab_Sh sx_sk h) (a0 : 0 ≤ z1) (a1 : z1 < 80) (b0 : 0 ≤ z2) (b1 : z2 < 80) : me_E d 203 0 [some (.inr (.inr 109)), some (.inl z1), some (.inl z2)] [] h (fun w h' => h' = h ∧ ∃ x, w = some (.inr (.inl x))) := by
  have := me_abs (M := (3, 2, sb_203)) (as := [.inr (.inr 109), .inl z1, .inl z2]) xo_v_directors rfl hS ⟨rfl, me_nv1 ⟨by omega, by omega⟩ a0 (by omega), me_nv1 ⟨by omega, by omega⟩ b0 (by omega), trivial⟩ (fun e he => by cases he) (by decide)
  refine (me_E.deep (d' := d) this (Nat.zero_le _)).imp (fun w h' hq => ?_)
  obtain ⟨q1, q2, p, hp, q3, -⟩ := hq
  refine ⟨me_nil q2, ?_⟩
  rcases List.mem_cons.mp hp with rfl | hp
  · unfold mi_res at q3
    rw [if_neg (by decide)] at q3
    rcases q3 with q3 | q3 | q3
    · exact absurd q3.1 (by decide)
    · obtain ⟨-, x, e, -⟩ := q3
      exact ⟨x, e⟩
    · exact absurd q3.1 (by decide)
  · cases hp
theorem c167 (hL : sy_L h Y) (hS : ab_Sh sx_sk h) : ∀ (N : Nat) (zb zr : Int) (q3 q4 q5 q6 q7 : Option mi_V), 80 - zr < N → 0 ≤ zr → zr ≤ 80 → mi_in zb → (∀ v, q3 = some v → mi_ok v) → (∀ v, q4 = some v → mi_ok v) → (∀ v, q5 = some v → mi_ok v) → (∀ v, q6 = some v → mi_ok v) → (∀ v, q7 = some v → mi_ok v) → me_E (d + 1) 201 167 [some (.inr (.inr 109)), some (.inl zb), some (.inl zr), q3, q4, q5, q6, q7] [] h (ck_Q h) := by
  intro N
  induction N with
  | zero => intro zb zr q3 q4 q5 q6 q7 hN _ _; exfalso; omega
  | succ N ih =>
    intro zb zr q3 q4 q5 q6 q7 hN r0 r1 ob o3 o4 o5 o6 o7
    have or_ : mi_in zr := ⟨by omega, by omega⟩
    refine mt_ckJ hS ob or_ o3 o4 o5 o6 o7 ?_ ?_
    · intro b c h1 g1 g2
      have e := me_nil g2
      subst e
      exact ⟨rfl, _, rfl, ob⟩
    · intro b c
      refine ⟨by omega, fun h1 g1 g2 => ?_⟩
      have e := me_nil g2
      subst e
      have hfz : zr < wk_f Y := by rw [hL.2.2.1]; exact c
      obtain ⟨-, -, c1, c2, -, c3⟩ := hL.1.2.2.2 zr r0 hfz
      have lp : ∀ (R j : Nat) (zb za : Int) (zx : Int64) (q6 q7 : Option mi_V), (mi_a h1 130 zr.toNat).toNat - j < R → (j : Int) ≤ mi_a h1 130 zr.toNat → za = wk_alt (mi_a h1) j (mi_a h1 129 zr.toNat) → mi_in zb → mi_in za → (∀ v, q6 = some v → mi_ok v) → (∀ v, q7 = some v → mi_ok v) → me_E (d + 1) 201 185 [some (.inr (.inr 109)), some (.inl zb), some (.inl zr), some (.inr (.inl zx)), none, some (.inl za), q6, q7] [] h1 (ck_Q h1) := by
        intro R
        induction R with
        | zero => intro j zb za zx q6 q7 hR; exfalso; omega
        | succ R ir =>
          intro j zb za zx q6 q7 hR hj hza ob oa o6 o7
          have lt : 0 ≤ za → (j : Int) < mi_a h1 130 zr.toNat := fun z => by
            by_cases e : (j : Int) = mi_a h1 130 zr.toNat
            · exfalso
              have ej : j = (mi_a h1 130 zr.toNat).toNat := by omega
              rw [← ej, ← hza] at c2
              omega
            · omega
          refine mt_ckK g1 ob or_ oa o6 o7 ?_ ?_
          · intro c
            refine ⟨by omega, fun h2 s1 s2 => ?_⟩
            have e := me_nil s2
            subst e
            exact ih zb (zr + 1) _ _ _ _ _ (by omega) (by omega) (by omega) ob (fun v e => by cases e; trivial) me_on (me_oi oa) o6 o7
          · intro cz h2 s1 s2
            have e := me_nil s2
            subst e
            obtain ⟨x1, x2, -⟩ := c3 j (lt cz)
            rw [← hza] at x2
            have fin : ∀ (zb : Int) (zd : Int64), mi_in zb → me_E (d + 1) 201 223 [some (.inr (.inr 109)), some (.inl zb), some (.inl zr), some (.inr (.inl zx)), none, some (.inl za), some (.inr (.inl zd)), none] [] h2 (ck_Q h2) := fun zb zd ob => by
              refine mt_ckN s1 ob or_ oa ⟨by omega, fun h3 t1 t2 => ?_⟩
              have e := me_nil t2
              subst e
              have := lt cz
              refine ir (j + 1) zb _ _ _ _ (by omega) (by omega) ?_ ob (mi_inT _) (fun v e => by cases e; trivial) me_on
              rw [wk_alt_succ, hza]
            refine ⟨_, me_directors s1 r0 (by omega) cz x2, fun w h3 ow hq => ?_⟩
            obtain ⟨e, x, rfl⟩ := hq
            subst e
            refine mt_ckL s1 ob or_ oa o6 o7 ?_ ?_
            · intro c4 h4 t1 t2
              have e := me_nil t2
              subst e
              exact fin _ _ ob
            · intro c4
              refine ⟨by omega, fun h4 t1 t2 => ?_⟩
              have e := me_nil t2
              subst e
              refine ⟨_, me_least t1 ob ⟨by decide, by decide⟩ (mi_inT _), fun w h5 ow hq => ?_⟩
              obtain ⟨e, z, rfl, oz⟩ := hq
              subst e
              refine mt_ckM t1 ob or_ oa oz ?_
              intro h6 u1 u2
              have e := me_nil u2
              subst e
              exact fin _ _ oz
      exact lp ((mi_a h1 130 zr.toNat).toNat + 1) 0 zb _ _ _ _ (by omega) (by omega) rfl ob (mi_inT _) o6 o7
theorem c78 (hL : sy_L h Y) (hS : ab_Sh sx_sk h) : ∀ (N : Nat) (zb zr : Int) (q3 q4 q5 q6 q7 : Option mi_V), 60 - zr < N → 0 ≤ zr → zr ≤ 60 → mi_in zb → (∀ v, q3 = some v → mi_ok v) → (∀ v, q4 = some v → mi_ok v) → (∀ v, q5 = some v → mi_ok v) → (∀ v, q6 = some v → mi_ok v) → (∀ v, q7 = some v → mi_ok v) → me_E (d + 1) 201 78 [some (.inr (.inr 109)), some (.inl zb), some (.inl zr), q3, q4, q5, q6, q7] [] h (ck_Q h) := by
  intro N
  induction N with
  | zero => intro zb zr q3 q4 q5 q6 q7 hN _ _; exfalso; omega
  | succ N ih =>
    intro zb zr q3 q4 q5 q6 q7 hN r0 r1 ob o3 o4 o5 o6 o7
    have or_ : mi_in zr := ⟨by omega, by omega⟩
    have nx : ∀ zb, zr < 60 → mi_in zb → me_E (d + 1) 201 78 [some (.inr (.inr 109)), some (.inl zb), some (.inl (zr + 1)), q3, q4, q5, q6, q7] [] h (ck_Q h) := fun zb lt ob => ih zb (zr + 1) _ _ _ _ _ (by omega) (by omega) (by omega) ob o3 o4 o5 o6 o7
    have g118 : ∀ zb, zr < 60 → mi_in zb → me_E (d + 1) 201 118 [some (.inr (.inr 109)), some (.inl zb), some (.inl zr), q3, q4, q5, q6, q7] [] h (ck_Q h) := fun zb lt ob => by
      refine mt_ckH hS ob or_ o3 o4 o5 o6 o7 ?_ ?_ ?_
      · intro c
        refine ⟨by omega, fun h1 g1 g2 => ?_⟩
        have e := me_nil g2
        subst e
        exact nx _ lt ob
      · intro c1 c2
        refine ⟨by omega, fun h1 g1 g2 => ?_⟩
        have e := me_nil g2
        subst e
        exact nx _ lt ob
      · intro c1 c2
        refine ⟨by omega, fun h1 g1 g2 => ?_⟩
        have e := me_nil g2
        subst e
        refine ⟨_, me_least g1 ob ⟨by decide, by decide⟩ (mi_inT _), fun w h5 ow hq => ?_⟩
        obtain ⟨e, z, rfl, oz⟩ := hq
        subst e
        refine mt_ckI g1 ob or_ oz o3 o4 o5 o6 o7 ⟨by omega, fun h2 s1 s2 => ?_⟩
        have e := me_nil s2
        subst e
        exact nx _ lt oz
    refine mt_ckF hS ob or_ o3 o4 o5 o6 o7 ?_ ?_ ?_ ?_
    · intro b c h1 g1 g2
      have e := me_nil g2
      subst e
      exact c167 hL g1 90 _ 0 _ _ _ _ _ (by decide) (by decide) (by decide) ob o3 o4 o5 o6 o7
    · intro b c1 c2
      refine ⟨by omega, fun h1 g1 g2 => ?_⟩
      have e := me_nil g2
      subst e
      exact g118 _ (by omega) ob
    · intro b c1 c2 c3
      refine ⟨by omega, fun h1 g1 g2 => ?_⟩
      have e := me_nil g2
      subst e
      exact g118 _ (by omega) ob
    · intro b c1 c2 c3
      refine ⟨by omega, fun h1 g1 g2 => ?_⟩
      have e := me_nil g2
      subst e
      refine ⟨_, me_least g1 ob ⟨by decide, by decide⟩ (mi_inT _), fun w h5 ow hq => ?_⟩
      obtain ⟨e, z, rfl, oz⟩ := hq
      subst e
      refine mt_ckG g1 ob or_ oz o3 o4 o5 o6 o7 ?_
      intro h2 s1 s2
      have e := me_nil s2
      subst e
      exact g118 _ (by omega) oz
theorem c4 (hL : sy_L h Y) (hS : ab_Sh sx_sk h) : ∀ (N : Nat) (zb zr : Int) (q3 q4 q5 q6 q7 : Option mi_V), 10 - zr < N → 0 ≤ zr → zr ≤ 10 → mi_in zb → (∀ v, q3 = some v → mi_ok v) → (∀ v, q4 = some v → mi_ok v) → (∀ v, q5 = some v → mi_ok v) → (∀ v, q6 = some v → mi_ok v) → (∀ v, q7 = some v → mi_ok v) → me_E (d + 1) 201 4 [some (.inr (.inr 109)), some (.inl zb), some (.inl zr), q3, q4, q5, q6, q7] [] h (ck_Q h) := by
  intro N
  induction N with
  | zero => intro zb zr q3 q4 q5 q6 q7 hN _ _; exfalso; omega
  | succ N ih =>
    intro zb zr q3 q4 q5 q6 q7 hN r0 r1 ob o3 o4 o5 o6 o7
    have or_ : mi_in zr := ⟨by omega, by omega⟩
    have h80 := hL.1.2.1
    have nx : ∀ zb, zr < 10 → mi_in zb → me_E (d + 1) 201 4 [some (.inr (.inr 109)), some (.inl zb), some (.inl (zr + 1)), q3, q4, q5, q6, q7] [] h (ck_Q h) := fun zb lt ob => ih zb (zr + 1) _ _ _ _ _ (by omega) (by omega) (by omega) ob o3 o4 o5 o6 o7
    have g39 : ∀ zb, zr < mi_f h 13961 → zr < 10 → mi_in zb → me_E (d + 1) 201 39 [some (.inr (.inr 109)), some (.inl zb), some (.inl zr), q3, q4, q5, q6, q7] [] h (ck_Q h) := fun zb lt0 lt ob => by
      have hr := hL.2.2.2.2 zr r0 lt0
      refine mt_ckD hS ob or_ o3 o4 o5 o6 o7 ?_ ?_
      · intro c
        refine ⟨by omega, fun h1 g1 g2 => ?_⟩
        have e := me_nil g2
        subst e
        exact nx _ lt ob
      · intro c
        refine ⟨by omega, fun h1 g1 g2 => ?_⟩
        have e := me_nil g2
        subst e
        refine ⟨_, me_least g1 ob ⟨by decide, by decide⟩ (mi_inT _), fun w h5 ow hq => ?_⟩
        obtain ⟨e, z, rfl, oz⟩ := hq
        subst e
        refine mt_ckE g1 ob or_ oz o3 o4 o5 o6 o7 ⟨by omega, fun h2 s1 s2 => ?_⟩
        have e := me_nil s2
        subst e
        exact nx _ lt oz
    refine mt_ckB hS ob or_ o3 o4 o5 o6 o7 ?_ ?_ ?_
    · intro b c h1 g1 g2
      have e := me_nil g2
      subst e
      exact c78 hL g1 70 _ 0 _ _ _ _ _ (by decide) (by decide) (by decide) ob o3 o4 o5 o6 o7
    · intro b c1 c2
      refine ⟨by omega, fun h1 g1 g2 => ?_⟩
      have e := me_nil g2
      subst e
      exact g39 _ c1 (by omega) ob
    · intro b c1 c2
      refine ⟨by omega, fun h1 g1 g2 => ?_⟩
      have e := me_nil g2
      subst e
      refine ⟨_, me_least g1 ob ⟨by decide, by decide⟩ (mi_inT _), fun w h5 ow hq => ?_⟩
      obtain ⟨e, z, rfl, oz⟩ := hq
      subst e
      refine mt_ckC g1 ob or_ oz o3 o4 o5 o6 o7 ?_
      intro h2 s1 s2
      have e := me_nil s2
      subst e
      exact g39 _ c1 (by omega) oz
theorem me_check (hL : sy_L h Y) (hS : ab_Sh sx_sk h) : me_E (d + 1) 201 0 [some (.inr (.inr 109)), none, none, none, none, none, none, none] [] h (ck_Q h) := by
  refine mt_ckA hS ?_
  intro h1 g1 g2
  have e := me_nil g2
  subst e
  exact c4 hL g1 20 0 0 _ _ _ _ _ (by decide) (by decide) (by decide) ⟨by decide, by decide⟩ me_on me_on me_on me_on me_on
end CHK
/-! compile, from what read leaves -/
def rd_Q (h : sm_H) (w : Option mi_V) (h' : sm_H) : Prop := w = none ∧ ab_Sh sx_sk h' ∧ ab_Fr mj_W h h' ∧ (mi_f h' 13960 ≤ 0 → ∃ Y, sy_L h' Y ∧ wk_Lrule Y (mi_a h' 114 0))
def rd_Ok : Prop := ∀ h, ab_Sh sx_sk h → me_E 59 176 0 [some (.inr (.inr 109)), none, none] [] h (rd_Q h)
section CMP
variable {h : sm_H} {L : Nat} {xs : Nat → Int32}
end CMP
/-! segments: newForm, blame, begin, put, part -/
set_option maxRecDepth 20000 in
theorem mp_nf_0 (h : sm_H) (d : Nat) : mi_path [(185, (1, 1, sb_185))] sx_sk h 19 [8] (d, 185, 0, [some (.inr (.inr 109))], [], [], []) = some ((d, 185, 31, [some (.inr (.inr 109))], [.inl (mi_f h 13965)], [.inl (13965, (mi_f h 13965) + ((1 : Int))), .inr (.inr (.inl (130, Int.toNat (mi_f h 13965), (0 : Int)))), .inr (.inr (.inl (129, Int.toNat (mi_f h 13965), (-1 : Int))))], []), [0 ≤ (mi_f h 13965) ∧ (mi_f h 13965) < 80, (-1) ≤ ((-1 : Int)) ∧ ((-1 : Int)) ≤ 79, 0 ≤ (mi_f h 13965) ∧ (mi_f h 13965) < 80, 0 ≤ ((0 : Int)) ∧ ((0 : Int)) ≤ 7, -2147483648 ≤ (mi_f h 13965) + ((1 : Int)) ∧ (mi_f h 13965) + ((1 : Int)) ≤ 2147483647, 0 ≤ ((mi_f h 13965) + ((1 : Int))) ∧ ((mi_f h 13965) + ((1 : Int))) ≤ 80]) := rfl
theorem mi_tab_nf_0 : ∀ e ∈ ([(185, (1, 1, sb_185))] : mi_T), sc_P e.1 = some e.2 := mi_tb mi_P185 (mi_tb_e)
set_option maxRecDepth 20000 in
theorem ms_nf_0 {h : sm_H} {d : Nat} {Q : Option mi_V → sm_H → Prop} (hS : ab_Sh sx_sk h)  (ho : (0 ≤ (mi_f h 13965) ∧ (mi_f h 13965) < 80) ∧ ((-1) ≤ ((-1 : Int)) ∧ ((-1 : Int)) ≤ 79) ∧ (0 ≤ (mi_f h 13965) ∧ (mi_f h 13965) < 80) ∧ (0 ≤ ((0 : Int)) ∧ ((0 : Int)) ≤ 7) ∧ (-2147483648 ≤ (mi_f h 13965) + ((1 : Int)) ∧ (mi_f h 13965) + ((1 : Int)) ≤ 2147483647) ∧ (0 ≤ ((mi_f h 13965) + ((1 : Int))) ∧ ((mi_f h 13965) + ((1 : Int))) ≤ 80)) (kon : ∀ h1, me_W [.inl (13965, (mi_f h 13965) + ((1 : Int))), .inr (.inr (.inl (130, Int.toNat (mi_f h 13965), (0 : Int)))), .inr (.inr (.inl (129, Int.toNat (mi_f h 13965), (-1 : Int))))] h h1 → Q (some (.inl (mi_f h 13965))) h1) : me_E (d) 185 0 [some (.inr (.inr 109))] [] h Q := me_seg (mp_nf_0 h d ) (mi_tab_nf_0) hS (mi_okL_c (trivial) (mi_okL_e)) (mi_okS_e) (mi_al (ho.1) (mi_al (ho.2.1) (mi_al (ho.2.2.1) (mi_al (ho.2.2.2.1) (mi_al (ho.2.2.2.2.1) (mi_al (ho.2.2.2.2.2) (mi_al_e))))))) (fun h1 W _ hst => me_ret (M := (1, 1, sb_185)) rfl rfl rfl hst (mi_al_e) (kon h1 W))
set_option maxRecDepth 20000 in
theorem mt_nf {h : sm_H} {d : Nat} {Q : Option mi_V → sm_H → Prop} (hS : ab_Sh sx_sk h)  (k0 : (0 ≤ mi_f h 13965 ∧ mi_f h 13965 ≤ 80) → ((0 ≤ (mi_f h 13965) ∧ (mi_f h 13965) < 80) ∧ (-2147483648 ≤ (mi_f h 13965) + ((1 : Int)) ∧ (mi_f h 13965) + ((1 : Int)) ≤ 2147483647) ∧ (0 ≤ ((mi_f h 13965) + ((1 : Int))) ∧ ((mi_f h 13965) + ((1 : Int))) ≤ 80)) ∧ (∀ h1, ab_Sh sx_sk h1 → mi_f h1 13965 = (mi_f h 13965) + ((1 : Int)) → (∀ i, mi_a h1 129 i = if i = Int.toNat (mi_f h 13965) then (-1 : Int) else (mi_a h 129 i)) → (∀ i, mi_a h1 130 i = if i = Int.toNat (mi_f h 13965) then (0 : Int) else (mi_a h 130 i)) → ab_Fr [(13965, 13966), (16512, 16513), (16640, 16641)] h h1 → Q (some (.inl (mi_f h 13965))) h1)) : me_E (d) 185 0 [some (.inr (.inr 109))] [] h Q := ms_nf_0 hS ⟨(k0 (me_fb hS rfl)).1.1, (by decide), (k0 (me_fb hS rfl)).1.1, (by decide), (k0 (me_fb hS rfl)).1.2.1, (k0 (me_fb hS rfl)).1.2.2⟩ (fun h1 W => (k0 (me_fb hS rfl)).2 h1 W.1 (W.2.1 13965) (fun i => W.2.2.1 129 i) (fun i => W.2.2.1 130 i) (W.2.2.2.2.2 _ rfl))
set_option maxRecDepth 20000 in
theorem mp_bl_0 (h : sm_H) (d : Nat) (zf zp : Int) : mi_path [(184, (3, 0, sb_184))] sx_sk h 3 [1] (d, 184, 0, [some (.inr (.inr 109)), some (.inl (zf)), some (.inl (zp))], [], [], []) = some ((d, 184, 17, [some (.inr (.inr 109)), some (.inl (zf)), some (.inl (zp))], [], [], []), [(mi_f h 13960) ≠ ((0 : Int))]) := rfl
theorem mi_tab_bl_0 : ∀ e ∈ ([(184, (3, 0, sb_184))] : mi_T), sc_P e.1 = some e.2 := mi_tb mi_P184 (mi_tb_e)
set_option maxRecDepth 20000 in
theorem ms_bl_0 {h : sm_H} {d : Nat} {Q : Option mi_V → sm_H → Prop} {zf zp : Int} (hS : ab_Sh sx_sk h) (ok_zf : mi_in zf) (ok_zp : mi_in zp) (ho : ((mi_f h 13960) ≠ ((0 : Int)))) (kon : ∀ h1, me_W [] h h1 → Q none h1) : me_E (d) 184 0 [some (.inr (.inr 109)), some (.inl (zf)), some (.inl (zp))] [] h Q := me_seg (mp_bl_0 h d zf zp) (mi_tab_bl_0) hS (mi_okL_c (trivial) (mi_okL_c (ok_zf) (mi_okL_c (ok_zp) (mi_okL_e)))) (mi_okS_e) (mi_al (ho) (mi_al_e)) (fun h1 W _ hst => me_ret (M := (3, 0, sb_184)) rfl rfl rfl hst (mi_al_e) (kon h1 W))
set_option maxRecDepth 20000 in
theorem mp_bl_1 (h : sm_H) (d : Nat) (zf zp : Int) : mi_path [(184, (3, 0, sb_184))] sx_sk h 10 [0, 8] (d, 184, 0, [some (.inr (.inr 109)), some (.inl (zf)), some (.inl (zp))], [], [], []) = some ((d, 184, 17, [some (.inr (.inr 109)), some (.inl (zf)), some (.inl (zp))], [], [.inl (13960, zf + (((16 : Int)) * zp))], []), [(mi_f h 13960) = ((0 : Int)), -2147483648 ≤ ((16 : Int)) * zp ∧ ((16 : Int)) * zp ≤ 2147483647, -2147483648 ≤ zf + (((16 : Int)) * zp) ∧ zf + (((16 : Int)) * zp) ≤ 2147483647]) := rfl
theorem mi_tab_bl_1 : ∀ e ∈ ([(184, (3, 0, sb_184))] : mi_T), sc_P e.1 = some e.2 := mi_tb mi_P184 (mi_tb_e)
set_option maxRecDepth 20000 in
theorem ms_bl_1 {h : sm_H} {d : Nat} {Q : Option mi_V → sm_H → Prop} {zf zp : Int} (hS : ab_Sh sx_sk h) (ok_zf : mi_in zf) (ok_zp : mi_in zp) (ho : ((mi_f h 13960) = ((0 : Int))) ∧ (-2147483648 ≤ ((16 : Int)) * zp ∧ ((16 : Int)) * zp ≤ 2147483647) ∧ (-2147483648 ≤ zf + (((16 : Int)) * zp) ∧ zf + (((16 : Int)) * zp) ≤ 2147483647)) (kon : ∀ h1, me_W [.inl (13960, zf + (((16 : Int)) * zp))] h h1 → Q none h1) : me_E (d) 184 0 [some (.inr (.inr 109)), some (.inl (zf)), some (.inl (zp))] [] h Q := me_seg (mp_bl_1 h d zf zp) (mi_tab_bl_1) hS (mi_okL_c (trivial) (mi_okL_c (ok_zf) (mi_okL_c (ok_zp) (mi_okL_e)))) (mi_okS_e) (mi_al (ho.1) (mi_al (ho.2.1) (mi_al (ho.2.2) (mi_al_e)))) (fun h1 W _ hst => me_ret (M := (3, 0, sb_184)) rfl rfl rfl hst (mi_al_e) (kon h1 W))
set_option maxRecDepth 20000 in
theorem mt_bl {h : sm_H} {d : Nat} {Q : Option mi_V → sm_H → Prop} {zf zp : Int} (hS : ab_Sh sx_sk h) (ok_zf : mi_in zf) (ok_zp : mi_in zp) (k0 : ((-2147483648) ≤ mi_f h 13960 ∧ mi_f h 13960 ≤ 2147483647) → ((mi_f h 13960) ≠ ((0 : Int))) → (∀ h1, ab_Sh sx_sk h1 → ab_Fr [] h h1 → Q none h1)) (k1 : ((-2147483648) ≤ mi_f h 13960 ∧ mi_f h 13960 ≤ 2147483647) → ((mi_f h 13960) = ((0 : Int))) → ((-2147483648 ≤ ((16 : Int)) * zp ∧ ((16 : Int)) * zp ≤ 2147483647) ∧ (-2147483648 ≤ zf + (((16 : Int)) * zp) ∧ zf + (((16 : Int)) * zp) ≤ 2147483647)) ∧ (∀ h1, ab_Sh sx_sk h1 → mi_f h1 13960 = zf + (((16 : Int)) * zp) → ab_Fr [(13960, 13961)] h h1 → Q none h1)) : me_E (d) 184 0 [some (.inr (.inr 109)), some (.inl (zf)), some (.inl (zp))] [] h Q := Or.elim (mi_em .ne ((mi_f h 13960)) (((0 : Int)))) (fun c0 => ms_bl_0 hS ok_zf ok_zp (c0) (fun h1 W => (k0 (me_fb hS rfl) c0) h1 W.1 (W.2.2.2.2.2 _ rfl))) (fun c0 => ms_bl_1 hS ok_zf ok_zp ⟨c0, (k1 (me_fb hS rfl) c0).1.1, (k1 (me_fb hS rfl) c0).1.2⟩ (fun h1 W => (k1 (me_fb hS rfl) c0).2 h1 W.1 (W.2.1 13960) (W.2.2.2.2.2 _ rfl)))
set_option maxRecDepth 20000 in
theorem mp_bgA_0 (h : sm_H) (d : Nat) (zp : Int) : mi_path [(187, (4, 0, sb_187))] sx_sk h 43 [8, 1] (d, 187, 0, [some (.inr (.inr 109)), some (.inl (zp)), none, none], [], [], []) = some ((d, 187, 77, [some (.inr (.inr 109)), some (.inl (zp)), some (.inl (mi_f h 13964)), some (.inl (mi_a h 146 (Int.toNat (mi_f h 14003))))], [], [.inr (.inr (.inl (128, Int.toNat (mi_a h 147 (Int.toNat (mi_f h 14003))), mi_f h 13964))), .inr (.inr (.inl (127, Int.toNat (mi_f h 13964), zp))), .inr (.inr (.inl (126, Int.toNat (mi_f h 13964), (-1 : Int)))), .inr (.inr (.inl (128, Int.toNat (mi_f h 13964), (-1 : Int)))), .inl (13964, (mi_f h 13964) + ((1 : Int)))], []), [-2147483648 ≤ (mi_f h 13964) + ((1 : Int)) ∧ (mi_f h 13964) + ((1 : Int)) ≤ 2147483647, 0 ≤ ((mi_f h 13964) + ((1 : Int))) ∧ ((mi_f h 13964) + ((1 : Int))) ≤ 80, 0 ≤ (mi_f h 13964) ∧ (mi_f h 13964) < 80, (-1) ≤ ((-1 : Int)) ∧ ((-1 : Int)) ≤ 79, 0 ≤ (mi_f h 13964) ∧ (mi_f h 13964) < 80, (-1) ≤ ((-1 : Int)) ∧ ((-1 : Int)) ≤ 59, 0 ≤ (mi_f h 13964) ∧ (mi_f h 13964) < 80, 0 ≤ (mi_f h 14003) ∧ (mi_f h 14003) < 6, 0 ≤ (mi_a h 146 (Int.toNat (mi_f h 14003))) ∧ (mi_a h 146 (Int.toNat (mi_f h 14003))) < 80, (mi_a h 130 (Int.toNat (mi_a h 146 (Int.toNat (mi_f h 14003))))) ≠ ((0 : Int)), 0 ≤ (mi_f h 14003) ∧ (mi_f h 14003) < 6, 0 ≤ (mi_a h 147 (Int.toNat (mi_f h 14003))) ∧ (mi_a h 147 (Int.toNat (mi_f h 14003))) < 80, (-1) ≤ (mi_f h 13964) ∧ (mi_f h 13964) ≤ 79]) := rfl
theorem mi_tab_bgA_0 : ∀ e ∈ ([(187, (4, 0, sb_187))] : mi_T), sc_P e.1 = some e.2 := mi_tb mi_P187 (mi_tb_e)
set_option maxRecDepth 20000 in
theorem ms_bgA_0 {h : sm_H} {d : Nat} {Q : Option mi_V → sm_H → Prop} {zp : Int} (hS : ab_Sh sx_sk h) (ok_zp : mi_in zp) (ho : (-2147483648 ≤ (mi_f h 13964) + ((1 : Int)) ∧ (mi_f h 13964) + ((1 : Int)) ≤ 2147483647) ∧ (0 ≤ ((mi_f h 13964) + ((1 : Int))) ∧ ((mi_f h 13964) + ((1 : Int))) ≤ 80) ∧ (0 ≤ (mi_f h 13964) ∧ (mi_f h 13964) < 80) ∧ ((-1) ≤ ((-1 : Int)) ∧ ((-1 : Int)) ≤ 79) ∧ (0 ≤ (mi_f h 13964) ∧ (mi_f h 13964) < 80) ∧ ((-1) ≤ ((-1 : Int)) ∧ ((-1 : Int)) ≤ 59) ∧ (0 ≤ (mi_f h 13964) ∧ (mi_f h 13964) < 80) ∧ (0 ≤ (mi_f h 14003) ∧ (mi_f h 14003) < 6) ∧ (0 ≤ (mi_a h 146 (Int.toNat (mi_f h 14003))) ∧ (mi_a h 146 (Int.toNat (mi_f h 14003))) < 80) ∧ ((mi_a h 130 (Int.toNat (mi_a h 146 (Int.toNat (mi_f h 14003))))) ≠ ((0 : Int))) ∧ (0 ≤ (mi_f h 14003) ∧ (mi_f h 14003) < 6) ∧ (0 ≤ (mi_a h 147 (Int.toNat (mi_f h 14003))) ∧ (mi_a h 147 (Int.toNat (mi_f h 14003))) < 80) ∧ ((-1) ≤ (mi_f h 13964) ∧ (mi_f h 13964) ≤ 79)) (kon : ∀ h1, me_W [.inr (.inr (.inl (128, Int.toNat (mi_a h 147 (Int.toNat (mi_f h 14003))), mi_f h 13964))), .inr (.inr (.inl (127, Int.toNat (mi_f h 13964), zp))), .inr (.inr (.inl (126, Int.toNat (mi_f h 13964), (-1 : Int)))), .inr (.inr (.inl (128, Int.toNat (mi_f h 13964), (-1 : Int)))), .inl (13964, (mi_f h 13964) + ((1 : Int)))] h h1 → me_E (d) 187 77 [some (.inr (.inr 109)), some (.inl (zp)), some (.inl (mi_f h 13964)), some (.inl (mi_a h 146 (Int.toNat (mi_f h 14003))))] [] h1 Q) : me_E (d) 187 0 [some (.inr (.inr 109)), some (.inl (zp)), none, none] [] h Q := me_seg (mp_bgA_0 h d zp) (mi_tab_bgA_0) hS (mi_okL_c (trivial) (mi_okL_c (ok_zp) (mi_okL_n (mi_okL_n (mi_okL_e))))) (mi_okS_e) (mi_al (ho.1) (mi_al (ho.2.1) (mi_al (ho.2.2.1) (mi_al (ho.2.2.2.1) (mi_al (ho.2.2.2.2.1) (mi_al (ho.2.2.2.2.2.1) (mi_al (ho.2.2.2.2.2.2.1) (mi_al (ho.2.2.2.2.2.2.2.1) (mi_al (ho.2.2.2.2.2.2.2.2.1) (mi_al (ho.2.2.2.2.2.2.2.2.2.1) (mi_al (ho.2.2.2.2.2.2.2.2.2.2.1) (mi_al (ho.2.2.2.2.2.2.2.2.2.2.2.1) (mi_al (ho.2.2.2.2.2.2.2.2.2.2.2.2) (mi_al_e)))))))))))))) (fun h1 W _ hst => kon h1 W)
set_option maxRecDepth 20000 in
theorem mp_bgA_1 (h : sm_H) (d : Nat) (zp : Int) : mi_path [(187, (4, 0, sb_187))] sx_sk h 40 [8, 0] (d, 187, 0, [some (.inr (.inr 109)), some (.inl (zp)), none, none], [], [], []) = some ((d, 187, 77, [some (.inr (.inr 109)), some (.inl (zp)), some (.inl (mi_f h 13964)), some (.inl (mi_a h 146 (Int.toNat (mi_f h 14003))))], [], [.inr (.inr (.inl (129, Int.toNat (mi_a h 146 (Int.toNat (mi_f h 14003))), mi_f h 13964))), .inr (.inr (.inl (127, Int.toNat (mi_f h 13964), zp))), .inr (.inr (.inl (126, Int.toNat (mi_f h 13964), (-1 : Int)))), .inr (.inr (.inl (128, Int.toNat (mi_f h 13964), (-1 : Int)))), .inl (13964, (mi_f h 13964) + ((1 : Int)))], []), [-2147483648 ≤ (mi_f h 13964) + ((1 : Int)) ∧ (mi_f h 13964) + ((1 : Int)) ≤ 2147483647, 0 ≤ ((mi_f h 13964) + ((1 : Int))) ∧ ((mi_f h 13964) + ((1 : Int))) ≤ 80, 0 ≤ (mi_f h 13964) ∧ (mi_f h 13964) < 80, (-1) ≤ ((-1 : Int)) ∧ ((-1 : Int)) ≤ 79, 0 ≤ (mi_f h 13964) ∧ (mi_f h 13964) < 80, (-1) ≤ ((-1 : Int)) ∧ ((-1 : Int)) ≤ 59, 0 ≤ (mi_f h 13964) ∧ (mi_f h 13964) < 80, 0 ≤ (mi_f h 14003) ∧ (mi_f h 14003) < 6, 0 ≤ (mi_a h 146 (Int.toNat (mi_f h 14003))) ∧ (mi_a h 146 (Int.toNat (mi_f h 14003))) < 80, (mi_a h 130 (Int.toNat (mi_a h 146 (Int.toNat (mi_f h 14003))))) = ((0 : Int)), 0 ≤ (mi_a h 146 (Int.toNat (mi_f h 14003))) ∧ (mi_a h 146 (Int.toNat (mi_f h 14003))) < 80, (-1) ≤ (mi_f h 13964) ∧ (mi_f h 13964) ≤ 79]) := rfl
theorem mi_tab_bgA_1 : ∀ e ∈ ([(187, (4, 0, sb_187))] : mi_T), sc_P e.1 = some e.2 := mi_tb mi_P187 (mi_tb_e)
set_option maxRecDepth 20000 in
theorem ms_bgA_1 {h : sm_H} {d : Nat} {Q : Option mi_V → sm_H → Prop} {zp : Int} (hS : ab_Sh sx_sk h) (ok_zp : mi_in zp) (ho : (-2147483648 ≤ (mi_f h 13964) + ((1 : Int)) ∧ (mi_f h 13964) + ((1 : Int)) ≤ 2147483647) ∧ (0 ≤ ((mi_f h 13964) + ((1 : Int))) ∧ ((mi_f h 13964) + ((1 : Int))) ≤ 80) ∧ (0 ≤ (mi_f h 13964) ∧ (mi_f h 13964) < 80) ∧ ((-1) ≤ ((-1 : Int)) ∧ ((-1 : Int)) ≤ 79) ∧ (0 ≤ (mi_f h 13964) ∧ (mi_f h 13964) < 80) ∧ ((-1) ≤ ((-1 : Int)) ∧ ((-1 : Int)) ≤ 59) ∧ (0 ≤ (mi_f h 13964) ∧ (mi_f h 13964) < 80) ∧ (0 ≤ (mi_f h 14003) ∧ (mi_f h 14003) < 6) ∧ (0 ≤ (mi_a h 146 (Int.toNat (mi_f h 14003))) ∧ (mi_a h 146 (Int.toNat (mi_f h 14003))) < 80) ∧ ((mi_a h 130 (Int.toNat (mi_a h 146 (Int.toNat (mi_f h 14003))))) = ((0 : Int))) ∧ (0 ≤ (mi_a h 146 (Int.toNat (mi_f h 14003))) ∧ (mi_a h 146 (Int.toNat (mi_f h 14003))) < 80) ∧ ((-1) ≤ (mi_f h 13964) ∧ (mi_f h 13964) ≤ 79)) (kon : ∀ h1, me_W [.inr (.inr (.inl (129, Int.toNat (mi_a h 146 (Int.toNat (mi_f h 14003))), mi_f h 13964))), .inr (.inr (.inl (127, Int.toNat (mi_f h 13964), zp))), .inr (.inr (.inl (126, Int.toNat (mi_f h 13964), (-1 : Int)))), .inr (.inr (.inl (128, Int.toNat (mi_f h 13964), (-1 : Int)))), .inl (13964, (mi_f h 13964) + ((1 : Int)))] h h1 → me_E (d) 187 77 [some (.inr (.inr 109)), some (.inl (zp)), some (.inl (mi_f h 13964)), some (.inl (mi_a h 146 (Int.toNat (mi_f h 14003))))] [] h1 Q) : me_E (d) 187 0 [some (.inr (.inr 109)), some (.inl (zp)), none, none] [] h Q := me_seg (mp_bgA_1 h d zp) (mi_tab_bgA_1) hS (mi_okL_c (trivial) (mi_okL_c (ok_zp) (mi_okL_n (mi_okL_n (mi_okL_e))))) (mi_okS_e) (mi_al (ho.1) (mi_al (ho.2.1) (mi_al (ho.2.2.1) (mi_al (ho.2.2.2.1) (mi_al (ho.2.2.2.2.1) (mi_al (ho.2.2.2.2.2.1) (mi_al (ho.2.2.2.2.2.2.1) (mi_al (ho.2.2.2.2.2.2.2.1) (mi_al (ho.2.2.2.2.2.2.2.2.1) (mi_al (ho.2.2.2.2.2.2.2.2.2.1) (mi_al (ho.2.2.2.2.2.2.2.2.2.2.1) (mi_al (ho.2.2.2.2.2.2.2.2.2.2.2) (mi_al_e))))))))))))) (fun h1 W _ hst => kon h1 W)
set_option maxRecDepth 20000 in
theorem mt_bgA {h : sm_H} {d : Nat} {Q : Option mi_V → sm_H → Prop} {zp : Int} (hS : ab_Sh sx_sk h) (ok_zp : mi_in zp) (k0 : (0 ≤ mi_f h 14003 ∧ mi_f h 14003 ≤ 5) → (0 ≤ mi_f h 13964 ∧ mi_f h 13964 ≤ 80) → ((mi_a h 130 (Int.toNat (mi_a h 146 (Int.toNat (mi_f h 14003))))) ≠ ((0 : Int))) → ((-2147483648 ≤ (mi_f h 13964) + ((1 : Int)) ∧ (mi_f h 13964) + ((1 : Int)) ≤ 2147483647) ∧ (0 ≤ ((mi_f h 13964) + ((1 : Int))) ∧ ((mi_f h 13964) + ((1 : Int))) ≤ 80) ∧ (0 ≤ (mi_f h 13964) ∧ (mi_f h 13964) < 80) ∧ (0 ≤ (mi_f h 14003) ∧ (mi_f h 14003) < 6) ∧ (0 ≤ (mi_a h 146 (Int.toNat (mi_f h 14003))) ∧ (mi_a h 146 (Int.toNat (mi_f h 14003))) < 80) ∧ (0 ≤ (mi_a h 147 (Int.toNat (mi_f h 14003))) ∧ (mi_a h 147 (Int.toNat (mi_f h 14003))) < 80) ∧ ((-1) ≤ (mi_f h 13964) ∧ (mi_f h 13964) ≤ 79)) ∧ (∀ h1, ab_Sh sx_sk h1 → mi_f h1 13964 = (mi_f h 13964) + ((1 : Int)) → (∀ i, mi_a h1 126 i = if i = Int.toNat (mi_f h 13964) then (-1 : Int) else (mi_a h 126 i)) → (∀ i, mi_a h1 127 i = if i = Int.toNat (mi_f h 13964) then zp else (mi_a h 127 i)) → (∀ i, mi_a h1 128 i = if i = Int.toNat (mi_a h 147 (Int.toNat (mi_f h 14003))) then mi_f h 13964 else if i = Int.toNat (mi_f h 13964) then (-1 : Int) else (mi_a h 128 i)) → ab_Fr [(13964, 13965), (16128, 16129), (16256, 16257), (16384, 16385)] h h1 → me_E (d) 187 77 [some (.inr (.inr 109)), some (.inl (zp)), some (.inl (mi_f h 13964)), some (.inl (mi_a h 146 (Int.toNat (mi_f h 14003))))] [] h1 Q)) (k1 : (0 ≤ mi_f h 14003 ∧ mi_f h 14003 ≤ 5) → (0 ≤ mi_f h 13964 ∧ mi_f h 13964 ≤ 80) → ((mi_a h 130 (Int.toNat (mi_a h 146 (Int.toNat (mi_f h 14003))))) = ((0 : Int))) → ((-2147483648 ≤ (mi_f h 13964) + ((1 : Int)) ∧ (mi_f h 13964) + ((1 : Int)) ≤ 2147483647) ∧ (0 ≤ ((mi_f h 13964) + ((1 : Int))) ∧ ((mi_f h 13964) + ((1 : Int))) ≤ 80) ∧ (0 ≤ (mi_f h 13964) ∧ (mi_f h 13964) < 80) ∧ (0 ≤ (mi_f h 14003) ∧ (mi_f h 14003) < 6) ∧ (0 ≤ (mi_a h 146 (Int.toNat (mi_f h 14003))) ∧ (mi_a h 146 (Int.toNat (mi_f h 14003))) < 80) ∧ ((-1) ≤ (mi_f h 13964) ∧ (mi_f h 13964) ≤ 79)) ∧ (∀ h1, ab_Sh sx_sk h1 → mi_f h1 13964 = (mi_f h 13964) + ((1 : Int)) → (∀ i, mi_a h1 126 i = if i = Int.toNat (mi_f h 13964) then (-1 : Int) else (mi_a h 126 i)) → (∀ i, mi_a h1 127 i = if i = Int.toNat (mi_f h 13964) then zp else (mi_a h 127 i)) → (∀ i, mi_a h1 128 i = if i = Int.toNat (mi_f h 13964) then (-1 : Int) else (mi_a h 128 i)) → (∀ i, mi_a h1 129 i = if i = Int.toNat (mi_a h 146 (Int.toNat (mi_f h 14003))) then mi_f h 13964 else (mi_a h 129 i)) → ab_Fr [(13964, 13965), (16128, 16129), (16256, 16257), (16384, 16385), (16512, 16513)] h h1 → me_E (d) 187 77 [some (.inr (.inr 109)), some (.inl (zp)), some (.inl (mi_f h 13964)), some (.inl (mi_a h 146 (Int.toNat (mi_f h 14003))))] [] h1 Q)) : me_E (d) 187 0 [some (.inr (.inr 109)), some (.inl (zp)), none, none] [] h Q := Or.elim (mi_em .ne ((mi_a h 130 (Int.toNat (mi_a h 146 (Int.toNat (mi_f h 14003)))))) (((0 : Int)))) (fun c0 => ms_bgA_0 hS ok_zp ⟨(k0 (me_fb hS rfl) (me_fb hS rfl) c0).1.1, (k0 (me_fb hS rfl) (me_fb hS rfl) c0).1.2.1, (k0 (me_fb hS rfl) (me_fb hS rfl) c0).1.2.2.1, (by decide), (k0 (me_fb hS rfl) (me_fb hS rfl) c0).1.2.2.1, (by decide), (k0 (me_fb hS rfl) (me_fb hS rfl) c0).1.2.2.1, (k0 (me_fb hS rfl) (me_fb hS rfl) c0).1.2.2.2.1, (k0 (me_fb hS rfl) (me_fb hS rfl) c0).1.2.2.2.2.1, c0, (k0 (me_fb hS rfl) (me_fb hS rfl) c0).1.2.2.2.1, (k0 (me_fb hS rfl) (me_fb hS rfl) c0).1.2.2.2.2.2.1, (k0 (me_fb hS rfl) (me_fb hS rfl) c0).1.2.2.2.2.2.2⟩ (fun h1 W => (k0 (me_fb hS rfl) (me_fb hS rfl) c0).2 h1 W.1 (W.2.1 13964) (fun i => W.2.2.1 126 i) (fun i => W.2.2.1 127 i) (fun i => W.2.2.1 128 i) (W.2.2.2.2.2 _ rfl))) (fun c0 => ms_bgA_1 hS ok_zp ⟨(k1 (me_fb hS rfl) (me_fb hS rfl) c0).1.1, (k1 (me_fb hS rfl) (me_fb hS rfl) c0).1.2.1, (k1 (me_fb hS rfl) (me_fb hS rfl) c0).1.2.2.1, (by decide), (k1 (me_fb hS rfl) (me_fb hS rfl) c0).1.2.2.1, (by decide), (k1 (me_fb hS rfl) (me_fb hS rfl) c0).1.2.2.1, (k1 (me_fb hS rfl) (me_fb hS rfl) c0).1.2.2.2.1, (k1 (me_fb hS rfl) (me_fb hS rfl) c0).1.2.2.2.2.1, c0, (k1 (me_fb hS rfl) (me_fb hS rfl) c0).1.2.2.2.2.1, (k1 (me_fb hS rfl) (me_fb hS rfl) c0).1.2.2.2.2.2⟩ (fun h1 W => (k1 (me_fb hS rfl) (me_fb hS rfl) c0).2 h1 W.1 (W.2.1 13964) (fun i => W.2.2.1 126 i) (fun i => W.2.2.1 127 i) (fun i => W.2.2.1 128 i) (fun i => W.2.2.1 129 i) (W.2.2.2.2.2 _ rfl)))
set_option maxRecDepth 20000 in
theorem mp_bgB_0 (h : sm_H) (d : Nat) (zp za zf : Int) : mi_path [(187, (4, 0, sb_187))] sx_sk h 32 [8] (d, 187, 77, [some (.inr (.inr 109)), some (.inl (zp)), some (.inl (za)), some (.inl (zf))], [], [], []) = some ((d, 187, 127, [some (.inr (.inr 109)), some (.inl (zp)), some (.inl (za)), some (.inl (zf))], [], [.inr (.inr (.inl (151, Int.toNat (mi_f h 14003), (0 : Int)))), .inr (.inr (.inl (149, Int.toNat (mi_f h 14003), (-1 : Int)))), .inr (.inr (.inl (150, Int.toNat (mi_f h 14003), (-1 : Int)))), .inr (.inr (.inl (147, Int.toNat (mi_f h 14003), za))), .inr (.inr (.inl (130, Int.toNat zf, (mi_a h 130 (Int.toNat zf)) + ((1 : Int)))))], []), [0 ≤ zf ∧ zf < 80, -2147483648 ≤ (mi_a h 130 (Int.toNat zf)) + ((1 : Int)) ∧ (mi_a h 130 (Int.toNat zf)) + ((1 : Int)) ≤ 2147483647, 0 ≤ zf ∧ zf < 80, 0 ≤ ((mi_a h 130 (Int.toNat zf)) + ((1 : Int))) ∧ ((mi_a h 130 (Int.toNat zf)) + ((1 : Int))) ≤ 7, 0 ≤ (mi_f h 14003) ∧ (mi_f h 14003) < 6, 0 ≤ za ∧ za ≤ 79, 0 ≤ (mi_f h 14003) ∧ (mi_f h 14003) < 6, (-1) ≤ ((-1 : Int)) ∧ ((-1 : Int)) ≤ 59, 0 ≤ (mi_f h 14003) ∧ (mi_f h 14003) < 6, (-1) ≤ ((-1 : Int)) ∧ ((-1 : Int)) ≤ 59, 0 ≤ (mi_f h 14003) ∧ (mi_f h 14003) < 6, 0 ≤ ((0 : Int)) ∧ ((0 : Int)) ≤ 1]) := rfl
theorem mi_tab_bgB_0 : ∀ e ∈ ([(187, (4, 0, sb_187))] : mi_T), sc_P e.1 = some e.2 := mi_tb mi_P187 (mi_tb_e)
set_option maxRecDepth 20000 in
theorem ms_bgB_0 {h : sm_H} {d : Nat} {Q : Option mi_V → sm_H → Prop} {zp za zf : Int} (hS : ab_Sh sx_sk h) (ok_zp : mi_in zp) (ok_za : mi_in za) (ok_zf : mi_in zf) (ho : (0 ≤ zf ∧ zf < 80) ∧ (-2147483648 ≤ (mi_a h 130 (Int.toNat zf)) + ((1 : Int)) ∧ (mi_a h 130 (Int.toNat zf)) + ((1 : Int)) ≤ 2147483647) ∧ (0 ≤ zf ∧ zf < 80) ∧ (0 ≤ ((mi_a h 130 (Int.toNat zf)) + ((1 : Int))) ∧ ((mi_a h 130 (Int.toNat zf)) + ((1 : Int))) ≤ 7) ∧ (0 ≤ (mi_f h 14003) ∧ (mi_f h 14003) < 6) ∧ (0 ≤ za ∧ za ≤ 79) ∧ (0 ≤ (mi_f h 14003) ∧ (mi_f h 14003) < 6) ∧ ((-1) ≤ ((-1 : Int)) ∧ ((-1 : Int)) ≤ 59) ∧ (0 ≤ (mi_f h 14003) ∧ (mi_f h 14003) < 6) ∧ ((-1) ≤ ((-1 : Int)) ∧ ((-1 : Int)) ≤ 59) ∧ (0 ≤ (mi_f h 14003) ∧ (mi_f h 14003) < 6) ∧ (0 ≤ ((0 : Int)) ∧ ((0 : Int)) ≤ 1)) (kon : ∀ h1, me_W [.inr (.inr (.inl (151, Int.toNat (mi_f h 14003), (0 : Int)))), .inr (.inr (.inl (149, Int.toNat (mi_f h 14003), (-1 : Int)))), .inr (.inr (.inl (150, Int.toNat (mi_f h 14003), (-1 : Int)))), .inr (.inr (.inl (147, Int.toNat (mi_f h 14003), za))), .inr (.inr (.inl (130, Int.toNat zf, (mi_a h 130 (Int.toNat zf)) + ((1 : Int)))))] h h1 → Q none h1) : me_E (d) 187 77 [some (.inr (.inr 109)), some (.inl (zp)), some (.inl (za)), some (.inl (zf))] [] h Q := me_seg (mp_bgB_0 h d zp za zf) (mi_tab_bgB_0) hS (mi_okL_c (trivial) (mi_okL_c (ok_zp) (mi_okL_c (ok_za) (mi_okL_c (ok_zf) (mi_okL_e))))) (mi_okS_e) (mi_al (ho.1) (mi_al (ho.2.1) (mi_al (ho.2.2.1) (mi_al (ho.2.2.2.1) (mi_al (ho.2.2.2.2.1) (mi_al (ho.2.2.2.2.2.1) (mi_al (ho.2.2.2.2.2.2.1) (mi_al (ho.2.2.2.2.2.2.2.1) (mi_al (ho.2.2.2.2.2.2.2.2.1) (mi_al (ho.2.2.2.2.2.2.2.2.2.1) (mi_al (ho.2.2.2.2.2.2.2.2.2.2.1) (mi_al (ho.2.2.2.2.2.2.2.2.2.2.2) (mi_al_e))))))))))))) (fun h1 W _ hst => me_ret (M := (4, 0, sb_187)) rfl rfl rfl hst (mi_al_e) (kon h1 W))
set_option maxRecDepth 20000 in
theorem mt_bgB {h : sm_H} {d : Nat} {Q : Option mi_V → sm_H → Prop} {zp za zf : Int} (hS : ab_Sh sx_sk h) (ok_zp : mi_in zp) (ok_za : mi_in za) (ok_zf : mi_in zf) (k0 : (0 ≤ mi_f h 14003 ∧ mi_f h 14003 ≤ 5) → ((0 ≤ zf ∧ zf < 80) ∧ (-2147483648 ≤ (mi_a h 130 (Int.toNat zf)) + ((1 : Int)) ∧ (mi_a h 130 (Int.toNat zf)) + ((1 : Int)) ≤ 2147483647) ∧ (0 ≤ ((mi_a h 130 (Int.toNat zf)) + ((1 : Int))) ∧ ((mi_a h 130 (Int.toNat zf)) + ((1 : Int))) ≤ 7) ∧ (0 ≤ (mi_f h 14003) ∧ (mi_f h 14003) < 6) ∧ (0 ≤ za ∧ za ≤ 79)) ∧ (∀ h1, ab_Sh sx_sk h1 → (∀ i, mi_a h1 130 i = if i = Int.toNat zf then (mi_a h 130 (Int.toNat zf)) + ((1 : Int)) else (mi_a h 130 i)) → (∀ i, mi_a h1 147 i = if i = Int.toNat (mi_f h 14003) then za else (mi_a h 147 i)) → (∀ i, mi_a h1 149 i = if i = Int.toNat (mi_f h 14003) then (-1 : Int) else (mi_a h 149 i)) → (∀ i, mi_a h1 150 i = if i = Int.toNat (mi_f h 14003) then (-1 : Int) else (mi_a h 150 i)) → (∀ i, mi_a h1 151 i = if i = Int.toNat (mi_f h 14003) then (0 : Int) else (mi_a h 151 i)) → ab_Fr [(16640, 16641), (18816, 18817), (19072, 19073), (19200, 19201), (19328, 19329)] h h1 → Q none h1)) : me_E (d) 187 77 [some (.inr (.inr 109)), some (.inl (zp)), some (.inl (za)), some (.inl (zf))] [] h Q := ms_bgB_0 hS ok_zp ok_za ok_zf ⟨(k0 (me_fb hS rfl)).1.1, (k0 (me_fb hS rfl)).1.2.1, (k0 (me_fb hS rfl)).1.1, (k0 (me_fb hS rfl)).1.2.2.1, (k0 (me_fb hS rfl)).1.2.2.2.1, (k0 (me_fb hS rfl)).1.2.2.2.2, (k0 (me_fb hS rfl)).1.2.2.2.1, (by decide), (k0 (me_fb hS rfl)).1.2.2.2.1, (by decide), (k0 (me_fb hS rfl)).1.2.2.2.1, (by decide)⟩ (fun h1 W => (k0 (me_fb hS rfl)).2 h1 W.1 (fun i => W.2.2.1 130 i) (fun i => W.2.2.1 147 i) (fun i => W.2.2.1 149 i) (fun i => W.2.2.1 150 i) (fun i => W.2.2.1 151 i) (W.2.2.2.2.2 _ rfl))
set_option maxRecDepth 20000 in
theorem mp_puA_0 (h : sm_H) (d : Nat) (zu : Int) : mi_path [(192, (2, 0, sb_192))] sx_sk h 21 [1, 1] (d, 192, 0, [some (.inr (.inr 109)), some (.inl (zu))], [], [], []) = some ((d, 192, 75, [some (.inr (.inr 109)), some (.inl (zu))], [], [.inr (.inr (.inl (125, Int.toNat (mi_a h 149 (Int.toNat (mi_f h 14003))), zu)))], []), [0 ≤ (mi_f h 14003) ∧ (mi_f h 14003) < 6, (mi_a h 151 (Int.toNat (mi_f h 14003))) = ((0 : Int)), 0 ≤ (mi_f h 14003) ∧ (mi_f h 14003) < 6, ((0 : Int)) ≤ (mi_a h 149 (Int.toNat (mi_f h 14003))), 0 ≤ (mi_f h 14003) ∧ (mi_f h 14003) < 6, 0 ≤ (mi_a h 149 (Int.toNat (mi_f h 14003))) ∧ (mi_a h 149 (Int.toNat (mi_f h 14003))) < 60, (-1) ≤ zu ∧ zu ≤ 59]) := rfl
theorem mi_tab_puA_0 : ∀ e ∈ ([(192, (2, 0, sb_192))] : mi_T), sc_P e.1 = some e.2 := mi_tb mi_P192 (mi_tb_e)
set_option maxRecDepth 20000 in
theorem ms_puA_0 {h : sm_H} {d : Nat} {Q : Option mi_V → sm_H → Prop} {zu : Int} (hS : ab_Sh sx_sk h) (ok_zu : mi_in zu) (ho : (0 ≤ (mi_f h 14003) ∧ (mi_f h 14003) < 6) ∧ ((mi_a h 151 (Int.toNat (mi_f h 14003))) = ((0 : Int))) ∧ (0 ≤ (mi_f h 14003) ∧ (mi_f h 14003) < 6) ∧ (((0 : Int)) ≤ (mi_a h 149 (Int.toNat (mi_f h 14003)))) ∧ (0 ≤ (mi_f h 14003) ∧ (mi_f h 14003) < 6) ∧ (0 ≤ (mi_a h 149 (Int.toNat (mi_f h 14003))) ∧ (mi_a h 149 (Int.toNat (mi_f h 14003))) < 60) ∧ ((-1) ≤ zu ∧ zu ≤ 59)) (kon : ∀ h1, me_W [.inr (.inr (.inl (125, Int.toNat (mi_a h 149 (Int.toNat (mi_f h 14003))), zu)))] h h1 → me_E (d) 192 75 [some (.inr (.inr 109)), some (.inl (zu))] [] h1 Q) : me_E (d) 192 0 [some (.inr (.inr 109)), some (.inl (zu))] [] h Q := me_seg (mp_puA_0 h d zu) (mi_tab_puA_0) hS (mi_okL_c (trivial) (mi_okL_c (ok_zu) (mi_okL_e))) (mi_okS_e) (mi_al (ho.1) (mi_al (ho.2.1) (mi_al (ho.2.2.1) (mi_al (ho.2.2.2.1) (mi_al (ho.2.2.2.2.1) (mi_al (ho.2.2.2.2.2.1) (mi_al (ho.2.2.2.2.2.2) (mi_al_e)))))))) (fun h1 W _ hst => kon h1 W)
set_option maxRecDepth 20000 in
theorem mp_puA_1 (h : sm_H) (d : Nat) (zu : Int) : mi_path [(192, (2, 0, sb_192))] sx_sk h 22 [1, 0] (d, 192, 0, [some (.inr (.inr 109)), some (.inl (zu))], [], [], []) = some ((d, 192, 75, [some (.inr (.inr 109)), some (.inl (zu))], [], [.inr (.inr (.inl (126, Int.toNat (mi_a h 147 (Int.toNat (mi_f h 14003))), zu)))], []), [0 ≤ (mi_f h 14003) ∧ (mi_f h 14003) < 6, (mi_a h 151 (Int.toNat (mi_f h 14003))) = ((0 : Int)), 0 ≤ (mi_f h 14003) ∧ (mi_f h 14003) < 6, (mi_a h 149 (Int.toNat (mi_f h 14003))) < ((0 : Int)), 0 ≤ (mi_f h 14003) ∧ (mi_f h 14003) < 6, 0 ≤ (mi_a h 147 (Int.toNat (mi_f h 14003))) ∧ (mi_a h 147 (Int.toNat (mi_f h 14003))) < 80, (-1) ≤ zu ∧ zu ≤ 59]) := rfl
theorem mi_tab_puA_1 : ∀ e ∈ ([(192, (2, 0, sb_192))] : mi_T), sc_P e.1 = some e.2 := mi_tb mi_P192 (mi_tb_e)
set_option maxRecDepth 20000 in
theorem ms_puA_1 {h : sm_H} {d : Nat} {Q : Option mi_V → sm_H → Prop} {zu : Int} (hS : ab_Sh sx_sk h) (ok_zu : mi_in zu) (ho : (0 ≤ (mi_f h 14003) ∧ (mi_f h 14003) < 6) ∧ ((mi_a h 151 (Int.toNat (mi_f h 14003))) = ((0 : Int))) ∧ (0 ≤ (mi_f h 14003) ∧ (mi_f h 14003) < 6) ∧ ((mi_a h 149 (Int.toNat (mi_f h 14003))) < ((0 : Int))) ∧ (0 ≤ (mi_f h 14003) ∧ (mi_f h 14003) < 6) ∧ (0 ≤ (mi_a h 147 (Int.toNat (mi_f h 14003))) ∧ (mi_a h 147 (Int.toNat (mi_f h 14003))) < 80) ∧ ((-1) ≤ zu ∧ zu ≤ 59)) (kon : ∀ h1, me_W [.inr (.inr (.inl (126, Int.toNat (mi_a h 147 (Int.toNat (mi_f h 14003))), zu)))] h h1 → me_E (d) 192 75 [some (.inr (.inr 109)), some (.inl (zu))] [] h1 Q) : me_E (d) 192 0 [some (.inr (.inr 109)), some (.inl (zu))] [] h Q := me_seg (mp_puA_1 h d zu) (mi_tab_puA_1) hS (mi_okL_c (trivial) (mi_okL_c (ok_zu) (mi_okL_e))) (mi_okS_e) (mi_al (ho.1) (mi_al (ho.2.1) (mi_al (ho.2.2.1) (mi_al (ho.2.2.2.1) (mi_al (ho.2.2.2.2.1) (mi_al (ho.2.2.2.2.2.1) (mi_al (ho.2.2.2.2.2.2) (mi_al_e)))))))) (fun h1 W _ hst => kon h1 W)
set_option maxRecDepth 20000 in
theorem mp_puA_2 (h : sm_H) (d : Nat) (zu : Int) : mi_path [(192, (2, 0, sb_192))] sx_sk h 16 [0] (d, 192, 0, [some (.inr (.inr 109)), some (.inl (zu))], [], [], []) = some ((d, 192, 75, [some (.inr (.inr 109)), some (.inl (zu))], [], [.inr (.inr (.inl (124, Int.toNat (mi_a h 149 (Int.toNat (mi_f h 14003))), zu)))], []), [0 ≤ (mi_f h 14003) ∧ (mi_f h 14003) < 6, (mi_a h 151 (Int.toNat (mi_f h 14003))) ≠ ((0 : Int)), 0 ≤ (mi_f h 14003) ∧ (mi_f h 14003) < 6, 0 ≤ (mi_a h 149 (Int.toNat (mi_f h 14003))) ∧ (mi_a h 149 (Int.toNat (mi_f h 14003))) < 60, (-1) ≤ zu ∧ zu ≤ 59]) := rfl
theorem mi_tab_puA_2 : ∀ e ∈ ([(192, (2, 0, sb_192))] : mi_T), sc_P e.1 = some e.2 := mi_tb mi_P192 (mi_tb_e)
set_option maxRecDepth 20000 in
theorem ms_puA_2 {h : sm_H} {d : Nat} {Q : Option mi_V → sm_H → Prop} {zu : Int} (hS : ab_Sh sx_sk h) (ok_zu : mi_in zu) (ho : (0 ≤ (mi_f h 14003) ∧ (mi_f h 14003) < 6) ∧ ((mi_a h 151 (Int.toNat (mi_f h 14003))) ≠ ((0 : Int))) ∧ (0 ≤ (mi_f h 14003) ∧ (mi_f h 14003) < 6) ∧ (0 ≤ (mi_a h 149 (Int.toNat (mi_f h 14003))) ∧ (mi_a h 149 (Int.toNat (mi_f h 14003))) < 60) ∧ ((-1) ≤ zu ∧ zu ≤ 59)) (kon : ∀ h1, me_W [.inr (.inr (.inl (124, Int.toNat (mi_a h 149 (Int.toNat (mi_f h 14003))), zu)))] h h1 → me_E (d) 192 75 [some (.inr (.inr 109)), some (.inl (zu))] [] h1 Q) : me_E (d) 192 0 [some (.inr (.inr 109)), some (.inl (zu))] [] h Q := me_seg (mp_puA_2 h d zu) (mi_tab_puA_2) hS (mi_okL_c (trivial) (mi_okL_c (ok_zu) (mi_okL_e))) (mi_okS_e) (mi_al (ho.1) (mi_al (ho.2.1) (mi_al (ho.2.2.1) (mi_al (ho.2.2.2.1) (mi_al (ho.2.2.2.2) (mi_al_e)))))) (fun h1 W _ hst => kon h1 W)
set_option maxRecDepth 20000 in
theorem mt_puA {h : sm_H} {d : Nat} {Q : Option mi_V → sm_H → Prop} {zu : Int} (hS : ab_Sh sx_sk h) (ok_zu : mi_in zu) (k0 : (0 ≤ mi_f h 14003 ∧ mi_f h 14003 ≤ 5) → ((mi_a h 151 (Int.toNat (mi_f h 14003))) = ((0 : Int))) → (((0 : Int)) ≤ (mi_a h 149 (Int.toNat (mi_f h 14003)))) → ((0 ≤ (mi_f h 14003) ∧ (mi_f h 14003) < 6) ∧ (0 ≤ (mi_a h 149 (Int.toNat (mi_f h 14003))) ∧ (mi_a h 149 (Int.toNat (mi_f h 14003))) < 60) ∧ ((-1) ≤ zu ∧ zu ≤ 59)) ∧ (∀ h1, ab_Sh sx_sk h1 → (∀ i, mi_a h1 125 i = if i = Int.toNat (mi_a h 149 (Int.toNat (mi_f h 14003))) then zu else (mi_a h 125 i)) → ab_Fr [(16000, 16001)] h h1 → me_E (d) 192 75 [some (.inr (.inr 109)), some (.inl (zu))] [] h1 Q)) (k1 : (0 ≤ mi_f h 14003 ∧ mi_f h 14003 ≤ 5) → ((mi_a h 151 (Int.toNat (mi_f h 14003))) = ((0 : Int))) → ((mi_a h 149 (Int.toNat (mi_f h 14003))) < ((0 : Int))) → ((0 ≤ (mi_f h 14003) ∧ (mi_f h 14003) < 6) ∧ (0 ≤ (mi_a h 147 (Int.toNat (mi_f h 14003))) ∧ (mi_a h 147 (Int.toNat (mi_f h 14003))) < 80) ∧ ((-1) ≤ zu ∧ zu ≤ 59)) ∧ (∀ h1, ab_Sh sx_sk h1 → (∀ i, mi_a h1 126 i = if i = Int.toNat (mi_a h 147 (Int.toNat (mi_f h 14003))) then zu else (mi_a h 126 i)) → ab_Fr [(16128, 16129)] h h1 → me_E (d) 192 75 [some (.inr (.inr 109)), some (.inl (zu))] [] h1 Q)) (k2 : (0 ≤ mi_f h 14003 ∧ mi_f h 14003 ≤ 5) → ((mi_a h 151 (Int.toNat (mi_f h 14003))) ≠ ((0 : Int))) → ((0 ≤ (mi_f h 14003) ∧ (mi_f h 14003) < 6) ∧ (0 ≤ (mi_a h 149 (Int.toNat (mi_f h 14003))) ∧ (mi_a h 149 (Int.toNat (mi_f h 14003))) < 60) ∧ ((-1) ≤ zu ∧ zu ≤ 59)) ∧ (∀ h1, ab_Sh sx_sk h1 → (∀ i, mi_a h1 124 i = if i = Int.toNat (mi_a h 149 (Int.toNat (mi_f h 14003))) then zu else (mi_a h 124 i)) → ab_Fr [(15872, 15873)] h h1 → me_E (d) 192 75 [some (.inr (.inr 109)), some (.inl (zu))] [] h1 Q)) : me_E (d) 192 0 [some (.inr (.inr 109)), some (.inl (zu))] [] h Q := Or.elim (mi_em .eq ((mi_a h 151 (Int.toNat (mi_f h 14003)))) (((0 : Int)))) (fun c0 => Or.elim (mi_em .ge ((mi_a h 149 (Int.toNat (mi_f h 14003)))) (((0 : Int)))) (fun c1 => ms_puA_0 hS ok_zu ⟨(k0 (me_fb hS rfl) c0 c1).1.1, c0, (k0 (me_fb hS rfl) c0 c1).1.1, c1, (k0 (me_fb hS rfl) c0 c1).1.1, (k0 (me_fb hS rfl) c0 c1).1.2.1, (k0 (me_fb hS rfl) c0 c1).1.2.2⟩ (fun h1 W => (k0 (me_fb hS rfl) c0 c1).2 h1 W.1 (fun i => W.2.2.1 125 i) (W.2.2.2.2.2 _ rfl))) (fun c1 => ms_puA_1 hS ok_zu ⟨(k1 (me_fb hS rfl) c0 c1).1.1, c0, (k1 (me_fb hS rfl) c0 c1).1.1, c1, (k1 (me_fb hS rfl) c0 c1).1.1, (k1 (me_fb hS rfl) c0 c1).1.2.1, (k1 (me_fb hS rfl) c0 c1).1.2.2⟩ (fun h1 W => (k1 (me_fb hS rfl) c0 c1).2 h1 W.1 (fun i => W.2.2.1 126 i) (W.2.2.2.2.2 _ rfl)))) (fun c0 => ms_puA_2 hS ok_zu ⟨(k2 (me_fb hS rfl) c0).1.1, c0, (k2 (me_fb hS rfl) c0).1.1, (k2 (me_fb hS rfl) c0).1.2.1, (k2 (me_fb hS rfl) c0).1.2.2⟩ (fun h1 W => (k2 (me_fb hS rfl) c0).2 h1 W.1 (fun i => W.2.2.1 124 i) (W.2.2.2.2.2 _ rfl)))
set_option maxRecDepth 20000 in
theorem mp_puB_0 (h : sm_H) (d : Nat) (zu : Int) : mi_path [(192, (2, 0, sb_192))] sx_sk h 24 [1] (d, 192, 75, [some (.inr (.inr 109)), some (.inl (zu))], [], [], []) = some ((d, 192, 129, [some (.inr (.inr 109)), some (.inl (zu))], [], [.inr (.inr (.inl (151, Int.toNat (mi_f h 14003), (0 : Int)))), .inr (.inr (.inl (150, Int.toNat (mi_f h 14003), zu))), .inr (.inr (.inl (149, Int.toNat (mi_f h 14003), zu)))], []), [0 ≤ (mi_f h 14003) ∧ (mi_f h 14003) < 6, (mi_a h 151 (Int.toNat (mi_f h 14003))) = ((0 : Int)), 0 ≤ (mi_f h 14003) ∧ (mi_f h 14003) < 6, (-1) ≤ zu ∧ zu ≤ 59, 0 ≤ (mi_f h 14003) ∧ (mi_f h 14003) < 6, (-1) ≤ zu ∧ zu ≤ 59, 0 ≤ (mi_f h 14003) ∧ (mi_f h 14003) < 6, 0 ≤ ((0 : Int)) ∧ ((0 : Int)) ≤ 1]) := rfl
theorem mi_tab_puB_0 : ∀ e ∈ ([(192, (2, 0, sb_192))] : mi_T), sc_P e.1 = some e.2 := mi_tb mi_P192 (mi_tb_e)
set_option maxRecDepth 20000 in
theorem ms_puB_0 {h : sm_H} {d : Nat} {Q : Option mi_V → sm_H → Prop} {zu : Int} (hS : ab_Sh sx_sk h) (ok_zu : mi_in zu) (ho : (0 ≤ (mi_f h 14003) ∧ (mi_f h 14003) < 6) ∧ ((mi_a h 151 (Int.toNat (mi_f h 14003))) = ((0 : Int))) ∧ (0 ≤ (mi_f h 14003) ∧ (mi_f h 14003) < 6) ∧ ((-1) ≤ zu ∧ zu ≤ 59) ∧ (0 ≤ (mi_f h 14003) ∧ (mi_f h 14003) < 6) ∧ ((-1) ≤ zu ∧ zu ≤ 59) ∧ (0 ≤ (mi_f h 14003) ∧ (mi_f h 14003) < 6) ∧ (0 ≤ ((0 : Int)) ∧ ((0 : Int)) ≤ 1)) (kon : ∀ h1, me_W [.inr (.inr (.inl (151, Int.toNat (mi_f h 14003), (0 : Int)))), .inr (.inr (.inl (150, Int.toNat (mi_f h 14003), zu))), .inr (.inr (.inl (149, Int.toNat (mi_f h 14003), zu)))] h h1 → Q none h1) : me_E (d) 192 75 [some (.inr (.inr 109)), some (.inl (zu))] [] h Q := me_seg (mp_puB_0 h d zu) (mi_tab_puB_0) hS (mi_okL_c (trivial) (mi_okL_c (ok_zu) (mi_okL_e))) (mi_okS_e) (mi_al (ho.1) (mi_al (ho.2.1) (mi_al (ho.2.2.1) (mi_al (ho.2.2.2.1) (mi_al (ho.2.2.2.2.1) (mi_al (ho.2.2.2.2.2.1) (mi_al (ho.2.2.2.2.2.2.1) (mi_al (ho.2.2.2.2.2.2.2) (mi_al_e))))))))) (fun h1 W _ hst => me_ret (M := (2, 0, sb_192)) rfl rfl rfl hst (mi_al_e) (kon h1 W))
set_option maxRecDepth 20000 in
theorem mp_puB_1 (h : sm_H) (d : Nat) (zu : Int) : mi_path [(192, (2, 0, sb_192))] sx_sk h 29 [0] (d, 192, 75, [some (.inr (.inr 109)), some (.inl (zu))], [], [], []) = some ((d, 192, 129, [some (.inr (.inr 109)), some (.inl (zu))], [], [.inr (.inr (.inl (151, Int.toNat (mi_f h 14003), (0 : Int)))), .inr (.inr (.inl (150, Int.toNat (mi_f h 14003), zu))), .inr (.inr (.inl (149, Int.toNat (mi_f h 14003), mi_a h 149 (Int.toNat (mi_f h 14003)))))], []), [0 ≤ (mi_f h 14003) ∧ (mi_f h 14003) < 6, (mi_a h 151 (Int.toNat (mi_f h 14003))) ≠ ((0 : Int)), 0 ≤ (mi_f h 14003) ∧ (mi_f h 14003) < 6, 0 ≤ (mi_f h 14003) ∧ (mi_f h 14003) < 6, (-1) ≤ (mi_a h 149 (Int.toNat (mi_f h 14003))) ∧ (mi_a h 149 (Int.toNat (mi_f h 14003))) ≤ 59, 0 ≤ (mi_f h 14003) ∧ (mi_f h 14003) < 6, (-1) ≤ zu ∧ zu ≤ 59, 0 ≤ (mi_f h 14003) ∧ (mi_f h 14003) < 6, 0 ≤ ((0 : Int)) ∧ ((0 : Int)) ≤ 1]) := rfl
theorem mi_tab_puB_1 : ∀ e ∈ ([(192, (2, 0, sb_192))] : mi_T), sc_P e.1 = some e.2 := mi_tb mi_P192 (mi_tb_e)
set_option maxRecDepth 20000 in
theorem ms_puB_1 {h : sm_H} {d : Nat} {Q : Option mi_V → sm_H → Prop} {zu : Int} (hS : ab_Sh sx_sk h) (ok_zu : mi_in zu) (ho : (0 ≤ (mi_f h 14003) ∧ (mi_f h 14003) < 6) ∧ ((mi_a h 151 (Int.toNat (mi_f h 14003))) ≠ ((0 : Int))) ∧ (0 ≤ (mi_f h 14003) ∧ (mi_f h 14003) < 6) ∧ (0 ≤ (mi_f h 14003) ∧ (mi_f h 14003) < 6) ∧ ((-1) ≤ (mi_a h 149 (Int.toNat (mi_f h 14003))) ∧ (mi_a h 149 (Int.toNat (mi_f h 14003))) ≤ 59) ∧ (0 ≤ (mi_f h 14003) ∧ (mi_f h 14003) < 6) ∧ ((-1) ≤ zu ∧ zu ≤ 59) ∧ (0 ≤ (mi_f h 14003) ∧ (mi_f h 14003) < 6) ∧ (0 ≤ ((0 : Int)) ∧ ((0 : Int)) ≤ 1)) (kon : ∀ h1, me_W [.inr (.inr (.inl (151, Int.toNat (mi_f h 14003), (0 : Int)))), .inr (.inr (.inl (150, Int.toNat (mi_f h 14003), zu))), .inr (.inr (.inl (149, Int.toNat (mi_f h 14003), mi_a h 149 (Int.toNat (mi_f h 14003)))))] h h1 → Q none h1) : me_E (d) 192 75 [some (.inr (.inr 109)), some (.inl (zu))] [] h Q := me_seg (mp_puB_1 h d zu) (mi_tab_puB_1) hS (mi_okL_c (trivial) (mi_okL_c (ok_zu) (mi_okL_e))) (mi_okS_e) (mi_al (ho.1) (mi_al (ho.2.1) (mi_al (ho.2.2.1) (mi_al (ho.2.2.2.1) (mi_al (ho.2.2.2.2.1) (mi_al (ho.2.2.2.2.2.1) (mi_al (ho.2.2.2.2.2.2.1) (mi_al (ho.2.2.2.2.2.2.2.1) (mi_al (ho.2.2.2.2.2.2.2.2) (mi_al_e)))))))))) (fun h1 W _ hst => me_ret (M := (2, 0, sb_192)) rfl rfl rfl hst (mi_al_e) (kon h1 W))
set_option maxRecDepth 20000 in
theorem mt_puB {h : sm_H} {d : Nat} {Q : Option mi_V → sm_H → Prop} {zu : Int} (hS : ab_Sh sx_sk h) (ok_zu : mi_in zu) (k0 : (0 ≤ mi_f h 14003 ∧ mi_f h 14003 ≤ 5) → ((mi_a h 151 (Int.toNat (mi_f h 14003))) = ((0 : Int))) → ((0 ≤ (mi_f h 14003) ∧ (mi_f h 14003) < 6) ∧ ((-1) ≤ zu ∧ zu ≤ 59)) ∧ (∀ h1, ab_Sh sx_sk h1 → (∀ i, mi_a h1 149 i = if i = Int.toNat (mi_f h 14003) then zu else (mi_a h 149 i)) → (∀ i, mi_a h1 150 i = if i = Int.toNat (mi_f h 14003) then zu else (mi_a h 150 i)) → (∀ i, mi_a h1 151 i = if i = Int.toNat (mi_f h 14003) then (0 : Int) else (mi_a h 151 i)) → ab_Fr [(19072, 19073), (19200, 19201), (19328, 19329)] h h1 → Q none h1)) (k1 : (0 ≤ mi_f h 14003 ∧ mi_f h 14003 ≤ 5) → ((mi_a h 151 (Int.toNat (mi_f h 14003))) ≠ ((0 : Int))) → ((0 ≤ (mi_f h 14003) ∧ (mi_f h 14003) < 6) ∧ ((-1) ≤ (mi_a h 149 (Int.toNat (mi_f h 14003))) ∧ (mi_a h 149 (Int.toNat (mi_f h 14003))) ≤ 59) ∧ ((-1) ≤ zu ∧ zu ≤ 59)) ∧ (∀ h1, ab_Sh sx_sk h1 → (∀ i, mi_a h1 149 i = if i = Int.toNat (mi_f h 14003) then mi_a h 149 (Int.toNat (mi_f h 14003)) else (mi_a h 149 i)) → (∀ i, mi_a h1 150 i = if i = Int.toNat (mi_f h 14003) then zu else (mi_a h 150 i)) → (∀ i, mi_a h1 151 i = if i = Int.toNat (mi_f h 14003) then (0 : Int) else (mi_a h 151 i)) → ab_Fr [(19072, 19073), (19200, 19201), (19328, 19329)] h h1 → Q none h1)) : me_E (d) 192 75 [some (.inr (.inr 109)), some (.inl (zu))] [] h Q := Or.elim (mi_em .eq ((mi_a h 151 (Int.toNat (mi_f h 14003)))) (((0 : Int)))) (fun c0 => ms_puB_0 hS ok_zu ⟨(k0 (me_fb hS rfl) c0).1.1, c0, (k0 (me_fb hS rfl) c0).1.1, (k0 (me_fb hS rfl) c0).1.2, (k0 (me_fb hS rfl) c0).1.1, (k0 (me_fb hS rfl) c0).1.2, (k0 (me_fb hS rfl) c0).1.1, (by decide)⟩ (fun h1 W => (k0 (me_fb hS rfl) c0).2 h1 W.1 (fun i => W.2.2.1 149 i) (fun i => W.2.2.1 150 i) (fun i => W.2.2.1 151 i) (W.2.2.2.2.2 _ rfl))) (fun c0 => ms_puB_1 hS ok_zu ⟨(k1 (me_fb hS rfl) c0).1.1, c0, (k1 (me_fb hS rfl) c0).1.1, (k1 (me_fb hS rfl) c0).1.1, (k1 (me_fb hS rfl) c0).1.2.1, (k1 (me_fb hS rfl) c0).1.1, (k1 (me_fb hS rfl) c0).1.2.2, (k1 (me_fb hS rfl) c0).1.1, (by decide)⟩ (fun h1 W => (k1 (me_fb hS rfl) c0).2 h1 W.1 (fun i => W.2.2.1 149 i) (fun i => W.2.2.1 150 i) (fun i => W.2.2.1 151 i) (W.2.2.2.2.2 _ rfl)))
set_option maxRecDepth 20000 in
theorem mp_ptA_0 (h : sm_H) (d : Nat) : mi_path [(190, (2, 0, sb_190))] sx_sk h 8 [1] (d + 9, 190, 0, [some (.inr (.inr 109)), none], [], [], []) = some ((d + 9, 190, 32, [some (.inr (.inr 109)), none], [.inl (mi_f h 14002), .inl ((3 : Int)), .inr (.inr 109)], [], []), [(mi_f h 13963) = ((60 : Int))]) := rfl
theorem mi_tab_ptA_0 : ∀ e ∈ ([(190, (2, 0, sb_190))] : mi_T), sc_P e.1 = some e.2 := mi_tb mi_P190 (mi_tb_e)
set_option maxRecDepth 20000 in
theorem ms_ptA_0 {h : sm_H} {d : Nat} {Q : Option mi_V → sm_H → Prop} (hS : ab_Sh sx_sk h)  (ho : ((mi_f h 13963) = ((60 : Int)))) (kon : ∀ h1, me_W [] h h1 → ∃ Q1, me_E (d + 8) 184 0 (mi_entry 3 [.inr (.inr 109), .inl ((3 : Int)), .inl (mi_f h 14002)]) [] h1 Q1 ∧ ∀ w h2, (∀ x, w = some x → mi_ok x) → Q1 w h2 → me_E (d + 9) 190 35 [some (.inr (.inr 109)), none] (mi_back w []) h2 Q) : me_E (d + 9) 190 0 [some (.inr (.inr 109)), none] [] h Q := me_seg (mp_ptA_0 h d ) (mi_tab_ptA_0) hS (mi_okL_c (trivial) (mi_okL_n (mi_okL_e))) (mi_okS_e) (mi_al (ho) (mi_al_e)) (fun h1 W _ hst => let ⟨_, k1, k2⟩ := kon h1 W; me_call (M := (2, 0, sb_190)) (M' := (3, 0, sb_184)) rfl rfl rfl rfl (Nat.le_of_ble_eq_true rfl) (Nat.le_of_ble_eq_true rfl) W.1 k1 k2)
set_option maxRecDepth 20000 in
theorem mp_ptA_1 (h : sm_H) (d : Nat) : mi_path [(190, (2, 0, sb_190))] sx_sk h 16 [0, 1, 8] (d + 9, 190, 0, [some (.inr (.inr 109)), none], [], [], []) = some ((d + 9, 190, 48, [some (.inr (.inr 109)), some (.inl (mi_f h 13963))], [], [.inl (13963, (mi_f h 13963) + ((1 : Int)))], []), [(mi_f h 13963) ≠ ((60 : Int)), (mi_f h 14001) ≠ ((40 : Int)), -2147483648 ≤ (mi_f h 13963) + ((1 : Int)) ∧ (mi_f h 13963) + ((1 : Int)) ≤ 2147483647, 0 ≤ ((mi_f h 13963) + ((1 : Int))) ∧ ((mi_f h 13963) + ((1 : Int))) ≤ 60]) := rfl
theorem mi_tab_ptA_1 : ∀ e ∈ ([(190, (2, 0, sb_190))] : mi_T), sc_P e.1 = some e.2 := mi_tb mi_P190 (mi_tb_e)
set_option maxRecDepth 20000 in
theorem ms_ptA_1 {h : sm_H} {d : Nat} {Q : Option mi_V → sm_H → Prop} (hS : ab_Sh sx_sk h)  (ho : ((mi_f h 13963) ≠ ((60 : Int))) ∧ ((mi_f h 14001) ≠ ((40 : Int))) ∧ (-2147483648 ≤ (mi_f h 13963) + ((1 : Int)) ∧ (mi_f h 13963) + ((1 : Int)) ≤ 2147483647) ∧ (0 ≤ ((mi_f h 13963) + ((1 : Int))) ∧ ((mi_f h 13963) + ((1 : Int))) ≤ 60)) (kon : ∀ h1, me_W [.inl (13963, (mi_f h 13963) + ((1 : Int)))] h h1 → me_E (d + 9) 190 48 [some (.inr (.inr 109)), some (.inl (mi_f h 13963))] [] h1 Q) : me_E (d + 9) 190 0 [some (.inr (.inr 109)), none] [] h Q := me_seg (mp_ptA_1 h d ) (mi_tab_ptA_1) hS (mi_okL_c (trivial) (mi_okL_n (mi_okL_e))) (mi_okS_e) (mi_al (ho.1) (mi_al (ho.2.1) (mi_al (ho.2.2.1) (mi_al (ho.2.2.2) (mi_al_e))))) (fun h1 W _ hst => kon h1 W)
set_option maxRecDepth 20000 in
theorem mp_ptA_2 (h : sm_H) (d : Nat) : mi_path [(190, (2, 0, sb_190))] sx_sk h 20 [0, 0, 1, 8] (d + 9, 190, 0, [some (.inr (.inr 109)), none], [], [], []) = some ((d + 9, 190, 48, [some (.inr (.inr 109)), some (.inl (mi_f h 13963))], [], [.inl (13963, (mi_f h 13963) + ((1 : Int)))], []), [(mi_f h 13963) ≠ ((60 : Int)), (mi_f h 14001) = ((40 : Int)), (mi_f h 14003) ≠ ((4 : Int)), -2147483648 ≤ (mi_f h 13963) + ((1 : Int)) ∧ (mi_f h 13963) + ((1 : Int)) ≤ 2147483647, 0 ≤ ((mi_f h 13963) + ((1 : Int))) ∧ ((mi_f h 13963) + ((1 : Int))) ≤ 60]) := rfl
theorem mi_tab_ptA_2 : ∀ e ∈ ([(190, (2, 0, sb_190))] : mi_T), sc_P e.1 = some e.2 := mi_tb mi_P190 (mi_tb_e)
set_option maxRecDepth 20000 in
theorem ms_ptA_2 {h : sm_H} {d : Nat} {Q : Option mi_V → sm_H → Prop} (hS : ab_Sh sx_sk h)  (ho : ((mi_f h 13963) ≠ ((60 : Int))) ∧ ((mi_f h 14001) = ((40 : Int))) ∧ ((mi_f h 14003) ≠ ((4 : Int))) ∧ (-2147483648 ≤ (mi_f h 13963) + ((1 : Int)) ∧ (mi_f h 13963) + ((1 : Int)) ≤ 2147483647) ∧ (0 ≤ ((mi_f h 13963) + ((1 : Int))) ∧ ((mi_f h 13963) + ((1 : Int))) ≤ 60)) (kon : ∀ h1, me_W [.inl (13963, (mi_f h 13963) + ((1 : Int)))] h h1 → me_E (d + 9) 190 48 [some (.inr (.inr 109)), some (.inl (mi_f h 13963))] [] h1 Q) : me_E (d + 9) 190 0 [some (.inr (.inr 109)), none] [] h Q := me_seg (mp_ptA_2 h d ) (mi_tab_ptA_2) hS (mi_okL_c (trivial) (mi_okL_n (mi_okL_e))) (mi_okS_e) (mi_al (ho.1) (mi_al (ho.2.1) (mi_al (ho.2.2.1) (mi_al (ho.2.2.2.1) (mi_al (ho.2.2.2.2) (mi_al_e)))))) (fun h1 W _ hst => kon h1 W)
set_option maxRecDepth 20000 in
theorem mp_ptA_3 (h : sm_H) (d : Nat) : mi_path [(190, (2, 0, sb_190))] sx_sk h 16 [0, 0, 0] (d + 9, 190, 0, [some (.inr (.inr 109)), none], [], [], []) = some ((d + 9, 190, 32, [some (.inr (.inr 109)), none], [.inl (mi_f h 14002), .inl ((3 : Int)), .inr (.inr 109)], [], []), [(mi_f h 13963) ≠ ((60 : Int)), (mi_f h 14001) = ((40 : Int)), (mi_f h 14003) = ((4 : Int))]) := rfl
theorem mi_tab_ptA_3 : ∀ e ∈ ([(190, (2, 0, sb_190))] : mi_T), sc_P e.1 = some e.2 := mi_tb mi_P190 (mi_tb_e)
set_option maxRecDepth 20000 in
theorem ms_ptA_3 {h : sm_H} {d : Nat} {Q : Option mi_V → sm_H → Prop} (hS : ab_Sh sx_sk h)  (ho : ((mi_f h 13963) ≠ ((60 : Int))) ∧ ((mi_f h 14001) = ((40 : Int))) ∧ ((mi_f h 14003) = ((4 : Int)))) (kon : ∀ h1, me_W [] h h1 → ∃ Q1, me_E (d + 8) 184 0 (mi_entry 3 [.inr (.inr 109), .inl ((3 : Int)), .inl (mi_f h 14002)]) [] h1 Q1 ∧ ∀ w h2, (∀ x, w = some x → mi_ok x) → Q1 w h2 → me_E (d + 9) 190 35 [some (.inr (.inr 109)), none] (mi_back w []) h2 Q) : me_E (d + 9) 190 0 [some (.inr (.inr 109)), none] [] h Q := me_seg (mp_ptA_3 h d ) (mi_tab_ptA_3) hS (mi_okL_c (trivial) (mi_okL_n (mi_okL_e))) (mi_okS_e) (mi_al (ho.1) (mi_al (ho.2.1) (mi_al (ho.2.2) (mi_al_e)))) (fun h1 W _ hst => let ⟨_, k1, k2⟩ := kon h1 W; me_call (M := (2, 0, sb_190)) (M' := (3, 0, sb_184)) rfl rfl rfl rfl (Nat.le_of_ble_eq_true rfl) (Nat.le_of_ble_eq_true rfl) W.1 k1 k2)
set_option maxRecDepth 20000 in
theorem mt_ptA {h : sm_H} {d : Nat} {Q : Option mi_V → sm_H → Prop} (hS : ab_Sh sx_sk h)  (k0 : (0 ≤ mi_f h 13963 ∧ mi_f h 13963 ≤ 60) → ((mi_f h 13963) = ((60 : Int))) → (∀ h1, ab_Sh sx_sk h1 → ab_Fr [] h h1 → ∃ Q1, me_E (d + 8) 184 0 (mi_entry 3 [.inr (.inr 109), .inl ((3 : Int)), .inl (mi_f h 14002)]) [] h1 Q1 ∧ ∀ w h2, (∀ x, w = some x → mi_ok x) → Q1 w h2 → me_E (d + 9) 190 35 [some (.inr (.inr 109)), none] (mi_back w []) h2 Q)) (k1 : (0 ≤ mi_f h 13963 ∧ mi_f h 13963 ≤ 60) → ((-2147483648) ≤ mi_f h 14001 ∧ mi_f h 14001 ≤ 2147483647) → ((mi_f h 13963) ≠ ((60 : Int))) → ((mi_f h 14001) ≠ ((40 : Int))) → ((-2147483648 ≤ (mi_f h 13963) + ((1 : Int)) ∧ (mi_f h 13963) + ((1 : Int)) ≤ 2147483647) ∧ (0 ≤ ((mi_f h 13963) + ((1 : Int))) ∧ ((mi_f h 13963) + ((1 : Int))) ≤ 60)) ∧ (∀ h1, ab_Sh sx_sk h1 → mi_f h1 13963 = (mi_f h 13963) + ((1 : Int)) → ab_Fr [(13963, 13964)] h h1 → me_E (d + 9) 190 48 [some (.inr (.inr 109)), some (.inl (mi_f h 13963))] [] h1 Q)) (k2 : (0 ≤ mi_f h 13963 ∧ mi_f h 13963 ≤ 60) → ((-2147483648) ≤ mi_f h 14001 ∧ mi_f h 14001 ≤ 2147483647) → (0 ≤ mi_f h 14003 ∧ mi_f h 14003 ≤ 5) → ((mi_f h 13963) ≠ ((60 : Int))) → ((mi_f h 14001) = ((40 : Int))) → ((mi_f h 14003) ≠ ((4 : Int))) → ((-2147483648 ≤ (mi_f h 13963) + ((1 : Int)) ∧ (mi_f h 13963) + ((1 : Int)) ≤ 2147483647) ∧ (0 ≤ ((mi_f h 13963) + ((1 : Int))) ∧ ((mi_f h 13963) + ((1 : Int))) ≤ 60)) ∧ (∀ h1, ab_Sh sx_sk h1 → mi_f h1 13963 = (mi_f h 13963) + ((1 : Int)) → ab_Fr [(13963, 13964)] h h1 → me_E (d + 9) 190 48 [some (.inr (.inr 109)), some (.inl (mi_f h 13963))] [] h1 Q)) (k3 : (0 ≤ mi_f h 13963 ∧ mi_f h 13963 ≤ 60) → ((-2147483648) ≤ mi_f h 14001 ∧ mi_f h 14001 ≤ 2147483647) → (0 ≤ mi_f h 14003 ∧ mi_f h 14003 ≤ 5) → ((mi_f h 13963) ≠ ((60 : Int))) → ((mi_f h 14001) = ((40 : Int))) → ((mi_f h 14003) = ((4 : Int))) → (∀ h1, ab_Sh sx_sk h1 → ab_Fr [] h h1 → ∃ Q1, me_E (d + 8) 184 0 (mi_entry 3 [.inr (.inr 109), .inl ((3 : Int)), .inl (mi_f h 14002)]) [] h1 Q1 ∧ ∀ w h2, (∀ x, w = some x → mi_ok x) → Q1 w h2 → me_E (d + 9) 190 35 [some (.inr (.inr 109)), none] (mi_back w []) h2 Q)) : me_E (d + 9) 190 0 [some (.inr (.inr 109)), none] [] h Q := Or.elim (mi_em .eq ((mi_f h 13963)) (((60 : Int)))) (fun c0 => ms_ptA_0 hS (c0) (fun h1 W => (k0 (me_fb hS rfl) c0) h1 W.1 (W.2.2.2.2.2 _ rfl))) (fun c0 => Or.elim (mi_em .ne ((mi_f h 14001)) (((40 : Int)))) (fun c1 => ms_ptA_1 hS ⟨c0, c1, (k1 (me_fb hS rfl) (me_fb hS rfl) c0 c1).1.1, (k1 (me_fb hS rfl) (me_fb hS rfl) c0 c1).1.2⟩ (fun h1 W => (k1 (me_fb hS rfl) (me_fb hS rfl) c0 c1).2 h1 W.1 (W.2.1 13963) (W.2.2.2.2.2 _ rfl))) (fun c1 => Or.elim (mi_em .ne ((mi_f h 14003)) (((4 : Int)))) (fun c2 => ms_ptA_2 hS ⟨c0, c1, c2, (k2 (me_fb hS rfl) (me_fb hS rfl) (me_fb hS rfl) c0 c1 c2).1.1, (k2 (me_fb hS rfl) (me_fb hS rfl) (me_fb hS rfl) c0 c1 c2).1.2⟩ (fun h1 W => (k2 (me_fb hS rfl) (me_fb hS rfl) (me_fb hS rfl) c0 c1 c2).2 h1 W.1 (W.2.1 13963) (W.2.2.2.2.2 _ rfl))) (fun c2 => ms_ptA_3 hS ⟨c0, c1, c2⟩ (fun h1 W => (k3 (me_fb hS rfl) (me_fb hS rfl) (me_fb hS rfl) c0 c1 c2) h1 W.1 (W.2.2.2.2.2 _ rfl)))))
set_option maxRecDepth 20000 in
theorem mp_ptB_0 (h : sm_H) (d : Nat) (zu : Int) : mi_path [(190, (2, 0, sb_190))] sx_sk h 17 [1, 1, 1] (d + 9, 190, 48, [some (.inr (.inr 109)), some (.inl (zu))], [], [], []) = some ((d + 9, 190, 101, [some (.inr (.inr 109)), some (.inl (zu))], [], [.inr (.inr (.inl (119, Int.toNat zu, (8 : Int))))], []), [(mi_f h 14001) ≠ ((1 : Int)), (mi_f h 14001) ≠ ((2 : Int)), (mi_f h 14001) ≠ ((40 : Int)), 0 ≤ zu ∧ zu < 60, (-1) ≤ ((8 : Int)) ∧ ((8 : Int)) ≤ 10]) := rfl
theorem mi_tab_ptB_0 : ∀ e ∈ ([(190, (2, 0, sb_190))] : mi_T), sc_P e.1 = some e.2 := mi_tb mi_P190 (mi_tb_e)
set_option maxRecDepth 20000 in
theorem ms_ptB_0 {h : sm_H} {d : Nat} {Q : Option mi_V → sm_H → Prop} {zu : Int} (hS : ab_Sh sx_sk h) (ok_zu : mi_in zu) (ho : ((mi_f h 14001) ≠ ((1 : Int))) ∧ ((mi_f h 14001) ≠ ((2 : Int))) ∧ ((mi_f h 14001) ≠ ((40 : Int))) ∧ (0 ≤ zu ∧ zu < 60) ∧ ((-1) ≤ ((8 : Int)) ∧ ((8 : Int)) ≤ 10)) (kon : ∀ h1, me_W [.inr (.inr (.inl (119, Int.toNat zu, (8 : Int))))] h h1 → me_E (d + 9) 190 101 [some (.inr (.inr 109)), some (.inl (zu))] [] h1 Q) : me_E (d + 9) 190 48 [some (.inr (.inr 109)), some (.inl (zu))] [] h Q := me_seg (mp_ptB_0 h d zu) (mi_tab_ptB_0) hS (mi_okL_c (trivial) (mi_okL_c (ok_zu) (mi_okL_e))) (mi_okS_e) (mi_al (ho.1) (mi_al (ho.2.1) (mi_al (ho.2.2.1) (mi_al (ho.2.2.2.1) (mi_al (ho.2.2.2.2) (mi_al_e)))))) (fun h1 W _ hst => kon h1 W)
set_option maxRecDepth 20000 in
theorem mp_ptB_1 (h : sm_H) (d : Nat) (zu : Int) : mi_path [(190, (2, 0, sb_190))] sx_sk h 18 [1, 1, 0] (d + 9, 190, 48, [some (.inr (.inr 109)), some (.inl (zu))], [], [], []) = some ((d + 9, 190, 101, [some (.inr (.inr 109)), some (.inl (zu))], [], [.inr (.inr (.inl (119, Int.toNat zu, (10 : Int))))], []), [(mi_f h 14001) ≠ ((1 : Int)), (mi_f h 14001) ≠ ((2 : Int)), (mi_f h 14001) = ((40 : Int)), 0 ≤ zu ∧ zu < 60, (-1) ≤ ((10 : Int)) ∧ ((10 : Int)) ≤ 10]) := rfl
theorem mi_tab_ptB_1 : ∀ e ∈ ([(190, (2, 0, sb_190))] : mi_T), sc_P e.1 = some e.2 := mi_tb mi_P190 (mi_tb_e)
set_option maxRecDepth 20000 in
theorem ms_ptB_1 {h : sm_H} {d : Nat} {Q : Option mi_V → sm_H → Prop} {zu : Int} (hS : ab_Sh sx_sk h) (ok_zu : mi_in zu) (ho : ((mi_f h 14001) ≠ ((1 : Int))) ∧ ((mi_f h 14001) ≠ ((2 : Int))) ∧ ((mi_f h 14001) = ((40 : Int))) ∧ (0 ≤ zu ∧ zu < 60) ∧ ((-1) ≤ ((10 : Int)) ∧ ((10 : Int)) ≤ 10)) (kon : ∀ h1, me_W [.inr (.inr (.inl (119, Int.toNat zu, (10 : Int))))] h h1 → me_E (d + 9) 190 101 [some (.inr (.inr 109)), some (.inl (zu))] [] h1 Q) : me_E (d + 9) 190 48 [some (.inr (.inr 109)), some (.inl (zu))] [] h Q := me_seg (mp_ptB_1 h d zu) (mi_tab_ptB_1) hS (mi_okL_c (trivial) (mi_okL_c (ok_zu) (mi_okL_e))) (mi_okS_e) (mi_al (ho.1) (mi_al (ho.2.1) (mi_al (ho.2.2.1) (mi_al (ho.2.2.2.1) (mi_al (ho.2.2.2.2) (mi_al_e)))))) (fun h1 W _ hst => kon h1 W)
set_option maxRecDepth 20000 in
theorem mp_ptB_2 (h : sm_H) (d : Nat) (zu : Int) : mi_path [(190, (2, 0, sb_190))] sx_sk h 14 [1, 0] (d + 9, 190, 48, [some (.inr (.inr 109)), some (.inl (zu))], [], [], []) = some ((d + 9, 190, 101, [some (.inr (.inr 109)), some (.inl (zu))], [], [.inr (.inr (.inl (119, Int.toNat zu, (9 : Int))))], []), [(mi_f h 14001) ≠ ((1 : Int)), (mi_f h 14001) = ((2 : Int)), 0 ≤ zu ∧ zu < 60, (-1) ≤ ((9 : Int)) ∧ ((9 : Int)) ≤ 10]) := rfl
theorem mi_tab_ptB_2 : ∀ e ∈ ([(190, (2, 0, sb_190))] : mi_T), sc_P e.1 = some e.2 := mi_tb mi_P190 (mi_tb_e)
set_option maxRecDepth 20000 in
theorem ms_ptB_2 {h : sm_H} {d : Nat} {Q : Option mi_V → sm_H → Prop} {zu : Int} (hS : ab_Sh sx_sk h) (ok_zu : mi_in zu) (ho : ((mi_f h 14001) ≠ ((1 : Int))) ∧ ((mi_f h 14001) = ((2 : Int))) ∧ (0 ≤ zu ∧ zu < 60) ∧ ((-1) ≤ ((9 : Int)) ∧ ((9 : Int)) ≤ 10)) (kon : ∀ h1, me_W [.inr (.inr (.inl (119, Int.toNat zu, (9 : Int))))] h h1 → me_E (d + 9) 190 101 [some (.inr (.inr 109)), some (.inl (zu))] [] h1 Q) : me_E (d + 9) 190 48 [some (.inr (.inr 109)), some (.inl (zu))] [] h Q := me_seg (mp_ptB_2 h d zu) (mi_tab_ptB_2) hS (mi_okL_c (trivial) (mi_okL_c (ok_zu) (mi_okL_e))) (mi_okS_e) (mi_al (ho.1) (mi_al (ho.2.1) (mi_al (ho.2.2.1) (mi_al (ho.2.2.2) (mi_al_e))))) (fun h1 W _ hst => kon h1 W)
set_option maxRecDepth 20000 in
theorem mp_ptB_3 (h : sm_H) (d : Nat) (zu : Int) : mi_path [(190, (2, 0, sb_190))] sx_sk h 9 [0] (d + 9, 190, 48, [some (.inr (.inr 109)), some (.inl (zu))], [], [], []) = some ((d + 9, 190, 65, [some (.inr (.inr 109)), some (.inl (zu))], [.inr (.inl (mx_l h 14004)), .inl (zu), .inr (.inr 119)], [], []), [(mi_f h 14001) = ((1 : Int))]) := rfl
theorem mi_tab_ptB_3 : ∀ e ∈ ([(190, (2, 0, sb_190))] : mi_T), sc_P e.1 = some e.2 := mi_tb mi_P190 (mi_tb_e)
set_option maxRecDepth 20000 in
theorem ms_ptB_3 {h : sm_H} {d : Nat} {Q : Option mi_V → sm_H → Prop} {zu : Int} (hS : ab_Sh sx_sk h) (ok_zu : mi_in zu) (ho : ((mi_f h 14001) = ((1 : Int)))) (kon : ∀ h1, me_W [] h h1 → ∃ Q1, me_E (d + 8) 189 0 (mi_entry 2 [.inr (.inl (mx_l h 14004))]) [] h1 Q1 ∧ ∀ w h2, (∀ x, w = some x → mi_ok x) → Q1 w h2 → me_E (d + 9) 190 68 [some (.inr (.inr 109)), some (.inl (zu))] (mi_back w [.inl (zu), .inr (.inr 119)]) h2 Q) : me_E (d + 9) 190 48 [some (.inr (.inr 109)), some (.inl (zu))] [] h Q := me_seg (mp_ptB_3 h d zu) (mi_tab_ptB_3) hS (mi_okL_c (trivial) (mi_okL_c (ok_zu) (mi_okL_e))) (mi_okS_e) (mi_al (ho) (mi_al_e)) (fun h1 W _ hst => let ⟨_, k1, k2⟩ := kon h1 W; me_call (M := (2, 0, sb_190)) (M' := (2, 1, sb_189)) rfl rfl rfl rfl (Nat.le_of_ble_eq_true rfl) (Nat.le_of_ble_eq_true rfl) W.1 k1 k2)
set_option maxRecDepth 20000 in
theorem mt_ptB {h : sm_H} {d : Nat} {Q : Option mi_V → sm_H → Prop} {zu : Int} (hS : ab_Sh sx_sk h) (ok_zu : mi_in zu) (k0 : ((-2147483648) ≤ mi_f h 14001 ∧ mi_f h 14001 ≤ 2147483647) → ((mi_f h 14001) ≠ ((1 : Int))) → ((mi_f h 14001) ≠ ((2 : Int))) → ((mi_f h 14001) ≠ ((40 : Int))) → ((0 ≤ zu ∧ zu < 60)) ∧ (∀ h1, ab_Sh sx_sk h1 → (∀ i, mi_a h1 119 i = if i = Int.toNat zu then (8 : Int) else (mi_a h 119 i)) → ab_Fr [(15232, 15233)] h h1 → me_E (d + 9) 190 101 [some (.inr (.inr 109)), some (.inl (zu))] [] h1 Q)) (k1 : ((-2147483648) ≤ mi_f h 14001 ∧ mi_f h 14001 ≤ 2147483647) → ((mi_f h 14001) ≠ ((1 : Int))) → ((mi_f h 14001) ≠ ((2 : Int))) → ((mi_f h 14001) = ((40 : Int))) → ((0 ≤ zu ∧ zu < 60)) ∧ (∀ h1, ab_Sh sx_sk h1 → (∀ i, mi_a h1 119 i = if i = Int.toNat zu then (10 : Int) else (mi_a h 119 i)) → ab_Fr [(15232, 15233)] h h1 → me_E (d + 9) 190 101 [some (.inr (.inr 109)), some (.inl (zu))] [] h1 Q)) (k2 : ((-2147483648) ≤ mi_f h 14001 ∧ mi_f h 14001 ≤ 2147483647) → ((mi_f h 14001) ≠ ((1 : Int))) → ((mi_f h 14001) = ((2 : Int))) → ((0 ≤ zu ∧ zu < 60)) ∧ (∀ h1, ab_Sh sx_sk h1 → (∀ i, mi_a h1 119 i = if i = Int.toNat zu then (9 : Int) else (mi_a h 119 i)) → ab_Fr [(15232, 15233)] h h1 → me_E (d + 9) 190 101 [some (.inr (.inr 109)), some (.inl (zu))] [] h1 Q)) (k3 : ((-2147483648) ≤ mi_f h 14001 ∧ mi_f h 14001 ≤ 2147483647) → ((mi_f h 14001) = ((1 : Int))) → (∀ h1, ab_Sh sx_sk h1 → ab_Fr [] h h1 → ∃ Q1, me_E (d + 8) 189 0 (mi_entry 2 [.inr (.inl (mx_l h 14004))]) [] h1 Q1 ∧ ∀ w h2, (∀ x, w = some x → mi_ok x) → Q1 w h2 → me_E (d + 9) 190 68 [some (.inr (.inr 109)), some (.inl (zu))] (mi_back w [.inl (zu), .inr (.inr 119)]) h2 Q)) : me_E (d + 9) 190 48 [some (.inr (.inr 109)), some (.inl (zu))] [] h Q := Or.elim (mi_em .ne ((mi_f h 14001)) (((1 : Int)))) (fun c0 => Or.elim (mi_em .ne ((mi_f h 14001)) (((2 : Int)))) (fun c1 => Or.elim (mi_em .ne ((mi_f h 14001)) (((40 : Int)))) (fun c2 => ms_ptB_0 hS ok_zu ⟨c0, c1, c2, (k0 (me_fb hS rfl) c0 c1 c2).1, (by decide)⟩ (fun h1 W => (k0 (me_fb hS rfl) c0 c1 c2).2 h1 W.1 (fun i => W.2.2.1 119 i) (W.2.2.2.2.2 _ rfl))) (fun c2 => ms_ptB_1 hS ok_zu ⟨c0, c1, c2, (k1 (me_fb hS rfl) c0 c1 c2).1, (by decide)⟩ (fun h1 W => (k1 (me_fb hS rfl) c0 c1 c2).2 h1 W.1 (fun i => W.2.2.1 119 i) (W.2.2.2.2.2 _ rfl)))) (fun c1 => ms_ptB_2 hS ok_zu ⟨c0, c1, (k2 (me_fb hS rfl) c0 c1).1, (by decide)⟩ (fun h1 W => (k2 (me_fb hS rfl) c0 c1).2 h1 W.1 (fun i => W.2.2.1 119 i) (W.2.2.2.2.2 _ rfl)))) (fun c0 => ms_ptB_3 hS ok_zu (c0) (fun h1 W => (k3 (me_fb hS rfl) c0) h1 W.1 (W.2.2.2.2.2 _ rfl)))
set_option maxRecDepth 20000 in
theorem mp_ptC_0 (h : sm_H) (d : Nat) (zu zz zv : Int) : mi_path [(190, (2, 0, sb_190))] sx_sk h 2 [] (d + 9, 190, 68, [some (.inr (.inr 109)), some (.inl (zu))], [.inl (zz), .inl (zv), .inr (.inr 119)], [], []) = some ((d + 9, 190, 101, [some (.inr (.inr 109)), some (.inl (zu))], [], [.inr (.inr (.inl (119, Int.toNat zv, zz)))], []), [0 ≤ zv ∧ zv < 60, (-1) ≤ zz ∧ zz ≤ 10]) := rfl
theorem mi_tab_ptC_0 : ∀ e ∈ ([(190, (2, 0, sb_190))] : mi_T), sc_P e.1 = some e.2 := mi_tb mi_P190 (mi_tb_e)
set_option maxRecDepth 20000 in
theorem ms_ptC_0 {h : sm_H} {d : Nat} {Q : Option mi_V → sm_H → Prop} {zu zz zv : Int} (hS : ab_Sh sx_sk h) (ok_zu : mi_in zu) (ok_zz : mi_in zz) (ok_zv : mi_in zv) (ho : (0 ≤ zv ∧ zv < 60) ∧ ((-1) ≤ zz ∧ zz ≤ 10)) (kon : ∀ h1, me_W [.inr (.inr (.inl (119, Int.toNat zv, zz)))] h h1 → me_E (d + 9) 190 101 [some (.inr (.inr 109)), some (.inl (zu))] [] h1 Q) : me_E (d + 9) 190 68 [some (.inr (.inr 109)), some (.inl (zu))] [.inl (zz), .inl (zv), .inr (.inr 119)] h Q := me_seg (mp_ptC_0 h d zu zz zv) (mi_tab_ptC_0) hS (mi_okL_c (trivial) (mi_okL_c (ok_zu) (mi_okL_e))) (mi_okS_cons (ok_zz) (mi_okS_cons (ok_zv) (mi_okS_cons (trivial) (mi_okS_e)))) (mi_al (ho.1) (mi_al (ho.2) (mi_al_e))) (fun h1 W _ hst => kon h1 W)
set_option maxRecDepth 20000 in
theorem mt_ptC {h : sm_H} {d : Nat} {Q : Option mi_V → sm_H → Prop} {zu zz zv : Int} (hS : ab_Sh sx_sk h) (ok_zu : mi_in zu) (ok_zz : mi_in zz) (ok_zv : mi_in zv) (k0 : ((0 ≤ zv ∧ zv < 60) ∧ ((-1) ≤ zz ∧ zz ≤ 10)) ∧ (∀ h1, ab_Sh sx_sk h1 → (∀ i, mi_a h1 119 i = if i = Int.toNat zv then zz else (mi_a h 119 i)) → ab_Fr [(15232, 15233)] h h1 → me_E (d + 9) 190 101 [some (.inr (.inr 109)), some (.inl (zu))] [] h1 Q)) : me_E (d + 9) 190 68 [some (.inr (.inr 109)), some (.inl (zu))] [.inl (zz), .inl (zv), .inr (.inr 119)] h Q := ms_ptC_0 hS ok_zu ok_zz ok_zv ⟨(k0).1.1, (k0).1.2⟩ (fun h1 W => (k0).2 h1 W.1 (fun i => W.2.2.1 119 i) (W.2.2.2.2.2 _ rfl))
set_option maxRecDepth 20000 in
theorem mp_ptD_0 (h : sm_H) (d : Nat) (zu : Int) : mi_path [(190, (2, 0, sb_190))] sx_sk h 30 [1] (d + 9, 190, 101, [some (.inr (.inr 109)), some (.inl (zu))], [], [], []) = some ((d + 9, 190, 155, [some (.inr (.inr 109)), some (.inl (zu))], [], [.inr (.inr (.inl (124, Int.toNat zu, (-1 : Int)))), .inr (.inr (.inl (125, Int.toNat zu, (-1 : Int)))), .inr (.inr (.inl (122, Int.toNat zu, (0 : Int)))), .inr (.inr (.inl (121, Int.toNat zu, mi_f h 14002))), .inr (.inr (.inl (120, Int.toNat zu, (0 : Int))))], []), [(mi_f h 14001) ≠ ((2 : Int)), 0 ≤ zu ∧ zu < 60, 0 ≤ zu ∧ zu < 60, 0 ≤ zu ∧ zu < 60, 0 ≤ zu ∧ zu < 60, (-1) ≤ ((-1 : Int)) ∧ ((-1 : Int)) ≤ 59, 0 ≤ zu ∧ zu < 60, (-1) ≤ ((-1 : Int)) ∧ ((-1 : Int)) ≤ 59]) := rfl
theorem mi_tab_ptD_0 : ∀ e ∈ ([(190, (2, 0, sb_190))] : mi_T), sc_P e.1 = some e.2 := mi_tb mi_P190 (mi_tb_e)
set_option maxRecDepth 20000 in
theorem ms_ptD_0 {h : sm_H} {d : Nat} {Q : Option mi_V → sm_H → Prop} {zu : Int} (hS : ab_Sh sx_sk h) (ok_zu : mi_in zu) (ho : ((mi_f h 14001) ≠ ((2 : Int))) ∧ (0 ≤ zu ∧ zu < 60) ∧ (0 ≤ zu ∧ zu < 60) ∧ (0 ≤ zu ∧ zu < 60) ∧ (0 ≤ zu ∧ zu < 60) ∧ ((-1) ≤ ((-1 : Int)) ∧ ((-1 : Int)) ≤ 59) ∧ (0 ≤ zu ∧ zu < 60) ∧ ((-1) ≤ ((-1 : Int)) ∧ ((-1 : Int)) ≤ 59)) (kon : ∀ h1, me_W [.inr (.inr (.inl (124, Int.toNat zu, (-1 : Int)))), .inr (.inr (.inl (125, Int.toNat zu, (-1 : Int)))), .inr (.inr (.inl (122, Int.toNat zu, (0 : Int)))), .inr (.inr (.inl (121, Int.toNat zu, mi_f h 14002))), .inr (.inr (.inl (120, Int.toNat zu, (0 : Int))))] h h1 → me_E (d + 9) 190 155 [some (.inr (.inr 109)), some (.inl (zu))] [] h1 Q) : me_E (d + 9) 190 101 [some (.inr (.inr 109)), some (.inl (zu))] [] h Q := me_seg (mp_ptD_0 h d zu) (mi_tab_ptD_0) hS (mi_okL_c (trivial) (mi_okL_c (ok_zu) (mi_okL_e))) (mi_okS_e) (mi_al (ho.1) (mi_al (ho.2.1) (mi_al (ho.2.2.1) (mi_al (ho.2.2.2.1) (mi_al (ho.2.2.2.2.1) (mi_al (ho.2.2.2.2.2.1) (mi_al (ho.2.2.2.2.2.2.1) (mi_al (ho.2.2.2.2.2.2.2) (mi_al_e))))))))) (fun h1 W _ hst => kon h1 W)
set_option maxRecDepth 20000 in
theorem mp_ptD_1 (h : sm_H) (d : Nat) (zu : Int) : mi_path [(190, (2, 0, sb_190))] sx_sk h 33 [0] (d + 9, 190, 101, [some (.inr (.inr 109)), some (.inl (zu))], [], [], []) = some ((d + 9, 190, 155, [some (.inr (.inr 109)), some (.inl (zu))], [], [.inr (.inr (.inl (124, Int.toNat zu, (-1 : Int)))), .inr (.inr (.inl (125, Int.toNat zu, (-1 : Int)))), .inr (.inr (.inl (122, Int.toNat zu, (0 : Int)))), .inr (.inr (.inl (121, Int.toNat zu, mi_f h 14002))), .inr (.inr (.inl (120, Int.toNat zu, (mx_l h 14004).toInt32.toInt)))], []), [(mi_f h 14001) = ((2 : Int)), 0 ≤ zu ∧ zu < 60, 0 ≤ zu ∧ zu < 60, 0 ≤ zu ∧ zu < 60, 0 ≤ zu ∧ zu < 60, (-1) ≤ ((-1 : Int)) ∧ ((-1 : Int)) ≤ 59, 0 ≤ zu ∧ zu < 60, (-1) ≤ ((-1 : Int)) ∧ ((-1 : Int)) ≤ 59]) := rfl
theorem mi_tab_ptD_1 : ∀ e ∈ ([(190, (2, 0, sb_190))] : mi_T), sc_P e.1 = some e.2 := mi_tb mi_P190 (mi_tb_e)
set_option maxRecDepth 20000 in
theorem ms_ptD_1 {h : sm_H} {d : Nat} {Q : Option mi_V → sm_H → Prop} {zu : Int} (hS : ab_Sh sx_sk h) (ok_zu : mi_in zu) (ho : ((mi_f h 14001) = ((2 : Int))) ∧ (0 ≤ zu ∧ zu < 60) ∧ (0 ≤ zu ∧ zu < 60) ∧ (0 ≤ zu ∧ zu < 60) ∧ (0 ≤ zu ∧ zu < 60) ∧ ((-1) ≤ ((-1 : Int)) ∧ ((-1 : Int)) ≤ 59) ∧ (0 ≤ zu ∧ zu < 60) ∧ ((-1) ≤ ((-1 : Int)) ∧ ((-1 : Int)) ≤ 59)) (kon : ∀ h1, me_W [.inr (.inr (.inl (124, Int.toNat zu, (-1 : Int)))), .inr (.inr (.inl (125, Int.toNat zu, (-1 : Int)))), .inr (.inr (.inl (122, Int.toNat zu, (0 : Int)))), .inr (.inr (.inl (121, Int.toNat zu, mi_f h 14002))), .inr (.inr (.inl (120, Int.toNat zu, (mx_l h 14004).toInt32.toInt)))] h h1 → me_E (d + 9) 190 155 [some (.inr (.inr 109)), some (.inl (zu))] [] h1 Q) : me_E (d + 9) 190 101 [some (.inr (.inr 109)), some (.inl (zu))] [] h Q := me_seg (mp_ptD_1 h d zu) (mi_tab_ptD_1) hS (mi_okL_c (trivial) (mi_okL_c (ok_zu) (mi_okL_e))) (mi_okS_e) (mi_al (ho.1) (mi_al (ho.2.1) (mi_al (ho.2.2.1) (mi_al (ho.2.2.2.1) (mi_al (ho.2.2.2.2.1) (mi_al (ho.2.2.2.2.2.1) (mi_al (ho.2.2.2.2.2.2.1) (mi_al (ho.2.2.2.2.2.2.2) (mi_al_e))))))))) (fun h1 W _ hst => kon h1 W)
set_option maxRecDepth 20000 in
theorem mt_ptD {h : sm_H} {d : Nat} {Q : Option mi_V → sm_H → Prop} {zu : Int} (hS : ab_Sh sx_sk h) (ok_zu : mi_in zu) (k0 : ((-2147483648) ≤ mi_f h 14001 ∧ mi_f h 14001 ≤ 2147483647) → ((mi_f h 14001) ≠ ((2 : Int))) → ((0 ≤ zu ∧ zu < 60)) ∧ (∀ h1, ab_Sh sx_sk h1 → (∀ i, mi_a h1 120 i = if i = Int.toNat zu then (0 : Int) else (mi_a h 120 i)) → (∀ i, mi_a h1 121 i = if i = Int.toNat zu then mi_f h 14002 else (mi_a h 121 i)) → (∀ i, mi_a h1 122 i = if i = Int.toNat zu then (0 : Int) else (mi_a h 122 i)) → (∀ i, mi_a h1 124 i = if i = Int.toNat zu then (-1 : Int) else (mi_a h 124 i)) → (∀ i, mi_a h1 125 i = if i = Int.toNat zu then (-1 : Int) else (mi_a h 125 i)) → ab_Fr [(15360, 15361), (15488, 15489), (15616, 15617), (15872, 15873), (16000, 16001)] h h1 → me_E (d + 9) 190 155 [some (.inr (.inr 109)), some (.inl (zu))] [] h1 Q)) (k1 : ((-2147483648) ≤ mi_f h 14001 ∧ mi_f h 14001 ≤ 2147483647) → ((mi_f h 14001) = ((2 : Int))) → ((0 ≤ zu ∧ zu < 60)) ∧ (∀ h1, ab_Sh sx_sk h1 → (∀ i, mi_a h1 120 i = if i = Int.toNat zu then (mx_l h 14004).toInt32.toInt else (mi_a h 120 i)) → (∀ i, mi_a h1 121 i = if i = Int.toNat zu then mi_f h 14002 else (mi_a h 121 i)) → (∀ i, mi_a h1 122 i = if i = Int.toNat zu then (0 : Int) else (mi_a h 122 i)) → (∀ i, mi_a h1 124 i = if i = Int.toNat zu then (-1 : Int) else (mi_a h 124 i)) → (∀ i, mi_a h1 125 i = if i = Int.toNat zu then (-1 : Int) else (mi_a h 125 i)) → ab_Fr [(15360, 15361), (15488, 15489), (15616, 15617), (15872, 15873), (16000, 16001)] h h1 → me_E (d + 9) 190 155 [some (.inr (.inr 109)), some (.inl (zu))] [] h1 Q)) : me_E (d + 9) 190 101 [some (.inr (.inr 109)), some (.inl (zu))] [] h Q := Or.elim (mi_em .ne ((mi_f h 14001)) (((2 : Int)))) (fun c0 => ms_ptD_0 hS ok_zu ⟨c0, (k0 (me_fb hS rfl) c0).1, (k0 (me_fb hS rfl) c0).1, (k0 (me_fb hS rfl) c0).1, (k0 (me_fb hS rfl) c0).1, (by decide), (k0 (me_fb hS rfl) c0).1, (by decide)⟩ (fun h1 W => (k0 (me_fb hS rfl) c0).2 h1 W.1 (fun i => W.2.2.1 120 i) (fun i => W.2.2.1 121 i) (fun i => W.2.2.1 122 i) (fun i => W.2.2.1 124 i) (fun i => W.2.2.1 125 i) (W.2.2.2.2.2 _ rfl))) (fun c0 => ms_ptD_1 hS ok_zu ⟨c0, (k1 (me_fb hS rfl) c0).1, (k1 (me_fb hS rfl) c0).1, (k1 (me_fb hS rfl) c0).1, (k1 (me_fb hS rfl) c0).1, (by decide), (k1 (me_fb hS rfl) c0).1, (by decide)⟩ (fun h1 W => (k1 (me_fb hS rfl) c0).2 h1 W.1 (fun i => W.2.2.1 120 i) (fun i => W.2.2.1 121 i) (fun i => W.2.2.1 122 i) (fun i => W.2.2.1 124 i) (fun i => W.2.2.1 125 i) (W.2.2.2.2.2 _ rfl)))
set_option maxRecDepth 20000 in
theorem mp_ptE_0 (h : sm_H) (d : Nat) (zu : Int) : mi_path [(190, (2, 0, sb_190))] sx_sk h 6 [1] (d + 9, 190, 155, [some (.inr (.inr 109)), some (.inl (zu))], [], [], []) = some ((d + 9, 190, 196, [some (.inr (.inr 109)), some (.inl (zu))], [], [], []), [0 ≤ zu ∧ zu < 60, (mi_a h 119 (Int.toNat zu)) ≠ ((8 : Int))]) := rfl
theorem mi_tab_ptE_0 : ∀ e ∈ ([(190, (2, 0, sb_190))] : mi_T), sc_P e.1 = some e.2 := mi_tb mi_P190 (mi_tb_e)
set_option maxRecDepth 20000 in
theorem ms_ptE_0 {h : sm_H} {d : Nat} {Q : Option mi_V → sm_H → Prop} {zu : Int} (hS : ab_Sh sx_sk h) (ok_zu : mi_in zu) (ho : (0 ≤ zu ∧ zu < 60) ∧ ((mi_a h 119 (Int.toNat zu)) ≠ ((8 : Int)))) (kon : ∀ h1, me_W [] h h1 → me_E (d + 9) 190 196 [some (.inr (.inr 109)), some (.inl (zu))] [] h1 Q) : me_E (d + 9) 190 155 [some (.inr (.inr 109)), some (.inl (zu))] [] h Q := me_seg (mp_ptE_0 h d zu) (mi_tab_ptE_0) hS (mi_okL_c (trivial) (mi_okL_c (ok_zu) (mi_okL_e))) (mi_okS_e) (mi_al (ho.1) (mi_al (ho.2) (mi_al_e))) (fun h1 W _ hst => kon h1 W)
set_option maxRecDepth 20000 in
theorem mp_ptE_1 (h : sm_H) (d : Nat) (zu : Int) : mi_path [(190, (2, 0, sb_190))] sx_sk h 10 [0] (d + 9, 190, 155, [some (.inr (.inr 109)), some (.inl (zu))], [], [], []) = some ((d + 9, 190, 172, [some (.inr (.inr 109)), some (.inl (zu))], [.inr (.inr 109), .inl (zu), .inr (.inr 120)], [], []), [0 ≤ zu ∧ zu < 60, (mi_a h 119 (Int.toNat zu)) = ((8 : Int))]) := rfl
theorem mi_tab_ptE_1 : ∀ e ∈ ([(190, (2, 0, sb_190))] : mi_T), sc_P e.1 = some e.2 := mi_tb mi_P190 (mi_tb_e)
set_option maxRecDepth 20000 in
theorem ms_ptE_1 {h : sm_H} {d : Nat} {Q : Option mi_V → sm_H → Prop} {zu : Int} (hS : ab_Sh sx_sk h) (ok_zu : mi_in zu) (ho : (0 ≤ zu ∧ zu < 60) ∧ ((mi_a h 119 (Int.toNat zu)) = ((8 : Int)))) (kon : ∀ h1, me_W [] h h1 → ∃ Q1, me_E (d + 8) 191 0 (mi_entry 2 [.inr (.inr 109)]) [] h1 Q1 ∧ ∀ w h2, (∀ x, w = some x → mi_ok x) → Q1 w h2 → me_E (d + 9) 190 175 [some (.inr (.inr 109)), some (.inl (zu))] (mi_back w [.inl (zu), .inr (.inr 120)]) h2 Q) : me_E (d + 9) 190 155 [some (.inr (.inr 109)), some (.inl (zu))] [] h Q := me_seg (mp_ptE_1 h d zu) (mi_tab_ptE_1) hS (mi_okL_c (trivial) (mi_okL_c (ok_zu) (mi_okL_e))) (mi_okS_e) (mi_al (ho.1) (mi_al (ho.2) (mi_al_e))) (fun h1 W _ hst => let ⟨_, k1, k2⟩ := kon h1 W; me_call (M := (2, 0, sb_190)) (M' := (2, 1, sb_191)) rfl rfl rfl rfl (Nat.le_of_ble_eq_true rfl) (Nat.le_of_ble_eq_true rfl) W.1 k1 k2)
set_option maxRecDepth 20000 in
theorem mt_ptE {h : sm_H} {d : Nat} {Q : Option mi_V → sm_H → Prop} {zu : Int} (hS : ab_Sh sx_sk h) (ok_zu : mi_in zu) (k0 : ((mi_a h 119 (Int.toNat zu)) ≠ ((8 : Int))) → ((0 ≤ zu ∧ zu < 60)) ∧ (∀ h1, ab_Sh sx_sk h1 → ab_Fr [] h h1 → me_E (d + 9) 190 196 [some (.inr (.inr 109)), some (.inl (zu))] [] h1 Q)) (k1 : ((mi_a h 119 (Int.toNat zu)) = ((8 : Int))) → ((0 ≤ zu ∧ zu < 60)) ∧ (∀ h1, ab_Sh sx_sk h1 → ab_Fr [] h h1 → ∃ Q1, me_E (d + 8) 191 0 (mi_entry 2 [.inr (.inr 109)]) [] h1 Q1 ∧ ∀ w h2, (∀ x, w = some x → mi_ok x) → Q1 w h2 → me_E (d + 9) 190 175 [some (.inr (.inr 109)), some (.inl (zu))] (mi_back w [.inl (zu), .inr (.inr 120)]) h2 Q)) : me_E (d + 9) 190 155 [some (.inr (.inr 109)), some (.inl (zu))] [] h Q := Or.elim (mi_em .ne ((mi_a h 119 (Int.toNat zu))) (((8 : Int)))) (fun c0 => ms_ptE_0 hS ok_zu ⟨(k0 c0).1, c0⟩ (fun h1 W => (k0 c0).2 h1 W.1 (W.2.2.2.2.2 _ rfl))) (fun c0 => ms_ptE_1 hS ok_zu ⟨(k1 c0).1, c0⟩ (fun h1 W => (k1 c0).2 h1 W.1 (W.2.2.2.2.2 _ rfl)))
set_option maxRecDepth 20000 in
theorem mp_ptF_0 (h : sm_H) (d : Nat) (zu zz zv : Int) : mi_path [(190, (2, 0, sb_190))] sx_sk h 7 [1] (d + 9, 190, 175, [some (.inr (.inr 109)), some (.inl (zu))], [.inl (zz), .inl (zv), .inr (.inr 120)], [], []) = some ((d + 9, 190, 196, [some (.inr (.inr 109)), some (.inl (zu))], [], [.inr (.inr (.inl (120, Int.toNat zv, zz)))], []), [0 ≤ zv ∧ zv < 60, 0 ≤ zu ∧ zu < 60, (if Int.toNat zu = Int.toNat zv then zz else (mi_a h 120 (Int.toNat zu))) ≠ ((20 : Int))]) := rfl
theorem mi_tab_ptF_0 : ∀ e ∈ ([(190, (2, 0, sb_190))] : mi_T), sc_P e.1 = some e.2 := mi_tb mi_P190 (mi_tb_e)
set_option maxRecDepth 20000 in
theorem ms_ptF_0 {h : sm_H} {d : Nat} {Q : Option mi_V → sm_H → Prop} {zu zz zv : Int} (hS : ab_Sh sx_sk h) (ok_zu : mi_in zu) (ok_zz : mi_in zz) (ok_zv : mi_in zv) (ho : (0 ≤ zv ∧ zv < 60) ∧ (0 ≤ zu ∧ zu < 60) ∧ ((if Int.toNat zu = Int.toNat zv then zz else (mi_a h 120 (Int.toNat zu))) ≠ ((20 : Int)))) (kon : ∀ h1, me_W [.inr (.inr (.inl (120, Int.toNat zv, zz)))] h h1 → me_E (d + 9) 190 196 [some (.inr (.inr 109)), some (.inl (zu))] [] h1 Q) : me_E (d + 9) 190 175 [some (.inr (.inr 109)), some (.inl (zu))] [.inl (zz), .inl (zv), .inr (.inr 120)] h Q := me_seg (mp_ptF_0 h d zu zz zv) (mi_tab_ptF_0) hS (mi_okL_c (trivial) (mi_okL_c (ok_zu) (mi_okL_e))) (mi_okS_cons (ok_zz) (mi_okS_cons (ok_zv) (mi_okS_cons (trivial) (mi_okS_e)))) (mi_al (ho.1) (mi_al (ho.2.1) (mi_al (ho.2.2) (mi_al_e)))) (fun h1 W _ hst => kon h1 W)
set_option maxRecDepth 20000 in
theorem mp_ptF_1 (h : sm_H) (d : Nat) (zu zz zv : Int) : mi_path [(190, (2, 0, sb_190))] sx_sk h 11 [0] (d + 9, 190, 175, [some (.inr (.inr 109)), some (.inl (zu))], [.inl (zz), .inl (zv), .inr (.inr 120)], [], []) = some ((d + 9, 190, 193, [some (.inr (.inr 109)), some (.inl (zu))], [.inl (mi_f h 14002), .inl ((3 : Int)), .inr (.inr 109)], [.inr (.inr (.inl (120, Int.toNat zv, zz)))], []), [0 ≤ zv ∧ zv < 60, 0 ≤ zu ∧ zu < 60, (if Int.toNat zu = Int.toNat zv then zz else (mi_a h 120 (Int.toNat zu))) = ((20 : Int))]) := rfl
theorem mi_tab_ptF_1 : ∀ e ∈ ([(190, (2, 0, sb_190))] : mi_T), sc_P e.1 = some e.2 := mi_tb mi_P190 (mi_tb_e)
set_option maxRecDepth 20000 in
theorem ms_ptF_1 {h : sm_H} {d : Nat} {Q : Option mi_V → sm_H → Prop} {zu zz zv : Int} (hS : ab_Sh sx_sk h) (ok_zu : mi_in zu) (ok_zz : mi_in zz) (ok_zv : mi_in zv) (ho : (0 ≤ zv ∧ zv < 60) ∧ (0 ≤ zu ∧ zu < 60) ∧ ((if Int.toNat zu = Int.toNat zv then zz else (mi_a h 120 (Int.toNat zu))) = ((20 : Int)))) (kon : ∀ h1, me_W [.inr (.inr (.inl (120, Int.toNat zv, zz)))] h h1 → ∃ Q1, me_E (d + 8) 184 0 (mi_entry 3 [.inr (.inr 109), .inl ((3 : Int)), .inl (mi_f h 14002)]) [] h1 Q1 ∧ ∀ w h2, (∀ x, w = some x → mi_ok x) → Q1 w h2 → me_E (d + 9) 190 196 [some (.inr (.inr 109)), some (.inl (zu))] (mi_back w []) h2 Q) : me_E (d + 9) 190 175 [some (.inr (.inr 109)), some (.inl (zu))] [.inl (zz), .inl (zv), .inr (.inr 120)] h Q := me_seg (mp_ptF_1 h d zu zz zv) (mi_tab_ptF_1) hS (mi_okL_c (trivial) (mi_okL_c (ok_zu) (mi_okL_e))) (mi_okS_cons (ok_zz) (mi_okS_cons (ok_zv) (mi_okS_cons (trivial) (mi_okS_e)))) (mi_al (ho.1) (mi_al (ho.2.1) (mi_al (ho.2.2) (mi_al_e)))) (fun h1 W _ hst => let ⟨_, k1, k2⟩ := kon h1 W; me_call (M := (2, 0, sb_190)) (M' := (3, 0, sb_184)) rfl rfl rfl rfl (Nat.le_of_ble_eq_true rfl) (Nat.le_of_ble_eq_true rfl) W.1 k1 k2)
set_option maxRecDepth 20000 in
theorem mt_ptF {h : sm_H} {d : Nat} {Q : Option mi_V → sm_H → Prop} {zu zz zv : Int} (hS : ab_Sh sx_sk h) (ok_zu : mi_in zu) (ok_zz : mi_in zz) (ok_zv : mi_in zv) (k0 : ((if Int.toNat zu = Int.toNat zv then zz else (mi_a h 120 (Int.toNat zu))) ≠ ((20 : Int))) → ((0 ≤ zv ∧ zv < 60) ∧ (0 ≤ zu ∧ zu < 60)) ∧ (∀ h1, ab_Sh sx_sk h1 → (∀ i, mi_a h1 120 i = if i = Int.toNat zv then zz else (mi_a h 120 i)) → ab_Fr [(15360, 15361)] h h1 → me_E (d + 9) 190 196 [some (.inr (.inr 109)), some (.inl (zu))] [] h1 Q)) (k1 : ((if Int.toNat zu = Int.toNat zv then zz else (mi_a h 120 (Int.toNat zu))) = ((20 : Int))) → ((0 ≤ zv ∧ zv < 60) ∧ (0 ≤ zu ∧ zu < 60)) ∧ (∀ h1, ab_Sh sx_sk h1 → (∀ i, mi_a h1 120 i = if i = Int.toNat zv then zz else (mi_a h 120 i)) → ab_Fr [(15360, 15361)] h h1 → ∃ Q1, me_E (d + 8) 184 0 (mi_entry 3 [.inr (.inr 109), .inl ((3 : Int)), .inl (mi_f h 14002)]) [] h1 Q1 ∧ ∀ w h2, (∀ x, w = some x → mi_ok x) → Q1 w h2 → me_E (d + 9) 190 196 [some (.inr (.inr 109)), some (.inl (zu))] (mi_back w []) h2 Q)) : me_E (d + 9) 190 175 [some (.inr (.inr 109)), some (.inl (zu))] [.inl (zz), .inl (zv), .inr (.inr 120)] h Q := Or.elim (mi_em .ne ((if Int.toNat zu = Int.toNat zv then zz else (mi_a h 120 (Int.toNat zu)))) (((20 : Int)))) (fun c0 => ms_ptF_0 hS ok_zu ok_zz ok_zv ⟨(k0 c0).1.1, (k0 c0).1.2, c0⟩ (fun h1 W => (k0 c0).2 h1 W.1 (fun i => W.2.2.1 120 i) (W.2.2.2.2.2 _ rfl))) (fun c0 => ms_ptF_1 hS ok_zu ok_zz ok_zv ⟨(k1 c0).1.1, (k1 c0).1.2, c0⟩ (fun h1 W => (k1 c0).2 h1 W.1 (fun i => W.2.2.1 120 i) (W.2.2.2.2.2 _ rfl)))
set_option maxRecDepth 20000 in
theorem mp_ptG_0 (h : sm_H) (d : Nat) (zu : Int) : mi_path [(190, (2, 0, sb_190))] sx_sk h 23 [1, 8] (d + 9, 190, 196, [some (.inr (.inr 109)), some (.inl (zu))], [], [], []) = some ((d + 9, 190, 242, [some (.inr (.inr 109)), some (.inl (zu))], [.inr (.inr 109), .inl ((mi_f h 14003) + ((1 : Int))), .inr (.inr 146)], [.inr (.inr (.inl (148, Int.toNat ((mi_f h 14003) + ((1 : Int))), zu))), .inl (14003, (mi_f h 14003) + ((1 : Int)))], []), [0 ≤ zu ∧ zu < 60, (mi_a h 119 (Int.toNat zu)) = ((10 : Int)), -2147483648 ≤ (mi_f h 14003) + ((1 : Int)) ∧ (mi_f h 14003) + ((1 : Int)) ≤ 2147483647, 0 ≤ ((mi_f h 14003) + ((1 : Int))) ∧ ((mi_f h 14003) + ((1 : Int))) ≤ 5, 0 ≤ ((mi_f h 14003) + ((1 : Int))) ∧ ((mi_f h 14003) + ((1 : Int))) < 6, 0 ≤ zu ∧ zu ≤ 59]) := rfl
theorem mi_tab_ptG_0 : ∀ e ∈ ([(190, (2, 0, sb_190))] : mi_T), sc_P e.1 = some e.2 := mi_tb mi_P190 (mi_tb_e)
set_option maxRecDepth 20000 in
theorem ms_ptG_0 {h : sm_H} {d : Nat} {Q : Option mi_V → sm_H → Prop} {zu : Int} (hS : ab_Sh sx_sk h) (ok_zu : mi_in zu) (ho : (0 ≤ zu ∧ zu < 60) ∧ ((mi_a h 119 (Int.toNat zu)) = ((10 : Int))) ∧ (-2147483648 ≤ (mi_f h 14003) + ((1 : Int)) ∧ (mi_f h 14003) + ((1 : Int)) ≤ 2147483647) ∧ (0 ≤ ((mi_f h 14003) + ((1 : Int))) ∧ ((mi_f h 14003) + ((1 : Int))) ≤ 5) ∧ (0 ≤ ((mi_f h 14003) + ((1 : Int))) ∧ ((mi_f h 14003) + ((1 : Int))) < 6) ∧ (0 ≤ zu ∧ zu ≤ 59)) (kon : ∀ h1, me_W [.inr (.inr (.inl (148, Int.toNat ((mi_f h 14003) + ((1 : Int))), zu))), .inl (14003, (mi_f h 14003) + ((1 : Int)))] h h1 → ∃ Q1, me_E (d + 8) 185 0 (mi_entry 1 [.inr (.inr 109)]) [] h1 Q1 ∧ ∀ w h2, (∀ x, w = some x → mi_ok x) → Q1 w h2 → me_E (d + 9) 190 245 [some (.inr (.inr 109)), some (.inl (zu))] (mi_back w [.inl ((mi_f h 14003) + ((1 : Int))), .inr (.inr 146)]) h2 Q) : me_E (d + 9) 190 196 [some (.inr (.inr 109)), some (.inl (zu))] [] h Q := me_seg (mp_ptG_0 h d zu) (mi_tab_ptG_0) hS (mi_okL_c (trivial) (mi_okL_c (ok_zu) (mi_okL_e))) (mi_okS_e) (mi_al (ho.1) (mi_al (ho.2.1) (mi_al (ho.2.2.1) (mi_al (ho.2.2.2.1) (mi_al (ho.2.2.2.2.1) (mi_al (ho.2.2.2.2.2) (mi_al_e))))))) (fun h1 W _ hst => let ⟨_, k1, k2⟩ := kon h1 W; me_call (M := (2, 0, sb_190)) (M' := (1, 1, sb_185)) rfl rfl rfl rfl (Nat.le_of_ble_eq_true rfl) (Nat.le_of_ble_eq_true rfl) W.1 k1 k2)
set_option maxRecDepth 20000 in
theorem mp_ptG_1 (h : sm_H) (d : Nat) (zu : Int) : mi_path [(190, (2, 0, sb_190))] sx_sk h 8 [0] (d + 9, 190, 196, [some (.inr (.inr 109)), some (.inl (zu))], [], [], []) = some ((d + 9, 190, 209, [some (.inr (.inr 109)), some (.inl (zu))], [.inl (zu), .inr (.inr 109)], [], []), [0 ≤ zu ∧ zu < 60, (mi_a h 119 (Int.toNat zu)) ≠ ((10 : Int))]) := rfl
theorem mi_tab_ptG_1 : ∀ e ∈ ([(190, (2, 0, sb_190))] : mi_T), sc_P e.1 = some e.2 := mi_tb mi_P190 (mi_tb_e)
set_option maxRecDepth 20000 in
theorem ms_ptG_1 {h : sm_H} {d : Nat} {Q : Option mi_V → sm_H → Prop} {zu : Int} (hS : ab_Sh sx_sk h) (ok_zu : mi_in zu) (ho : (0 ≤ zu ∧ zu < 60) ∧ ((mi_a h 119 (Int.toNat zu)) ≠ ((10 : Int)))) (kon : ∀ h1, me_W [] h h1 → ∃ Q1, me_E (d + 8) 192 0 (mi_entry 2 [.inr (.inr 109), .inl (zu)]) [] h1 Q1 ∧ ∀ w h2, (∀ x, w = some x → mi_ok x) → Q1 w h2 → me_E (d + 9) 190 212 [some (.inr (.inr 109)), some (.inl (zu))] (mi_back w []) h2 Q) : me_E (d + 9) 190 196 [some (.inr (.inr 109)), some (.inl (zu))] [] h Q := me_seg (mp_ptG_1 h d zu) (mi_tab_ptG_1) hS (mi_okL_c (trivial) (mi_okL_c (ok_zu) (mi_okL_e))) (mi_okS_e) (mi_al (ho.1) (mi_al (ho.2) (mi_al_e))) (fun h1 W _ hst => let ⟨_, k1, k2⟩ := kon h1 W; me_call (M := (2, 0, sb_190)) (M' := (2, 0, sb_192)) rfl rfl rfl rfl (Nat.le_of_ble_eq_true rfl) (Nat.le_of_ble_eq_true rfl) W.1 k1 k2)
set_option maxRecDepth 20000 in
theorem mt_ptG {h : sm_H} {d : Nat} {Q : Option mi_V → sm_H → Prop} {zu : Int} (hS : ab_Sh sx_sk h) (ok_zu : mi_in zu) (k0 : (0 ≤ mi_f h 14003 ∧ mi_f h 14003 ≤ 5) → ((mi_a h 119 (Int.toNat zu)) = ((10 : Int))) → ((0 ≤ zu ∧ zu < 60) ∧ (-2147483648 ≤ (mi_f h 14003) + ((1 : Int)) ∧ (mi_f h 14003) + ((1 : Int)) ≤ 2147483647) ∧ (0 ≤ ((mi_f h 14003) + ((1 : Int))) ∧ ((mi_f h 14003) + ((1 : Int))) ≤ 5) ∧ (0 ≤ ((mi_f h 14003) + ((1 : Int))) ∧ ((mi_f h 14003) + ((1 : Int))) < 6) ∧ (0 ≤ zu ∧ zu ≤ 59)) ∧ (∀ h1, ab_Sh sx_sk h1 → mi_f h1 14003 = (mi_f h 14003) + ((1 : Int)) → (∀ i, mi_a h1 148 i = if i = Int.toNat ((mi_f h 14003) + ((1 : Int))) then zu else (mi_a h 148 i)) → ab_Fr [(14003, 14004), (18944, 18945)] h h1 → ∃ Q1, me_E (d + 8) 185 0 (mi_entry 1 [.inr (.inr 109)]) [] h1 Q1 ∧ ∀ w h2, (∀ x, w = some x → mi_ok x) → Q1 w h2 → me_E (d + 9) 190 245 [some (.inr (.inr 109)), some (.inl (zu))] (mi_back w [.inl ((mi_f h 14003) + ((1 : Int))), .inr (.inr 146)]) h2 Q)) (k1 : ((mi_a h 119 (Int.toNat zu)) ≠ ((10 : Int))) → ((0 ≤ zu ∧ zu < 60)) ∧ (∀ h1, ab_Sh sx_sk h1 → ab_Fr [] h h1 → ∃ Q1, me_E (d + 8) 192 0 (mi_entry 2 [.inr (.inr 109), .inl (zu)]) [] h1 Q1 ∧ ∀ w h2, (∀ x, w = some x → mi_ok x) → Q1 w h2 → me_E (d + 9) 190 212 [some (.inr (.inr 109)), some (.inl (zu))] (mi_back w []) h2 Q)) : me_E (d + 9) 190 196 [some (.inr (.inr 109)), some (.inl (zu))] [] h Q := Or.elim (mi_em .eq ((mi_a h 119 (Int.toNat zu))) (((10 : Int)))) (fun c0 => ms_ptG_0 hS ok_zu ⟨(k0 (me_fb hS rfl) c0).1.1, c0, (k0 (me_fb hS rfl) c0).1.2.1, (k0 (me_fb hS rfl) c0).1.2.2.1, (k0 (me_fb hS rfl) c0).1.2.2.2.1, (k0 (me_fb hS rfl) c0).1.2.2.2.2⟩ (fun h1 W => (k0 (me_fb hS rfl) c0).2 h1 W.1 (W.2.1 14003) (fun i => W.2.2.1 148 i) (W.2.2.2.2.2 _ rfl))) (fun c0 => ms_ptG_1 hS ok_zu ⟨(k1 c0).1, c0⟩ (fun h1 W => (k1 c0).2 h1 W.1 (W.2.2.2.2.2 _ rfl)))
set_option maxRecDepth 20000 in
theorem mp_ptH_0 (h : sm_H) (d : Nat) (zu : Int) : mi_path [(190, (2, 0, sb_190))] sx_sk h 0 [] (d + 9, 190, 212, [some (.inr (.inr 109)), some (.inl (zu))], [], [], []) = some ((d + 9, 190, 212, [some (.inr (.inr 109)), some (.inl (zu))], [], [], []), []) := rfl
theorem mi_tab_ptH_0 : ∀ e ∈ ([(190, (2, 0, sb_190))] : mi_T), sc_P e.1 = some e.2 := mi_tb mi_P190 (mi_tb_e)
set_option maxRecDepth 20000 in
theorem ms_ptH_0 {h : sm_H} {d : Nat} {Q : Option mi_V → sm_H → Prop} {zu : Int} (hS : ab_Sh sx_sk h) (ok_zu : mi_in zu) (kon : ∀ h1, me_W [] h h1 → Q none h1) : me_E (d + 9) 190 212 [some (.inr (.inr 109)), some (.inl (zu))] [] h Q := me_seg (mp_ptH_0 h d zu) (mi_tab_ptH_0) hS (mi_okL_c (trivial) (mi_okL_c (ok_zu) (mi_okL_e))) (mi_okS_e) (mi_al_e) (fun h1 W _ hst => me_ret (M := (2, 0, sb_190)) rfl rfl rfl hst (mi_al_e) (kon h1 W))
set_option maxRecDepth 20000 in
theorem mt_ptH {h : sm_H} {d : Nat} {Q : Option mi_V → sm_H → Prop} {zu : Int} (hS : ab_Sh sx_sk h) (ok_zu : mi_in zu) (k0 : (∀ h1, ab_Sh sx_sk h1 → ab_Fr [] h h1 → Q none h1)) : me_E (d + 9) 190 212 [some (.inr (.inr 109)), some (.inl (zu))] [] h Q := ms_ptH_0 hS ok_zu (fun h1 W => (k0) h1 W.1 (W.2.2.2.2.2 _ rfl))
set_option maxRecDepth 20000 in
theorem mp_ptI_0 (h : sm_H) (d : Nat) (zu zz zv : Int) : mi_path [(190, (2, 0, sb_190))] sx_sk h 12 [] (d + 9, 190, 245, [some (.inr (.inr 109)), some (.inl (zu))], [.inl (zz), .inl (zv), .inr (.inr 146)], [], []) = some ((d + 9, 190, 263, [some (.inr (.inr 109)), some (.inl (zu))], [.inl ((0 : Int)), .inr (.inr 109)], [.inr (.inr (.inl (120, Int.toNat zu, if Int.toNat (mi_f h 14003) = Int.toNat zv then zz else (mi_a h 146 (Int.toNat (mi_f h 14003)))))), .inr (.inr (.inl (146, Int.toNat zv, zz)))], []), [0 ≤ zv ∧ zv < 6, 0 ≤ zz ∧ zz ≤ 79, 0 ≤ (mi_f h 14003) ∧ (mi_f h 14003) < 6, 0 ≤ zu ∧ zu < 60]) := rfl
theorem mi_tab_ptI_0 : ∀ e ∈ ([(190, (2, 0, sb_190))] : mi_T), sc_P e.1 = some e.2 := mi_tb mi_P190 (mi_tb_e)
set_option maxRecDepth 20000 in
theorem ms_ptI_0 {h : sm_H} {d : Nat} {Q : Option mi_V → sm_H → Prop} {zu zz zv : Int} (hS : ab_Sh sx_sk h) (ok_zu : mi_in zu) (ok_zz : mi_in zz) (ok_zv : mi_in zv) (ho : (0 ≤ zv ∧ zv < 6) ∧ (0 ≤ zz ∧ zz ≤ 79) ∧ (0 ≤ (mi_f h 14003) ∧ (mi_f h 14003) < 6) ∧ (0 ≤ zu ∧ zu < 60)) (kon : ∀ h1, me_W [.inr (.inr (.inl (120, Int.toNat zu, if Int.toNat (mi_f h 14003) = Int.toNat zv then zz else (mi_a h 146 (Int.toNat (mi_f h 14003)))))), .inr (.inr (.inl (146, Int.toNat zv, zz)))] h h1 → ∃ Q1, me_E (d + 8) 187 0 (mi_entry 4 [.inr (.inr 109), .inl ((0 : Int))]) [] h1 Q1 ∧ ∀ w h2, (∀ x, w = some x → mi_ok x) → Q1 w h2 → me_E (d + 9) 190 266 [some (.inr (.inr 109)), some (.inl (zu))] (mi_back w []) h2 Q) : me_E (d + 9) 190 245 [some (.inr (.inr 109)), some (.inl (zu))] [.inl (zz), .inl (zv), .inr (.inr 146)] h Q := me_seg (mp_ptI_0 h d zu zz zv) (mi_tab_ptI_0) hS (mi_okL_c (trivial) (mi_okL_c (ok_zu) (mi_okL_e))) (mi_okS_cons (ok_zz) (mi_okS_cons (ok_zv) (mi_okS_cons (trivial) (mi_okS_e)))) (mi_al (ho.1) (mi_al (ho.2.1) (mi_al (ho.2.2.1) (mi_al (ho.2.2.2) (mi_al_e))))) (fun h1 W _ hst => let ⟨_, k1, k2⟩ := kon h1 W; me_call (M := (2, 0, sb_190)) (M' := (4, 0, sb_187)) rfl rfl rfl rfl (Nat.le_of_ble_eq_true rfl) (Nat.le_of_ble_eq_true rfl) W.1 k1 k2)
set_option maxRecDepth 20000 in
theorem mt_ptI {h : sm_H} {d : Nat} {Q : Option mi_V → sm_H → Prop} {zu zz zv : Int} (hS : ab_Sh sx_sk h) (ok_zu : mi_in zu) (ok_zz : mi_in zz) (ok_zv : mi_in zv) (k0 : (0 ≤ mi_f h 14003 ∧ mi_f h 14003 ≤ 5) → ((0 ≤ zv ∧ zv < 6) ∧ (0 ≤ zz ∧ zz ≤ 79) ∧ (0 ≤ (mi_f h 14003) ∧ (mi_f h 14003) < 6) ∧ (0 ≤ zu ∧ zu < 60)) ∧ (∀ h1, ab_Sh sx_sk h1 → (∀ i, mi_a h1 120 i = if i = Int.toNat zu then if Int.toNat (mi_f h 14003) = Int.toNat zv then zz else (mi_a h 146 (Int.toNat (mi_f h 14003))) else (mi_a h 120 i)) → (∀ i, mi_a h1 146 i = if i = Int.toNat zv then zz else (mi_a h 146 i)) → ab_Fr [(15360, 15361), (18688, 18689)] h h1 → ∃ Q1, me_E (d + 8) 187 0 (mi_entry 4 [.inr (.inr 109), .inl ((0 : Int))]) [] h1 Q1 ∧ ∀ w h2, (∀ x, w = some x → mi_ok x) → Q1 w h2 → me_E (d + 9) 190 266 [some (.inr (.inr 109)), some (.inl (zu))] (mi_back w []) h2 Q)) : me_E (d + 9) 190 245 [some (.inr (.inr 109)), some (.inl (zu))] [.inl (zz), .inl (zv), .inr (.inr 146)] h Q := ms_ptI_0 hS ok_zu ok_zz ok_zv ⟨(k0 (me_fb hS rfl)).1.1, (k0 (me_fb hS rfl)).1.2.1, (k0 (me_fb hS rfl)).1.2.2.1, (k0 (me_fb hS rfl)).1.2.2.2⟩ (fun h1 W => (k0 (me_fb hS rfl)).2 h1 W.1 (fun i => W.2.2.1 120 i) (fun i => W.2.2.1 146 i) (W.2.2.2.2.2 _ rfl))
set_option maxRecDepth 20000 in
theorem mp_ptJ_0 (h : sm_H) (d : Nat) (zu : Int) : mi_path [(190, (2, 0, sb_190))] sx_sk h 0 [] (d + 9, 190, 266, [some (.inr (.inr 109)), some (.inl (zu))], [], [], []) = some ((d + 9, 190, 266, [some (.inr (.inr 109)), some (.inl (zu))], [], [], []), []) := rfl
theorem mi_tab_ptJ_0 : ∀ e ∈ ([(190, (2, 0, sb_190))] : mi_T), sc_P e.1 = some e.2 := mi_tb mi_P190 (mi_tb_e)
set_option maxRecDepth 20000 in
theorem ms_ptJ_0 {h : sm_H} {d : Nat} {Q : Option mi_V → sm_H → Prop} {zu : Int} (hS : ab_Sh sx_sk h) (ok_zu : mi_in zu) (kon : ∀ h1, me_W [] h h1 → Q none h1) : me_E (d + 9) 190 266 [some (.inr (.inr 109)), some (.inl (zu))] [] h Q := me_seg (mp_ptJ_0 h d zu) (mi_tab_ptJ_0) hS (mi_okL_c (trivial) (mi_okL_c (ok_zu) (mi_okL_e))) (mi_okS_e) (mi_al_e) (fun h1 W _ hst => me_ret (M := (2, 0, sb_190)) rfl rfl rfl hst (mi_al_e) (kon h1 W))
set_option maxRecDepth 20000 in
theorem mt_ptJ {h : sm_H} {d : Nat} {Q : Option mi_V → sm_H → Prop} {zu : Int} (hS : ab_Sh sx_sk h) (ok_zu : mi_in zu) (k0 : (∀ h1, ab_Sh sx_sk h1 → ab_Fr [] h h1 → Q none h1)) : me_E (d + 9) 190 266 [some (.inr (.inr 109)), some (.inl (zu))] [] h Q := ms_ptJ_0 hS ok_zu (fun h1 W => (k0) h1 W.1 (W.2.2.2.2.2 _ rfl))
set_option maxRecDepth 20000 in
theorem mp_ptK_0 (h : sm_H) (d : Nat) : mi_path [(190, (2, 0, sb_190))] sx_sk h 0 [] (d + 9, 190, 35, [some (.inr (.inr 109)), none], [], [], []) = some ((d + 9, 190, 35, [some (.inr (.inr 109)), none], [], [], []), []) := rfl
theorem mi_tab_ptK_0 : ∀ e ∈ ([(190, (2, 0, sb_190))] : mi_T), sc_P e.1 = some e.2 := mi_tb mi_P190 (mi_tb_e)
set_option maxRecDepth 20000 in
theorem ms_ptK_0 {h : sm_H} {d : Nat} {Q : Option mi_V → sm_H → Prop} (hS : ab_Sh sx_sk h)  (kon : ∀ h1, me_W [] h h1 → Q none h1) : me_E (d + 9) 190 35 [some (.inr (.inr 109)), none] [] h Q := me_seg (mp_ptK_0 h d ) (mi_tab_ptK_0) hS (mi_okL_c (trivial) (mi_okL_n (mi_okL_e))) (mi_okS_e) (mi_al_e) (fun h1 W _ hst => me_ret (M := (2, 0, sb_190)) rfl rfl rfl hst (mi_al_e) (kon h1 W))
set_option maxRecDepth 20000 in
theorem mt_ptK {h : sm_H} {d : Nat} {Q : Option mi_V → sm_H → Prop} (hS : ab_Sh sx_sk h)  (k0 : (∀ h1, ab_Sh sx_sk h1 → ab_Fr [] h h1 → Q none h1)) : me_E (d + 9) 190 35 [some (.inr (.inr 109)), none] [] h Q := ms_ptK_0 hS (fun h1 W => (k0) h1 W.1 (W.2.2.2.2.2 _ rfl))
