/-! weigh -/
def sy_V : List (Nat × Nat) := [(13999, 14000), (16768, 18432), (18560, 18561)]
def sy_Q (h : sm_H) (w : Option mi_V) (h' : sm_H) : Prop := w = none ∧ ab_Sh sx_sk h' ∧ ab_Fr sy_V h h'
def wg_P (zu zs zf : Int) (h : sm_H) : Prop := 0 ≤ zu ∧ zu < 60 ∧ (0 ≤ zf → zf < 80 ∧ mi_a h 144 zf.toNat ≤ 1000) ∧ (zs = 9 → 0 ≤ zf ∧ 0 ≤ mi_a h 120 zu.toNat ∧ mi_a h 120 zu.toNat < 26) ∧ (zs = 8 → 0 ≤ mi_a h 120 zu.toNat ∧ mi_a h 120 zu.toNat < 20)
section WGH
variable {d : Nat} {h0 h h1 : sm_H} {zu zs zf : Int}
theorem wg_P_fr {wr : List (Nat × Nat)} (hP : wg_P zu zs zf h) (hS : ab_Sh sx_sk h) (hF : ab_Fr wr h h1) (hw : (ab_in wr 18432 || ab_in wr 15360) = false) : wg_P zu zs zf h1 := by
  simp only [Bool.or_eq_false_iff] at hw
  unfold wg_P
  rw [me_a (k := 144) hF hS rfl hw.1, me_a (k := 120) hF hS rfl hw.2]
  exact hP
theorem wg181 (os : mi_in zs) (of : mi_in zf) (hS : ab_Sh sx_sk h) (hP : wg_P zu zs zf h) (hF : ab_Fr sy_V h0 h) : me_E d 195 181 [some (.inr (.inr 109)), some (.inl zu), some (.inl zs), some (.inl zf)] [] h (sy_Q h0) := by
  obtain ⟨p1, p2, p3, p4, p5⟩ := hP
  refine mt_wgE hS ⟨by omega, by omega⟩ os of ?_ ?_ ?_
  · intro c1 c2
    exact ⟨by omega, fun h1 g1 g2 g3 => ⟨rfl, g1, hF.trans (g3.wide (fun c hc => ab_swr_ok (by decide) hc))⟩⟩
  · intro c1 c2
    exact ⟨by omega, fun h1 g1 g2 g3 => ⟨rfl, g1, hF.trans (g3.wide (fun c hc => ab_swr_ok (by decide) hc))⟩⟩
  · intro c1
    have := p4 c1
    have b := mi_inT (mx_a h 144 (Int.toNat zf))
    have b1 : -2147483648 ≤ mi_a h 144 (Int.toNat zf) := b.1
    exact ⟨by omega, fun h1 g1 g2 g3 => ⟨rfl, g1, hF.trans (g3.wide (fun c hc => ab_swr_ok (by decide) hc))⟩⟩
theorem wg139 (os : mi_in zs) (of : mi_in zf) (hS : ab_Sh sx_sk h) (hP : wg_P zu zs zf h) (hF : ab_Fr sy_V h0 h) : me_E d 195 139 [some (.inr (.inr 109)), some (.inl zu), some (.inl zs), some (.inl zf)] [] h (sy_Q h0) := by
  have nx : ∀ h1, ab_Sh sx_sk h1 → ab_Fr [(17792, 17793)] h h1 → me_E d 195 181 [some (.inr (.inr 109)), some (.inl zu), some (.inl zs), some (.inl zf)] [] h1 (sy_Q h0) := fun h1 g1 g3 => wg181 os of g1 (wg_P_fr hP hS g3 rfl) (hF.trans (g3.wide (fun c hc => ab_swr_ok (by decide) hc)))
  obtain ⟨p1, p2, p3, p4, p5⟩ := hP
  refine mt_wgD hS ⟨by omega, by omega⟩ os of ?_ ?_ ?_
  · intro c1 c2
    exact ⟨by omega, fun h1 g1 g2 g3 => nx h1 g1 g3⟩
  · intro c1 c2
    exact ⟨by omega, fun h1 g1 g2 g3 => nx h1 g1 g3⟩
  · intro c1
    exact ⟨by omega, fun h1 g1 g2 g3 => nx h1 g1 g3⟩
theorem wg84 (os : mi_in zs) (of : mi_in zf) (hS : ab_Sh sx_sk h) (hP : wg_P zu zs zf h) (hF : ab_Fr sy_V h0 h) : me_E d 195 84 [some (.inr (.inr 109)), some (.inl zu), some (.inl zs), some (.inl zf)] [] h (sy_Q h0) := by
  have nx : ∀ h1, ab_Sh sx_sk h1 → ab_Fr [(17152, 17153)] h h1 → me_E d 195 139 [some (.inr (.inr 109)), some (.inl zu), some (.inl zs), some (.inl zf)] [] h1 (sy_Q h0) := fun h1 g1 g3 => wg139 os of g1 (wg_P_fr hP hS g3 rfl) (hF.trans (g3.wide (fun c hc => ab_swr_ok (by decide) hc)))
  obtain ⟨p1, p2, p3, p4, p5⟩ := hP
  refine mt_wgC hS ⟨by omega, by omega⟩ os of ?_ ?_ ?_ ?_ ?_
  · intro c1 c2
    exact ⟨by omega, fun h1 g1 g2 g3 => nx h1 g1 g3⟩
  · intro c1 c2 c3 c4
    exact ⟨by omega, fun h1 g1 g2 g3 => nx h1 g1 g3⟩
  · intro c1 c2 c3 c4
    exact ⟨by omega, fun h1 g1 g2 g3 => nx h1 g1 g3⟩
  · intro c1 c2 c3
    exact ⟨by omega, fun h1 g1 g2 g3 => nx h1 g1 g3⟩
  · intro c1
    exact ⟨by omega, fun h1 g1 g2 g3 => nx h1 g1 g3⟩
theorem wg49 (os : mi_in zs) (of : mi_in zf) (hS : ab_Sh sx_sk h) (hP : wg_P zu zs zf h) (hF : ab_Fr sy_V h0 h) : me_E d 195 49 [some (.inr (.inr 109)), some (.inl zu), some (.inl zs), some (.inl zf)] [] h (sy_Q h0) := by
  have nx : ∀ h1, ab_Sh sx_sk h1 → ab_Fr [(16768, 16769)] h h1 → me_E d 195 84 [some (.inr (.inr 109)), some (.inl zu), some (.inl zs), some (.inl zf)] [] h1 (sy_Q h0) := fun h1 g1 g3 => wg84 os of g1 (wg_P_fr hP hS g3 rfl) (hF.trans (g3.wide (fun c hc => ab_swr_ok (by decide) hc)))
  obtain ⟨p1, p2, p3, p4, p5⟩ := hP
  refine mt_wgB hS ⟨by omega, by omega⟩ os of ?_ ?_ ?_ ?_
  · intro c1 c2
    exact ⟨by omega, fun h1 g1 g2 g3 => nx h1 g1 g3⟩
  · intro c1 c2 c3
    exact ⟨by omega, fun h1 g1 g2 g3 => nx h1 g1 g3⟩
  · intro c1 c2 c3
    exact ⟨by omega, fun h1 g1 g2 g3 => nx h1 g1 g3⟩
  · intro c1
    have := p3 c1
    have b := me_ab (k := 133) (i := zf.toNat) hS rfl (by decide) (by omega)
    exact ⟨by omega, fun h1 g1 g2 g3 => nx h1 g1 g3⟩
theorem me_weigh {Y : wk_Y} (hL : wk_L (mi_a h) Y) (hu0 : 0 ≤ zu) (hu1 : zu < wk_u Y) (hH : ∀ f : Nat, (f : Int) < wk_f Y → mi_a h 144 f ≤ 1000) (hS : ab_Sh sx_sk h) : me_E d 195 0 [some (.inr (.inr 109)), some (.inl zu), none, none] [] h (sy_Q h) := by
  obtain ⟨-, -, -, a6, a7, a8⟩ := hL.2.2.1 zu hu0 hu1
  have h60 := hL.1
  have h80 := hL.2.1
  refine mt_wgA hS ⟨by omega, by omega⟩ ?_ ?_ ?_
  · intro c1 c2
    refine ⟨by omega, fun h1 g1 g2 => ?_⟩
    have e := me_nil g2
    subst e
    exact wg49 (mi_inT _) ⟨by decide, by decide⟩ g1 ⟨hu0, by omega, fun z => absurd z (by decide), fun z => absurd z c2, a8⟩ ab_Fr.refl
  · intro c1 c2
    obtain ⟨b1, b2, b3, b4, b5, b6, -⟩ := a6 c2
    refine ⟨by omega, fun h1 g1 g2 => ?_⟩
    have e := me_nil g2
    subst e
    have b5 : 0 ≤ mi_a h1 114 (mi_a h1 115 (mi_a h1 120 zu.toNat).toNat).toNat := b5
    have b6 : mi_a h1 114 (mi_a h1 115 (mi_a h1 120 zu.toNat).toNat).toNat < wk_f Y := b6
    exact wg49 (mi_inT _) (mi_inT _) g1 ⟨hu0, by omega, fun z => ⟨by omega, hH _ (by omega)⟩, fun z => ⟨b5, b1, b2⟩, fun z => by omega⟩ ab_Fr.refl
  · intro c1
    obtain ⟨b1, b2, -⟩ := a7 c1
    refine ⟨by omega, fun h1 g1 g2 => ?_⟩
    have e := me_nil g2
    subst e
    exact wg49 (mi_inT _) (mi_inT _) g1 ⟨hu0, by omega, fun z => ⟨by omega, hH _ (by omega)⟩, fun z => by omega, fun z => by omega⟩ ab_Fr.refl
end WGH
