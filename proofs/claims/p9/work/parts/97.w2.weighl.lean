/-! the reference's leads: weigh -/
/-- a part's leads, as X's form row L has them -/
def ld_v (g : wk_g) (L : Nat → Int) (u : Int) : Int := if g 119 u.toNat = 9 then (Int32.ofInt 1 <<< (Int32.ofInt (g 115 (g 120 u.toNat).toNat) &&& 31)).toInt else if 0 ≤ rv_t g u then L (rv_t g u).toNat else 0
def wl_R (h0 : sm_H) (zu : Int) (h : sm_H) (w : Option mi_V) (h' : sm_H) : Prop := w = none ∧ ab_Sh sx_sk h' ∧ ab_Fr wg_W h h' ∧ ∀ i, mi_a h' 139 i = if i = zu.toNat then ld_v (mi_a h0) (mi_a h0 141) zu else mi_a h 139 i
section WLX
variable {d : Nat} {h : sm_H} {zu : Int}
theorem wlx {zf : Int} (hS : ab_Sh sx_sk h) (ef : zf = rv_t (mi_a h) zu) (hP : wg_P zu (mi_a h 119 zu.toNat) zf h) : me_E d 195 49 [some (.inr (.inr 109)), some (.inl zu), some (.inl (mi_a h 119 zu.toNat)), some (.inl zf)] [] h (wl_R h zu h) := by
  obtain ⟨p1, p2, p3, p4, p5⟩ := hP
  have ou : mi_in zu := ⟨by omega, by omega⟩
  have os : mi_in (mi_a h 119 zu.toNat) := mi_inT _
  have of : mi_in zf := by
    rw [ef]
    unfold rv_t
    split
    · exact mi_inT _
    · split
      · exact mi_inT _
      · exact ⟨by decide, by decide⟩
  have t181 : ∀ h3, ab_Sh sx_sk h3 → ab_Fr [(16768, 16769), (17152, 17153), (17792, 17793)] h h3 → (∀ i, mi_a h3 139 i = if i = zu.toNat then ld_v (mi_a h) (mi_a h 141) zu else mi_a h 139 i) → me_E d 195 181 [some (.inr (.inr 109)), some (.inl zu), some (.inl (mi_a h 119 zu.toNat)), some (.inl zf)] [] h3 (wl_R h zu h) := by
    intro h3 s1 s2 s3
    have e144 : mi_a h3 144 zf.toNat = mi_a h 144 zf.toNat := me_a (k := 144) s2 hS rfl rfl
    have fin : ∀ h4, ab_Sh sx_sk h4 → ab_Fr [(18176, 18177)] h3 h4 → wl_R h zu h none h4 := fun h4 t1 t3 => ⟨rfl, t1, (s2.wide (fun c hc => ab_swr_ok (by decide) hc)).trans (t3.wide (fun c hc => ab_swr_ok (by decide) hc)), fun i => (me_a (k := 139) t3 s1 rfl rfl).trans (s3 i)⟩
    refine mt_wgE s1 ou os of ?_ ?_ ?_
    · intro c1 c2
      exact ⟨by omega, fun h4 t1 t2 t3 => fin h4 t1 t3⟩
    · intro c1 c2
      have := p3 c2
      exact ⟨by omega, fun h4 t1 t2 t3 => fin h4 t1 t3⟩
    · intro c1
      have q := p4 c1
      have q3 := p3 q.1
      have b := mi_inT (mx_a h3 144 (Int.toNat zf))
      have b1 : -2147483648 ≤ mi_a h3 144 (Int.toNat zf) := b.1
      rw [e144] at b1 ⊢
      exact ⟨by omega, fun h4 t1 t2 t3 => fin h4 t1 t3⟩
  have t139 : ∀ h2, ab_Sh sx_sk h2 → ab_Fr [(16768, 16769), (17152, 17153)] h h2 → me_E d 195 139 [some (.inr (.inr 109)), some (.inl zu), some (.inl (mi_a h 119 zu.toNat)), some (.inl zf)] [] h2 (wl_R h zu h) := by
    intro h2 s1 s2
    have e120 : mi_a h2 120 zu.toNat = mi_a h 120 zu.toNat := me_a (k := 120) s2 hS rfl rfl
    have e115 : ∀ i, mi_a h2 115 i = mi_a h 115 i := fun i => me_a (k := 115) s2 hS rfl rfl
    have e141 : mi_a h2 141 zf.toNat = mi_a h 141 zf.toNat := me_a (k := 141) s2 hS rfl rfl
    have e139 : ∀ i, mi_a h2 139 i = mi_a h 139 i := fun i => me_a (k := 139) s2 hS rfl rfl
    have nx : ∀ (z : Int) (h3 : sm_H), z = ld_v (mi_a h) (mi_a h 141) zu → ab_Sh sx_sk h3 → (∀ i, mi_a h3 139 i = if i = zu.toNat then z else mi_a h2 139 i) → ab_Fr [(17792, 17793)] h2 h3 → me_E d 195 181 [some (.inr (.inr 109)), some (.inl zu), some (.inl (mi_a h 119 zu.toNat)), some (.inl zf)] [] h3 (wl_R h zu h) := fun z h3 ez t1 t2 t3 => t181 h3 t1 ((s2.wide (fun c hc => ab_swr_ok (by decide) hc)).trans (t3.wide (fun c hc => ab_swr_ok (by decide) hc))) (fun i => by rw [t2 i, ez, e139])
    refine mt_wgD s1 ou os of ?_ ?_ ?_
    · intro c1 c2
      refine ⟨by omega, fun h3 t1 t2 t3 => nx _ h3 ?_ t1 t2 t3⟩
      unfold ld_v
      rw [if_neg c1, ← ef, if_neg (by omega)]
    · intro c1 c2
      have := p3 c2
      refine ⟨by omega, fun h3 t1 t2 t3 => nx _ h3 ?_ t1 t2 t3⟩
      unfold ld_v
      rw [if_neg c1, ← ef, if_pos c2, e141]
    · intro c1
      have q := p4 c1
      rw [e120]
      refine ⟨by omega, fun h3 t1 t2 t3 => nx _ h3 ?_ t1 t2 t3⟩
      unfold ld_v
      rw [if_pos c1, e115]
  have t84 : ∀ h1, ab_Sh sx_sk h1 → ab_Fr [(16768, 16769)] h h1 → me_E d 195 84 [some (.inr (.inr 109)), some (.inl zu), some (.inl (mi_a h 119 zu.toNat)), some (.inl zf)] [] h1 (wl_R h zu h) := by
    intro h1 s1 s2
    have e120 : mi_a h1 120 zu.toNat = mi_a h 120 zu.toNat := me_a (k := 120) s2 hS rfl rfl
    have nx : ∀ h2, ab_Sh sx_sk h2 → ab_Fr [(17152, 17153)] h1 h2 → me_E d 195 139 [some (.inr (.inr 109)), some (.inl zu), some (.inl (mi_a h 119 zu.toNat)), some (.inl zf)] [] h2 (wl_R h zu h) := fun h2 t1 t3 => t139 h2 t1 ((s2.wide (fun c hc => ab_swr_ok (by decide) hc)).trans (t3.wide (fun c hc => ab_swr_ok (by decide) hc)))
    refine mt_wgC s1 ou os of ?_ ?_ ?_ ?_ ?_
    · intro c1 c2; exact ⟨by omega, fun h2 t1 t2 t3 => nx h2 t1 t3⟩
    · intro c1 c2 c3 c4; exact ⟨by omega, fun h2 t1 t2 t3 => nx h2 t1 t3⟩
    · intro c1 c2 c3 c4
      have := p5 c4
      rw [e120]
      exact ⟨by omega, fun h2 t1 t2 t3 => nx h2 t1 t3⟩
    · intro c1 c2 c3; exact ⟨by omega, fun h2 t1 t2 t3 => nx h2 t1 t3⟩
    · intro c1
      have := p3 c1
      exact ⟨by omega, fun h2 t1 t2 t3 => nx h2 t1 t3⟩
  refine mt_wgB hS ou os of ?_ ?_ ?_ ?_
  · intro c1 c2; exact ⟨by omega, fun h1 t1 t2 t3 => t84 h1 t1 t3⟩
  · intro c1 c2 c3; exact ⟨by omega, fun h1 t1 t2 t3 => t84 h1 t1 t3⟩
  · intro c1 c2 c3; exact ⟨by omega, fun h1 t1 t2 t3 => t84 h1 t1 t3⟩
  · intro c1
    have := p3 c1
    have b := me_ab (k := 133) (i := zf.toNat) hS rfl (by decide) (by omega)
    exact ⟨by omega, fun h1 t1 t2 t3 => t84 h1 t1 t3⟩
theorem me_weighl {Y : wk_Y} (hL : wk_L (mi_a h) Y) (hu0 : 0 ≤ zu) (hu1 : zu < wk_u Y) (hH : ∀ f : Nat, (f : Int) < wk_f Y → mi_a h 144 f ≤ 1000) (hS : ab_Sh sx_sk h) : me_E d 195 0 [some (.inr (.inr 109)), some (.inl zu), none, none] [] h (wl_R h zu h) := by
  obtain ⟨-, -, -, a6, a7, a8⟩ := hL.2.2.1 zu hu0 hu1
  have h60 := hL.1
  have h80 := hL.2.1
  refine mt_wgA hS ⟨by omega, by omega⟩ ?_ ?_ ?_
  · intro c1 c2
    refine ⟨by omega, fun h1 g1 g2 => ?_⟩
    have e := me_nil g2
    subst e
    exact wlx g1 (by unfold rv_t; rw [if_neg c1, if_neg c2]) ⟨hu0, by omega, fun z => absurd z (by decide), fun z => absurd z c2, a8⟩
  · intro c1 c2
    obtain ⟨b1, b2, b3, b4, b5, b6, -⟩ := a6 c2
    refine ⟨by omega, fun h1 g1 g2 => ?_⟩
    have e := me_nil g2
    subst e
    have b5 : 0 ≤ mi_a h1 114 (mi_a h1 115 (mi_a h1 120 zu.toNat).toNat).toNat := b5
    have b6 : mi_a h1 114 (mi_a h1 115 (mi_a h1 120 zu.toNat).toNat).toNat < wk_f Y := b6
    exact wlx g1 (by unfold rv_t; rw [if_neg c1, if_pos c2]) ⟨hu0, by omega, fun z => ⟨by omega, hH _ (by omega)⟩, fun z => ⟨b5, b1, b2⟩, fun z => by omega⟩
  · intro c1
    obtain ⟨b1, b2, -⟩ := a7 c1
    refine ⟨by omega, fun h1 g1 g2 => ?_⟩
    have e := me_nil g2
    subst e
    exact wlx g1 (by unfold rv_t; rw [if_pos c1]) ⟨hu0, by omega, fun z => ⟨by omega, hH _ (by omega)⟩, fun z => by omega, fun z => by omega⟩
end WLX
