/-! alternative -/
section ALT
variable {d : Nat} {h0 h : sm_H} {za zn : Int}
theorem me_isVoid {zu : Int} (hS : ab_Sh sx_sk h) (u0 : 0 ≤ zu) (u1 : zu < 60) : me_E d 198 0 [some (.inr (.inr 109)), some (.inl zu)] [] h (fun w h' => h' = h ∧ ∃ z, w = some (.inl z) ∧ 0 ≤ z ∧ z ≤ 1) := by
  have := me_abs (M := (2, 4, sb_198)) (as := [.inr (.inr 109), .inl zu]) xo_v_isVoid rfl hS ⟨rfl, me_nv1 ⟨by omega, by omega⟩ u0 (by omega), trivial⟩ (fun e he => by cases he) (by decide)
  refine (me_E.deep (d' := d) this (Nat.zero_le _)).imp (fun w h' hq => ?_)
  obtain ⟨q1, q2, p, hp, q3, -⟩ := hq
  refine ⟨me_nil q2, ?_⟩
  rcases List.mem_cons.mp hp with rfl | hp
  · exact me_resI q3 (by decide) rfl
  · cases hp
theorem al20 (a0 : 0 ≤ za) (a1 : za < 80) (hn : zn ≤ 60) (hS : ab_Sh sx_sk h) (hF : ab_Fr sy_V h0 h) (hr : ∀ k : Nat, (k : Int) < zn → 0 ≤ mi_a h 145 k ∧ mi_a h 145 k < 60) : ∀ (N : Nat) (ze zl zh zk : Int) (zs : Int64) (q9 q10 : Option mi_V), zn - zk < N → 0 ≤ zk → zk ≤ zn → 0 ≤ ze → ze ≤ 1 → mi_in zl → mi_in zh → (∀ v, q9 = some v → mi_ok v) → (∀ v, q10 = some v → mi_ok v) → me_E (d + 1) 196 20 [some (.inr (.inr 109)), some (.inl za), some (.inl zn), some (.inl ze), some (.inr (.inl zs)), none, some (.inl zl), some (.inl zh), some (.inl zk), q9, q10] [] h (sy_Q h0) := by
  intro N
  induction N with
  | zero => intro ze zl zh zk zs q9 q10 hN _ _; exfalso; omega
  | succ N ih =>
    intro ze zl zh zk zs q9 q10 hN k0 k1 e0 e1 ol oh o9 o10
    have oa : mi_in za := ⟨by omega, by omega⟩
    have on : mi_in zn := ⟨by omega, by omega⟩
    have oe : mi_in ze := ⟨by omega, by omega⟩
    have ok : mi_in zk := ⟨by omega, by omega⟩
    have oz : mi_in 0 := ⟨by decide, by decide⟩
    have go : ∀ (zs : Int64) (zl : Int), zk < zn → mi_in zl → me_E (d + 1) 196 77 [some (.inr (.inr 109)), some (.inl za), some (.inl zn), some (.inl ze), some (.inr (.inl zs)), none, some (.inl zl), some (.inl zh), some (.inl zk), some (.inl (mi_a h 145 zk.toNat)), q10] [] h (sy_Q h0) := by
      intro zs zl hlt ol
      obtain ⟨r0, r1⟩ := hr zk.toNat (by omega)
      have ou : mi_in (mi_a h 145 zk.toNat) := mi_inT _
      have nx : ∀ (ze zh : Int) (q10 : Option mi_V), 0 ≤ ze → ze ≤ 1 → mi_in zh → (∀ v, q10 = some v → mi_ok v) → me_E (d + 1) 196 20 [some (.inr (.inr 109)), some (.inl za), some (.inl zn), some (.inl ze), some (.inr (.inl zs)), none, some (.inl zl), some (.inl zh), some (.inl (zk + 1)), some (.inl (mi_a h 145 zk.toNat)), q10] [] h (sy_Q h0) := fun ze zh q10 a b c e => ih ze zl zh (zk + 1) zs _ _ (by omega) (by omega) (by omega) a b ol c (me_oi ou) e
      refine mt_alD hS oa on oe ol oh ok ou o10 ?_ ?_ ?_ ?_ ?_
      · intro c0 c1 c2
        refine ⟨by omega, fun h1 g1 g2 => ?_⟩
        have e := me_nil g2
        subst e
        exact nx _ _ _ (by decide) (by decide) oh (me_oi (mi_inT _))
      · intro c0 c1 c2
        refine ⟨by omega, fun h1 g1 g2 => ?_⟩
        have e := me_nil g2
        subst e
        exact nx _ _ _ (by decide) (by decide) (mi_inT _) (me_oi (mi_inT _))
      · intro c0 c1 c2
        refine ⟨by omega, fun h1 g1 g2 => ?_⟩
        have e := me_nil g2
        subst e
        exact nx _ _ _ (by decide) (by decide) oh (me_oi oz)
      · intro c0 c1 c2
        refine ⟨by omega, fun h1 g1 g2 => ?_⟩
        have e := me_nil g2
        subst e
        exact nx _ _ _ (by decide) (by decide) oz (me_oi oz)
      · intro c0 h1 g1 g2
        have e := me_nil g2
        subst e
        refine ⟨_, me_isVoid g1 r0 r1, fun w h2 ow hq => ?_⟩
        obtain ⟨e, z, rfl, z0, z1⟩ := hq
        subst e
        refine mt_alE g1 oa on oe ol oh ok ou ⟨by omega, by omega⟩ o10 ?_ ?_ ?_ ?_ ?_ ?_ ?_ ?_
        · intro c0 c1 c2
          refine ⟨by omega, fun h1 g1 g2 => ?_⟩
          have e := me_nil g2
          subst e
          exact nx _ _ _ (by decide) (by decide) oh (me_oi (mi_inT _))
        · intro c0 c1 c2
          refine ⟨by omega, fun h1 g1 g2 => ?_⟩
          have e := me_nil g2
          subst e
          exact nx _ _ _ (by decide) (by decide) (mi_inT _) (me_oi (mi_inT _))
        · intro c0 c1 c2
          refine ⟨by omega, fun h1 g1 g2 => ?_⟩
          have e := me_nil g2
          subst e
          exact nx _ _ _ (by decide) (by decide) oh (me_oi oz)
        · intro c0 c1 c2
          refine ⟨by omega, fun h1 g1 g2 => ?_⟩
          have e := me_nil g2
          subst e
          exact nx _ _ _ (by decide) (by decide) oz (me_oi oz)
        · intro c0 c1 c2
          refine ⟨by omega, fun h1 g1 g2 => ?_⟩
          have e := me_nil g2
          subst e
          exact nx _ _ _ (by decide) (by decide) oh (me_oi (mi_inT _))
        · intro c0 c1 c2
          refine ⟨by omega, fun h1 g1 g2 => ?_⟩
          have e := me_nil g2
          subst e
          exact nx _ _ _ (by decide) (by decide) (mi_inT _) (me_oi (mi_inT _))
        · intro c0 c1 c2
          refine ⟨by omega, fun h1 g1 g2 => ?_⟩
          have e := me_nil g2
          subst e
          exact nx _ _ _ (by decide) (by decide) oh (me_oi oz)
        · intro c0 c1 c2
          refine ⟨by omega, fun h1 g1 g2 => ?_⟩
          have e := me_nil g2
          subst e
          exact nx _ _ _ (by decide) (by decide) oz (me_oi oz)
    refine mt_alC hS oa on oe ol oh ok o9 o10 ?_ ?_ ?_ ?_
    · intro c1 c2
      exact ⟨by omega, fun h1 g1 g2 g3 g4 g5 g6 => ⟨rfl, g1, hF.trans (g6.wide (fun c hc => ab_swr_ok (by decide) hc))⟩⟩
    · intro c1 c2
      exact ⟨by omega, fun h1 g1 g2 g3 g4 g5 g6 => ⟨rfl, g1, hF.trans (g6.wide (fun c hc => ab_swr_ok (by decide) hc))⟩⟩
    · intro c1 c2
      refine ⟨by omega, fun h1 g1 g2 => ?_⟩
      have e := me_nil g2
      subst e
      exact go _ _ c1 ol
    · intro c1 c2
      have := hr zk.toNat (by omega)
      refine ⟨by omega, fun h1 g1 g2 => ?_⟩
      have e := me_nil g2
      subst e
      exact go _ _ c1 (mi_inT _)
theorem me_alternative {U : Int} (hS : ab_Sh sx_sk h) (hC : wk_C (mi_a h) U) (a0 : 0 ≤ za) (a1 : za < 80) (hu : mi_a h 126 za.toNat < 0 ∨ mi_a h 126 za.toNat < U) : me_E (d + 1) 196 0 [some (.inr (.inr 109)), some (.inl za), none, none, none, none, none, none, none, none, none] [] h (sy_Q h) := by
  have oa : mi_in za := ⟨by omega, by omega⟩
  have hU := hC.1
  refine mt_alA hS oa ?_
  intro h1 g1 g2
  have e := me_nil g2
  subst e
  refine ⟨_, me_line g1 hC a0 a1 hu, fun w h2 ow hq => ?_⟩
  obtain ⟨q1, q2, rfl, q4, q5⟩ := hq
  refine mt_alB q1 oa ⟨by omega, by omega⟩ ?_
  intro h3 r1 r2
  have e := me_nil r2
  subst e
  refine al20 a0 a1 q4 q1 (q2.wide (fun c hc => ab_swr_ok (by decide) hc)) (fun k hk => ?_) 70 1 0 0 0 _ _ _ (by omega) (by decide) (by omega) (by decide) (by decide) ⟨by decide, by decide⟩ ⟨by decide, by decide⟩ me_on me_on
  have hk2 : k < (wk_row (mi_a h1) 61 (mi_a h1 126 za.toNat)).length := by omega
  obtain ⟨x1, x2, x3⟩ := q5 k _ (List.getElem?_eq_getElem hk2)
  rw [x1]
  exact ⟨x2, by omega⟩
end ALT
