/-! study -/
def sy_L (h : sm_H) (Y : wk_Y) : Prop := wk_L (mi_a h) Y ∧ wk_u Y = mi_f h 13963 ∧ wk_f Y = mi_f h 13965 ∧ (∀ a, 0 ≤ a → a < mi_f h 13964 → mi_a h 126 a.toNat < 0 ∨ mi_a h 126 a.toNat < wk_u Y) ∧ ∀ r, 0 ≤ r → r < mi_f h 13961 → 0 ≤ mi_a h 114 r.toNat ∧ mi_a h 114 r.toNat < wk_f Y
def sy_R (h : sm_H) (w : Option mi_V) (h' : sm_H) : Prop := w = none ∧ ab_Sh sx_sk h' ∧ ab_Fr sy_W h h'
def sy_S (h0 : sm_H) (Y : wk_Y) (h : sm_H) : Prop := ab_Sh sx_sk h ∧ ab_Fr sy_W h0 h ∧ ∀ f : Nat, (f : Int) < wk_f Y → mi_a h 144 f ≤ 1000
theorem sy_L_fr {h h' : sm_H} {Y : wk_Y} (hL : sy_L h Y) (hS : ab_Sh sx_sk h) (hF : ab_Fr sy_W h h') : sy_L h' Y := by
  have hg : wk_gc (mi_a h) (mi_a h') := wk_gc_fr hF hS rfl
  obtain ⟨a, b, c, e, f⟩ := hL
  unfold sy_L
  rw [me_f (c := 13963) hF hS rfl rfl, me_f (c := 13965) hF hS rfl rfl, me_f (c := 13964) hF hS rfl rfl, me_f (c := 13961) hF hS rfl rfl]
  refine ⟨wk_L_g a hg, b, c, fun x h0 h1 => ?_, fun r h0 h1 => ?_⟩
  · rw [hg 126 (by decide)]
    exact e x h0 h1
  · rw [hg 114 (by decide)]
    exact f r h0 h1
section STU
variable {d : Nat} {h0 : sm_H} {Y : wk_Y}
theorem sy_S_V {h h' : sm_H} (hs : sy_S h0 Y h) (hS' : ab_Sh sx_sk h') (hF : ab_Fr sy_V h h') : sy_S h0 Y h' := ⟨hS', hs.2.1.trans (hF.wide (fun c hc => ab_swr_ok (by decide) hc)), fun f hf => by rw [me_a (k := 144) hF hs.1 rfl rfl]; exact hs.2.2 f hf⟩
theorem s277 : ∀ (N : Nat) (za : Int) (q2 q3 : Option mi_V) (h : sm_H), 10 - za < N → 0 ≤ za → za ≤ 10 → (∀ v, q2 = some v → mi_ok v) → (∀ v, q3 = some v → mi_ok v) → ab_Sh sx_sk h → ab_Fr sy_W h0 h → me_E (d + 3) 194 277 [some (.inr (.inr 109)), some (.inl za), q2, q3] [] h (sy_R h0) := by
  intro N
  induction N with
  | zero => intro za q2 q3 h hN _ _; exfalso; omega
  | succ N ih =>
    intro za q2 q3 h hN a0 a1 o2 o3 hS hF
    have oa : mi_in za := ⟨by omega, by omega⟩
    have s287 : za < 10 → ∀ (M : Nat) (zb : Int) (h : sm_H), 10 - zb < M → 0 ≤ zb → zb ≤ 10 → ab_Sh sx_sk h → ab_Fr sy_W h0 h → me_E (d + 3) 194 287 [some (.inr (.inr 109)), some (.inl za), some (.inl zb), q3] [] h (sy_R h0) := by
      intro lt M
      induction M with
      | zero => intro zb h hM _ _; exfalso; omega
      | succ M im =>
        intro zb h hM b0 b1 hS hF
        have ob : mi_in zb := ⟨by omega, by omega⟩
        refine mt_stP hS oa ob o3 ?_ ?_ ?_
        · intro b c
          refine ⟨by omega, fun h1 g1 g2 => ?_⟩
          have e := me_nil g2
          subst e
          exact ih (za + 1) _ _ _ (by omega) (by omega) (by omega) (me_oi ob) o3 g1 hF
        · intro b c1 c2
          exact ⟨by omega, fun h1 g1 g2 g3 => im (zb + 1) h1 (by omega) (by omega) (by omega) g1 (hF.trans (g3.wide (fun c hc => ab_swr_ok (by decide) hc)))⟩
        · intro b c1 c2
          exact ⟨by omega, fun h1 g1 g2 g3 => im (zb + 1) h1 (by omega) (by omega) (by omega) g1 (hF.trans (g3.wide (fun c hc => ab_swr_ok (by decide) hc)))⟩
    refine mt_stO hS oa o2 o3 ?_ ?_
    · intro b c h1 g1 g2
      have e := me_nil g2
      subst e
      exact ⟨rfl, g1, hF⟩
    · intro b c h1 g1 g2
      have e := me_nil g2
      subst e
      exact s287 (by omega) 20 0 _ (by omega) (by decide) (by decide) g1 hF
theorem s244 (hL : sy_L h0 Y) (hS0 : ab_Sh sx_sk h0) : ∀ (N : Nat) (za : Int) (q2 q3 : Option mi_V) (h : sm_H), 10 - za < N → 0 ≤ za → za ≤ 10 → (∀ v, q2 = some v → mi_ok v) → (∀ v, q3 = some v → mi_ok v) → ab_Sh sx_sk h → ab_Fr sy_W h0 h → me_E (d + 3) 194 244 [some (.inr (.inr 109)), some (.inl za), q2, q3] [] h (sy_R h0) := by
  intro N
  induction N with
  | zero => intro za q2 q3 h hN _ _; exfalso; omega
  | succ N ih =>
    intro za q2 q3 h hN a0 a1 o2 o3 hS hF
    have oa : mi_in za := ⟨by omega, by omega⟩
    have hL1 := sy_L_fr hL hS0 hF
    have h80 := hL1.1.2.1
    refine mt_stN hS oa o2 o3 ?_ ?_
    · intro b c h1 g1 g2
      have e := me_nil g2
      subst e
      exact s277 20 0 _ _ _ (by decide) (by decide) (by decide) o2 o3 g1 hF
    · intro b c
      have := hL1.2.2.2.2 za a0 c
      exact ⟨by omega, fun h1 g1 g2 g3 => ih (za + 1) _ _ h1 (by omega) (by omega) (by omega) o2 o3 g1 (hF.trans (g3.wide (fun c hc => ab_swr_ok (by decide) hc)))⟩
theorem s169 (hL : sy_L h0 Y) (hS0 : ab_Sh sx_sk h0) : ∀ (N : Nat) (za : Int) (q2 q3 : Option mi_V) (h : sm_H), 900 - za < N → 0 ≤ za → za ≤ 900 → (∀ v, q2 = some v → mi_ok v) → (∀ v, q3 = some v → mi_ok v) → ab_Sh sx_sk h → ab_Fr sy_W h0 h → me_E (d + 3) 194 169 [some (.inr (.inr 109)), some (.inl za), q2, q3] [] h (sy_R h0) := by
  intro N
  induction N with
  | zero => intro za q2 q3 h hN _ _; exfalso; omega
  | succ N ih =>
    intro za q2 q3 h hN a0 a1 o2 o3 hS hF
    have oa : mi_in za := ⟨by omega, by omega⟩
    have s190 : za < 900 → ∀ (M : Nat) (zb : Int) (q3 : Option mi_V) (h : sm_H), 80 - zb < M → 0 ≤ zb → zb ≤ 80 → (∀ v, q3 = some v → mi_ok v) → ab_Sh sx_sk h → ab_Fr sy_W h0 h → me_E (d + 3) 194 190 [some (.inr (.inr 109)), some (.inl za), some (.inl zb), q3] [] h (sy_R h0) := by
      intro lt M
      induction M with
      | zero => intro zb q3 h hM _ _; exfalso; omega
      | succ M im =>
        intro zb q3 h hM b0 b1 o3 hS hF
        have ob : mi_in zb := ⟨by omega, by omega⟩
        have hL1 := sy_L_fr hL hS0 hF
        refine mt_stK hS oa ob o3 ?_ ?_
        · intro b c
          refine ⟨by omega, fun h1 g1 g2 => ?_⟩
          have e := me_nil g2
          subst e
          exact ih (za + 1) _ _ _ (by omega) (by omega) (by omega) (me_oi ob) o3 g1 hF
        · intro b c
          refine ⟨by omega, fun h1 g1 g2 => ?_⟩
          have e := me_nil g2
          subst e
          have hfz : zb < wk_f Y := by rw [hL1.2.2.1]; exact c
          have s205 : ∀ (R j : Nat) (zc : Int) (h : sm_H), (mi_a h0 130 zb.toNat).toNat - j < R → (j : Int) ≤ mi_a h0 130 zb.toNat → zc = wk_alt (mi_a h0) j (mi_a h0 129 zb.toNat) → mi_in zc → ab_Sh sx_sk h → ab_Fr sy_W h0 h → me_E (d + 3) 194 205 [some (.inr (.inr 109)), some (.inl za), some (.inl zb), some (.inl zc)] [] h (sy_R h0) := by
            obtain ⟨-, -, c1, c2, -, c3⟩ := hL.1.2.2.2 zb b0 hfz
            intro R
            induction R with
            | zero => intro j zc h hR; exfalso; omega
            | succ R ir =>
              intro j zc h hR hj hzc oc hS hF
              have hg : wk_gc (mi_a h0) (mi_a h) := wk_gc_fr hF hS0 rfl
              have lt : 0 ≤ zc → (j : Int) < mi_a h0 130 zb.toNat := fun z => by
                by_cases e : (j : Int) = mi_a h0 130 zb.toNat
                · exfalso
                  have ej : j = (mi_a h0 130 zb.toNat).toNat := by omega
                  rw [← ej, ← hzc] at c2
                  omega
                · omega
              refine mt_stL hS oa ob oc ?_ ?_
              · intro c
                refine ⟨by omega, fun h1 g1 g2 => ?_⟩
                have e := me_nil g2
                subst e
                exact im (zb + 1) _ _ (by omega) (by omega) (by omega) (me_oi oc) g1 hF
              · intro c
                obtain ⟨x1, x2, x3⟩ := c3 j (lt c)
                rw [← hzc] at x2 x3
                refine ⟨by omega, fun h1 g1 g2 => ?_⟩
                have e := me_nil g2
                subst e
                refine ⟨_, me_behind (d := d + 1) (sy_L_fr hL hS0 hF).1 g1 c x2 ?_, fun w h2 ow hq => ?_⟩
                · rw [hg 126 (by decide)]
                  rcases x3 with x | x
                  · exact Or.inl x
                  · exact Or.inr x.1
                · obtain ⟨rfl, q1, q2⟩ := hq
                  have hF2 : ab_Fr sy_W h0 h2 := hF.trans (q2.wide (fun c hc => ab_swr_ok (by decide) hc))
                  have hg2 : wk_gc (mi_a h0) (mi_a h2) := wk_gc_fr hF2 hS0 rfl
                  refine mt_stM q1 oa ob oc ⟨by omega, fun h3 r1 r2 => ?_⟩
                  have e := me_nil r2
                  subst e
                  have := lt c
                  refine ir (j + 1) _ _ (by omega) (by omega) ?_ (mi_inT _) r1 hF2
                  rw [wk_alt_succ, hg2 128 (by decide), hzc]
          have hg : wk_gc (mi_a h0) (mi_a h1) := wk_gc_fr hF hS0 rfl
          obtain ⟨-, -, c1, -⟩ := hL.1.2.2.2 zb b0 hfz
          refine s205 ((mi_a h0 130 zb.toNat).toNat + 1) 0 _ _ (by omega) (by omega) ?_ (mi_inT _) g1 hF
          rw [hg 129 (by decide)]
          rfl
    refine mt_stJ hS oa o2 o3 ?_ ?_ ?_
    · intro c h1 g1 g2
      have e := me_nil g2
      subst e
      exact s244 hL hS0 20 0 _ _ _ (by decide) (by decide) (by decide) o2 o3 g1 hF
    · intro b c1 c2 h1 g1 g2
      have e := me_nil g2
      subst e
      exact s244 hL hS0 20 0 _ _ _ (by decide) (by decide) (by decide) o2 o3 g1 hF
    · intro b c1 c2 h1 g1 g2 g3
      exact s190 c1 90 0 _ h1 (by decide) (by decide) (by decide) o3 g1 (hF.trans (g3.wide (fun c hc => ab_swr_ok (by decide) hc)))
theorem s74 (hL : sy_L h0 Y) (hS0 : ab_Sh sx_sk h0) : ∀ (N : Nat) (za : Int) (q2 q3 : Option mi_V) (h : sm_H), 900 - za < N → 0 ≤ za → za ≤ 900 → (∀ v, q2 = some v → mi_ok v) → (∀ v, q3 = some v → mi_ok v) → sy_S h0 Y h → me_E (d + 3) 194 74 [some (.inr (.inr 109)), some (.inl za), q2, q3] [] h (sy_R h0) := by
  intro N
  induction N with
  | zero => intro za q2 q3 h hN _ _; exfalso; omega
  | succ N ih =>
    intro za q2 q3 h hN a0 a1 o2 o3 hs
    have oa : mi_in za := ⟨by omega, by omega⟩
    have s137 : za < 900 → ∀ (M : Nat) (zb : Int) (h : sm_H), 80 - zb < M → 0 ≤ zb → zb ≤ 80 → sy_S h0 Y h → me_E (d + 3) 194 137 [some (.inr (.inr 109)), some (.inl za), some (.inl zb), q3] [] h (sy_R h0) := by
      intro lt M
      induction M with
      | zero => intro zb h hM _ _; exfalso; omega
      | succ M im =>
        intro zb h hM b0 b1 hs
        have ob : mi_in zb := ⟨by omega, by omega⟩
        have hL1 := sy_L_fr hL hS0 hs.2.1
        refine mt_stH hs.1 oa ob o3 ?_ ?_
        · intro b c
          refine ⟨by omega, fun h1 g1 g2 => ?_⟩
          have e := me_nil g2
          subst e
          exact ih (za + 1) _ _ _ (by omega) (by omega) (by omega) (me_oi ob) o3 hs
        · intro b c h1 g1 g2
          have e := me_nil g2
          subst e
          refine ⟨_, me_formOf (d := d + 2) hL1.1 b0 (by rw [hL1.2.2.1]; exact c) g1, fun w h2 ow hq => ?_⟩
          obtain ⟨rfl, q1, q2, v, q3, q4⟩ := hq
          refine mt_stI q1 oa ob o3 ⟨by omega, fun h3 r1 r2 => ?_⟩
          have e := me_nil r2
          subst e
          refine im (zb + 1) _ (by omega) (by omega) (by omega) ⟨q1, hs.2.1.trans q2, fun f hf => ?_⟩
          rw [q4]
          split
          · exact q3
          · exact hs.2.2 f hf
    have s116 : za < 900 → ∀ (M : Nat) (zb : Int) (h : sm_H), 80 - zb < M → 0 ≤ zb → zb ≤ 80 → sy_S h0 Y h → me_E (d + 3) 194 116 [some (.inr (.inr 109)), some (.inl za), some (.inl zb), q3] [] h (sy_R h0) := by
      intro lt M
      induction M with
      | zero => intro zb h hM _ _; exfalso; omega
      | succ M im =>
        intro zb h hM b0 b1 hs
        have ob : mi_in zb := ⟨by omega, by omega⟩
        have hL1 := sy_L_fr hL hS0 hs.2.1
        refine mt_stF hs.1 oa ob o3 ?_ ?_
        · intro b c h1 g1 g2
          have e := me_nil g2
          subst e
          exact s137 lt 90 0 _ (by decide) (by decide) (by decide) hs
        · intro b c h1 g1 g2
          have e := me_nil g2
          subst e
          refine ⟨_, me_alternative (d := d + 1) (U := wk_u Y) g1 (wk_L_C hL1.1) b0 (by omega) (hL1.2.2.2.1 zb b0 c), fun w h2 ow hq => ?_⟩
          obtain ⟨rfl, q1, q2⟩ := hq
          refine mt_stG q1 oa ob o3 ⟨by omega, fun h3 r1 r2 => ?_⟩
          have e := me_nil r2
          subst e
          exact im (zb + 1) _ (by omega) (by omega) (by omega) (sy_S_V hs q1 q2)
    have s95 : za < 900 → ∀ (M : Nat) (zb : Int) (h : sm_H), 60 - zb < M → 0 ≤ zb → zb ≤ 60 → sy_S h0 Y h → me_E (d + 3) 194 95 [some (.inr (.inr 109)), some (.inl za), some (.inl zb), q3] [] h (sy_R h0) := by
      intro lt M
      induction M with
      | zero => intro zb h hM _ _; exfalso; omega
      | succ M im =>
        intro zb h hM b0 b1 hs
        have ob : mi_in zb := ⟨by omega, by omega⟩
        have hL1 := sy_L_fr hL hS0 hs.2.1
        refine mt_stD hs.1 oa ob o3 ?_ ?_
        · intro b c h1 g1 g2
          have e := me_nil g2
          subst e
          exact s116 lt 90 0 _ (by decide) (by decide) (by decide) hs
        · intro b c h1 g1 g2
          have e := me_nil g2
          subst e
          refine ⟨_, me_weigh (d := d + 2) hL1.1 b0 (by rw [hL1.2.1]; exact c) hs.2.2 g1, fun w h2 ow hq => ?_⟩
          obtain ⟨rfl, q1, q2⟩ := hq
          refine mt_stE q1 oa ob o3 ⟨by omega, fun h3 r1 r2 => ?_⟩
          have e := me_nil r2
          subst e
          exact im (zb + 1) _ (by omega) (by omega) (by omega) (sy_S_V hs q1 q2)
    refine mt_stC hs.1 oa o2 o3 ?_ ?_ ?_
    · intro c h1 g1 g2 g3
      exact s169 hL hS0 1000 0 _ _ h1 (by decide) (by decide) (by decide) o2 o3 g1 (hs.2.1.trans (g3.wide (fun c hc => ab_swr_ok (by decide) hc)))
    · intro b c1 c2 h1 g1 g2 g3
      exact s169 hL hS0 1000 0 _ _ h1 (by decide) (by decide) (by decide) o2 o3 g1 (hs.2.1.trans (g3.wide (fun c hc => ab_swr_ok (by decide) hc)))
    · intro b c1 c2 h1 g1 g2 g3
      exact s95 c1 70 0 h1 (by decide) (by decide) (by decide) (sy_S_V hs g1 (g3.wide (fun c hc => ab_swr_ok (by decide) hc)))
theorem me_study (hL : sy_L h0 Y) (hS0 : ab_Sh sx_sk h0) : me_E (d + 3) 194 0 [some (.inr (.inr 109)), none, none, none] [] h0 (sy_R h0) := by
  have s2 : ∀ (N : Nat) (za : Int) (q2 q3 : Option mi_V) (h : sm_H), 80 - za < N → 0 ≤ za → za ≤ 80 → (∀ v, q2 = some v → mi_ok v) → (∀ v, q3 = some v → mi_ok v) → ab_Sh sx_sk h → ab_Fr sy_W h0 h → (∀ f : Nat, (f : Int) < za → mi_a h 144 f ≤ 1000) → me_E (d + 3) 194 2 [some (.inr (.inr 109)), some (.inl za), q2, q3] [] h (sy_R h0) := by
    intro N
    induction N with
    | zero => intro za q2 q3 h hN _ _; exfalso; omega
    | succ N ih =>
      intro za q2 q3 h hN a0 a1 o2 o3 hS hF hH
      have oa : mi_in za := ⟨by omega, by omega⟩
      have hL1 := sy_L_fr hL hS0 hF
      refine mt_stB hS oa o2 o3 ?_ ?_ ?_
      · intro b c h1 g1 g2 g3
        refine s74 hL hS0 1000 0 _ _ h1 (by decide) (by decide) (by decide) o2 o3 ⟨g1, hF.trans (g3.wide (fun c hc => ab_swr_ok (by decide) hc)), fun f hf => ?_⟩
        rw [me_a (k := 144) g3 hS rfl rfl]
        rw [hL1.2.2.1] at hf
        exact hH f (by omega)
      · intro b c1 c2
        refine ⟨by omega, fun h1 g1 g2 g3 g4 g5 g6 g7 => ih (za + 1) _ _ h1 (by omega) (by omega) (by omega) o2 o3 g1 (hF.trans (g7.wide (fun c hc => ab_swr_ok (by decide) hc))) (fun f hf => ?_)⟩
        rw [g4]
        split
        · exact Int.le_refl _
        · exact hH f (by omega)
      · intro b c1 c2
        refine ⟨by omega, fun h1 g1 g2 g3 g4 g5 g6 g7 => ih (za + 1) _ _ h1 (by omega) (by omega) (by omega) o2 o3 g1 (hF.trans (g7.wide (fun c hc => ab_swr_ok (by decide) hc))) (fun f hf => ?_)⟩
        rw [g4]
        split
        · exact Int.le_refl _
        · exact hH f (by omega)
  refine mt_stA hS0 ?_
  intro h1 g1 g2
  have e := me_nil g2
  subst e
  exact s2 90 0 _ _ _ (by decide) (by decide) (by decide) me_on me_on g1 ab_Fr.refl (fun f hf => by exfalso; omega)
end STU
/-! check -/
def ck_Q (h : sm_H) (w : Option mi_V) (h' : sm_H) : Prop := h' = h ∧ ∃ z, w = some (.inl z) ∧ mi_in z
section CHK
variable {d : Nat} {h : sm_H} {Y : wk_Y}
theorem me_least {z1 z2 z3 : Int} (hS : ab_Sh sx_sk h) (o1 : mi_in z1) (o2 : mi_in z2) (o3 : mi_in z3) : me_E d 202 0 [some (.inr (.inr 109)), some (.inl z1), some (.inl z2), some (.inl z3), none] [] h (ck_Q h) := by
  have := me_abs (M := (5, 1, sb_202)) (as := [.inr (.inr 109), .inl z1, .inl z2, .inl z3]) xo_v_least rfl hS ⟨rfl, me_nv1 o1 o1.1 o1.2, me_nv1 o2 o2.1 o2.2, me_nv1 o3 o3.1 o3.2, trivial⟩ (fun e he => by cases he) (by decide)
  refine (me_E.deep (d' := d) this (Nat.zero_le _)).imp (fun w h' hq => ?_)
  obtain ⟨q1, q2, p, hp, q3, -⟩ := hq
  refine ⟨me_nil q2, ?_⟩
  rcases List.mem_cons.mp hp with rfl | hp
  · obtain ⟨z, e, z0, z1⟩ := me_resI q3 (by decide) rfl
    exact ⟨z, e, z0, z1⟩
  · cases hp
theorem me_directors {z1 z2 : Int} (hS : ab_Sh sx_sk h) (a0 : 0 ≤ z1) (a1 : z1 < 80) (b0 : 0 ≤ z2) (b1 : z2 < 80) : me_E d 203 0 [some (.inr (.inr 109)), some (.inl z1), some (.inl z2)] [] h (fun w h' => h' = h ∧ ∃ x, w = some (.inr (.inl x))) := by
  have := me_abs (M := (3, 2, sb_203)) (as := [.inr (.inr 109), .inl z1, .inl z2]) xo_v_directors rfl hS ⟨rfl, me_nv1 ⟨by omega, by omega⟩ a0 (by omega), me_nv1 ⟨by omega, by omega⟩ b0 (by omega), trivial⟩ (fun e he => by cases he) (by decide)
  refine (me_E.deep (d' := d) this (Nat.zero_le _)).imp (fun w h' hq => ?_)
  obtain ⟨q1, q2, p, hp, q3, -⟩ := hq
  refine ⟨me_nil q2, ?_⟩
  rcases List.mem_cons.mp hp with rfl | hp
  · unfold mi_res at q3
    rw [if_neg (by decide)] at q3
    rcases q3 with q3 | q3 | q3
    · exact absurd q3.1 (by decide)
    · obtain ⟨-, x, e, -⟩ := q3
      exact ⟨x, e⟩
    · exact absurd q3.1 (by decide)
  · cases hp
theorem c167 (hL : sy_L h Y) (hS : ab_Sh sx_sk h) : ∀ (N : Nat) (zb zr : Int) (q3 q4 q5 q6 q7 : Option mi_V), 80 - zr < N → 0 ≤ zr → zr ≤ 80 → mi_in zb → (∀ v, q3 = some v → mi_ok v) → (∀ v, q4 = some v → mi_ok v) → (∀ v, q5 = some v → mi_ok v) → (∀ v, q6 = some v → mi_ok v) → (∀ v, q7 = some v → mi_ok v) → me_E (d + 1) 201 167 [some (.inr (.inr 109)), some (.inl zb), some (.inl zr), q3, q4, q5, q6, q7] [] h (ck_Q h) := by
  intro N
  induction N with
  | zero => intro zb zr q3 q4 q5 q6 q7 hN _ _; exfalso; omega
  | succ N ih =>
    intro zb zr q3 q4 q5 q6 q7 hN r0 r1 ob o3 o4 o5 o6 o7
    have or_ : mi_in zr := ⟨by omega, by omega⟩
    refine mt_ckJ hS ob or_ o3 o4 o5 o6 o7 ?_ ?_
    · intro b c h1 g1 g2
      have e := me_nil g2
      subst e
      exact ⟨rfl, _, rfl, ob⟩
    · intro b c
      refine ⟨by omega, fun h1 g1 g2 => ?_⟩
      have e := me_nil g2
      subst e
      have hfz : zr < wk_f Y := by rw [hL.2.2.1]; exact c
      obtain ⟨-, -, c1, c2, -, c3⟩ := hL.1.2.2.2 zr r0 hfz
      have lp : ∀ (R j : Nat) (zb za : Int) (zx : Int64) (q6 q7 : Option mi_V), (mi_a h1 130 zr.toNat).toNat - j < R → (j : Int) ≤ mi_a h1 130 zr.toNat → za = wk_alt (mi_a h1) j (mi_a h1 129 zr.toNat) → mi_in zb → mi_in za → (∀ v, q6 = some v → mi_ok v) → (∀ v, q7 = some v → mi_ok v) → me_E (d + 1) 201 185 [some (.inr (.inr 109)), some (.inl zb), some (.inl zr), some (.inr (.inl zx)), none, some (.inl za), q6, q7] [] h1 (ck_Q h1) := by
        intro R
        induction R with
        | zero => intro j zb za zx q6 q7 hR; exfalso; omega
        | succ R ir =>
          intro j zb za zx q6 q7 hR hj hza ob oa o6 o7
          have lt : 0 ≤ za → (j : Int) < mi_a h1 130 zr.toNat := fun z => by
            by_cases e : (j : Int) = mi_a h1 130 zr.toNat
            · exfalso
              have ej : j = (mi_a h1 130 zr.toNat).toNat := by omega
              rw [← ej, ← hza] at c2
              omega
            · omega
          refine mt_ckK g1 ob or_ oa o6 o7 ?_ ?_
          · intro c
            refine ⟨by omega, fun h2 s1 s2 => ?_⟩
            have e := me_nil s2
            subst e
            exact ih zb (zr + 1) _ _ _ _ _ (by omega) (by omega) (by omega) ob (fun v e => by cases e; trivial) me_on (me_oi oa) o6 o7
          · intro cz h2 s1 s2
            have e := me_nil s2
            subst e
            obtain ⟨x1, x2, -⟩ := c3 j (lt cz)
            rw [← hza] at x2
            have fin : ∀ (zb : Int) (zd : Int64), mi_in zb → me_E (d + 1) 201 223 [some (.inr (.inr 109)), some (.inl zb), some (.inl zr), some (.inr (.inl zx)), none, some (.inl za), some (.inr (.inl zd)), none] [] h2 (ck_Q h2) := fun zb zd ob => by
              refine mt_ckN s1 ob or_ oa ⟨by omega, fun h3 t1 t2 => ?_⟩
              have e := me_nil t2
              subst e
              have := lt cz
              refine ir (j + 1) zb _ _ _ _ (by omega) (by omega) ?_ ob (mi_inT _) (fun v e => by cases e; trivial) me_on
              rw [wk_alt_succ, hza]
            refine ⟨_, me_directors s1 r0 (by omega) cz x2, fun w h3 ow hq => ?_⟩
            obtain ⟨e, x, rfl⟩ := hq
            subst e
            refine mt_ckL s1 ob or_ oa o6 o7 ?_ ?_
            · intro c4 h4 t1 t2
              have e := me_nil t2
              subst e
              exact fin _ _ ob
            · intro c4
              refine ⟨by omega, fun h4 t1 t2 => ?_⟩
              have e := me_nil t2
              subst e
              refine ⟨_, me_least t1 ob ⟨by decide, by decide⟩ (mi_inT _), fun w h5 ow hq => ?_⟩
              obtain ⟨e, z, rfl, oz⟩ := hq
              subst e
              refine mt_ckM t1 ob or_ oa oz ?_
              intro h6 u1 u2
              have e := me_nil u2
              subst e
              exact fin _ _ oz
      exact lp ((mi_a h1 130 zr.toNat).toNat + 1) 0 zb _ _ _ _ (by omega) (by omega) rfl ob (mi_inT _) o6 o7
theorem c78 (hL : sy_L h Y) (hS : ab_Sh sx_sk h) : ∀ (N : Nat) (zb zr : Int) (q3 q4 q5 q6 q7 : Option mi_V), 60 - zr < N → 0 ≤ zr → zr ≤ 60 → mi_in zb → (∀ v, q3 = some v → mi_ok v) → (∀ v, q4 = some v → mi_ok v) → (∀ v, q5 = some v → mi_ok v) → (∀ v, q6 = some v → mi_ok v) → (∀ v, q7 = some v → mi_ok v) → me_E (d + 1) 201 78 [some (.inr (.inr 109)), some (.inl zb), some (.inl zr), q3, q4, q5, q6, q7] [] h (ck_Q h) := by
  intro N
  induction N with
  | zero => intro zb zr q3 q4 q5 q6 q7 hN _ _; exfalso; omega
  | succ N ih =>
    intro zb zr q3 q4 q5 q6 q7 hN r0 r1 ob o3 o4 o5 o6 o7
    have or_ : mi_in zr := ⟨by omega, by omega⟩
    have nx : ∀ zb, zr < 60 → mi_in zb → me_E (d + 1) 201 78 [some (.inr (.inr 109)), some (.inl zb), some (.inl (zr + 1)), q3, q4, q5, q6, q7] [] h (ck_Q h) := fun zb lt ob => ih zb (zr + 1) _ _ _ _ _ (by omega) (by omega) (by omega) ob o3 o4 o5 o6 o7
    have g118 : ∀ zb, zr < 60 → mi_in zb → me_E (d + 1) 201 118 [some (.inr (.inr 109)), some (.inl zb), some (.inl zr), q3, q4, q5, q6, q7] [] h (ck_Q h) := fun zb lt ob => by
      refine mt_ckH hS ob or_ o3 o4 o5 o6 o7 ?_ ?_ ?_
      · intro c
        refine ⟨by omega, fun h1 g1 g2 => ?_⟩
        have e := me_nil g2
        subst e
        exact nx _ lt ob
      · intro c1 c2
        refine ⟨by omega, fun h1 g1 g2 => ?_⟩
        have e := me_nil g2
        subst e
        exact nx _ lt ob
      · intro c1 c2
        refine ⟨by omega, fun h1 g1 g2 => ?_⟩
        have e := me_nil g2
        subst e
        refine ⟨_, me_least g1 ob ⟨by decide, by decide⟩ (mi_inT _), fun w h5 ow hq => ?_⟩
        obtain ⟨e, z, rfl, oz⟩ := hq
        subst e
        refine mt_ckI g1 ob or_ oz o3 o4 o5 o6 o7 ⟨by omega, fun h2 s1 s2 => ?_⟩
        have e := me_nil s2
        subst e
        exact nx _ lt oz
    refine mt_ckF hS ob or_ o3 o4 o5 o6 o7 ?_ ?_ ?_ ?_
    · intro b c h1 g1 g2
      have e := me_nil g2
      subst e
      exact c167 hL g1 90 _ 0 _ _ _ _ _ (by decide) (by decide) (by decide) ob o3 o4 o5 o6 o7
    · intro b c1 c2
      refine ⟨by omega, fun h1 g1 g2 => ?_⟩
      have e := me_nil g2
      subst e
      exact g118 _ (by omega) ob
    · intro b c1 c2 c3
      refine ⟨by omega, fun h1 g1 g2 => ?_⟩
      have e := me_nil g2
      subst e
      exact g118 _ (by omega) ob
    · intro b c1 c2 c3
      refine ⟨by omega, fun h1 g1 g2 => ?_⟩
      have e := me_nil g2
      subst e
      refine ⟨_, me_least g1 ob ⟨by decide, by decide⟩ (mi_inT _), fun w h5 ow hq => ?_⟩
      obtain ⟨e, z, rfl, oz⟩ := hq
      subst e
      refine mt_ckG g1 ob or_ oz o3 o4 o5 o6 o7 ?_
      intro h2 s1 s2
      have e := me_nil s2
      subst e
      exact g118 _ (by omega) oz
theorem c4 (hL : sy_L h Y) (hS : ab_Sh sx_sk h) : ∀ (N : Nat) (zb zr : Int) (q3 q4 q5 q6 q7 : Option mi_V), 10 - zr < N → 0 ≤ zr → zr ≤ 10 → mi_in zb → (∀ v, q3 = some v → mi_ok v) → (∀ v, q4 = some v → mi_ok v) → (∀ v, q5 = some v → mi_ok v) → (∀ v, q6 = some v → mi_ok v) → (∀ v, q7 = some v → mi_ok v) → me_E (d + 1) 201 4 [some (.inr (.inr 109)), some (.inl zb), some (.inl zr), q3, q4, q5, q6, q7] [] h (ck_Q h) := by
  intro N
  induction N with
  | zero => intro zb zr q3 q4 q5 q6 q7 hN _ _; exfalso; omega
  | succ N ih =>
    intro zb zr q3 q4 q5 q6 q7 hN r0 r1 ob o3 o4 o5 o6 o7
    have or_ : mi_in zr := ⟨by omega, by omega⟩
    have h80 := hL.1.2.1
    have nx : ∀ zb, zr < 10 → mi_in zb → me_E (d + 1) 201 4 [some (.inr (.inr 109)), some (.inl zb), some (.inl (zr + 1)), q3, q4, q5, q6, q7] [] h (ck_Q h) := fun zb lt ob => ih zb (zr + 1) _ _ _ _ _ (by omega) (by omega) (by omega) ob o3 o4 o5 o6 o7
    have g39 : ∀ zb, zr < mi_f h 13961 → zr < 10 → mi_in zb → me_E (d + 1) 201 39 [some (.inr (.inr 109)), some (.inl zb), some (.inl zr), q3, q4, q5, q6, q7] [] h (ck_Q h) := fun zb lt0 lt ob => by
      have hr := hL.2.2.2.2 zr r0 lt0
      refine mt_ckD hS ob or_ o3 o4 o5 o6 o7 ?_ ?_
      · intro c
        refine ⟨by omega, fun h1 g1 g2 => ?_⟩
        have e := me_nil g2
        subst e
        exact nx _ lt ob
      · intro c
        refine ⟨by omega, fun h1 g1 g2 => ?_⟩
        have e := me_nil g2
        subst e
        refine ⟨_, me_least g1 ob ⟨by decide, by decide⟩ (mi_inT _), fun w h5 ow hq => ?_⟩
        obtain ⟨e, z, rfl, oz⟩ := hq
        subst e
        refine mt_ckE g1 ob or_ oz o3 o4 o5 o6 o7 ⟨by omega, fun h2 s1 s2 => ?_⟩
        have e := me_nil s2
        subst e
        exact nx _ lt oz
    refine mt_ckB hS ob or_ o3 o4 o5 o6 o7 ?_ ?_ ?_
    · intro b c h1 g1 g2
      have e := me_nil g2
      subst e
      exact c78 hL g1 70 _ 0 _ _ _ _ _ (by decide) (by decide) (by decide) ob o3 o4 o5 o6 o7
    · intro b c1 c2
      refine ⟨by omega, fun h1 g1 g2 => ?_⟩
      have e := me_nil g2
      subst e
      exact g39 _ c1 (by omega) ob
    · intro b c1 c2
      refine ⟨by omega, fun h1 g1 g2 => ?_⟩
      have e := me_nil g2
      subst e
      refine ⟨_, me_least g1 ob ⟨by decide, by decide⟩ (mi_inT _), fun w h5 ow hq => ?_⟩
      obtain ⟨e, z, rfl, oz⟩ := hq
      subst e
      refine mt_ckC g1 ob or_ oz o3 o4 o5 o6 o7 ?_
      intro h2 s1 s2
      have e := me_nil s2
      subst e
      exact g39 _ c1 (by omega) oz
theorem me_check (hL : sy_L h Y) (hS : ab_Sh sx_sk h) : me_E (d + 1) 201 0 [some (.inr (.inr 109)), none, none, none, none, none, none, none] [] h (ck_Q h) := by
  refine mt_ckA hS ?_
  intro h1 g1 g2
  have e := me_nil g2
  subst e
  exact c4 hL g1 20 0 0 _ _ _ _ _ (by decide) (by decide) (by decide) ⟨by decide, by decide⟩ me_on me_on me_on me_on me_on
end CHK
/-! compile, from what read leaves -/
def rd_Q (h : sm_H) (w : Option mi_V) (h' : sm_H) : Prop := w = none ∧ ab_Sh sx_sk h' ∧ ab_Fr mj_W h h' ∧ (mi_f h' 13960 ≤ 0 → ∃ Y, sy_L h' Y ∧ wk_Lrule Y (mi_a h' 114 0))
def rd_Ok : Prop := ∀ h, ab_Sh sx_sk h → me_E 59 176 0 [some (.inr (.inr 109)), none, none] [] h (rd_Q h)
section CMP
variable {h : sm_H} {L : Nat} {xs : Nat → Int32}
end CMP
