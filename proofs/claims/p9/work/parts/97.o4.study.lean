/-! the reference's study, exactly: the rounds for void, starts, height -/
section RVE
variable {h h' : sm_H}
theorem wk_row_cg {g g' : wk_g} (e1 : g' 124 = g 124) (e2 : g' 125 = g 125) : ∀ (n : Nat) (u : Int), wk_row g' n u = wk_row g n u := by
  intro n
  induction n with
  | zero => intro u; rfl
  | succ n ih => intro u; unfold wk_row; rw [e1, e2, ih]
theorem wk_alt_cg {g g' : wk_g} (e : g' 128 = g 128) : ∀ (n : Nat) (u : Int), wk_alt g' n u = wk_alt g n u := by
  intro n
  induction n with
  | zero => intro u; rfl
  | succ n ih => intro u; unfold wk_alt; rw [e, ih]
theorem rv_eq.l (e : rv_eq h h') : rv_l (mi_a h') = rv_l (mi_a h) := by
  funext a
  unfold rv_l
  rw [wk_row_cg (e 124 (by decide)) (e 125 (by decide)), e.p, e 126 (by decide)]
theorem rv_as_c {g : wk_g} {m : Nat} {a : Int} : rv_as g (m + 1) a = rv_l g a :: rv_as g m (g 128 a.toNat) := rfl
theorem rv_as_cg {g g' : wk_g} (el : rv_l g' = rv_l g) (e : g' 128 = g 128) : ∀ (n : Nat) (a : Int), rv_as g' n a = rv_as g n a := by
  intro n
  induction n with
  | zero => intro u; rfl
  | succ n ih => intro u; rw [rv_as_c, rv_as_c, ih, el, e]
theorem rv_eq.as (e : rv_eq h h') (n : Nat) (a : Int) : rv_as (mi_a h') n a = rv_as (mi_a h) n a := rv_as_cg e.l (e 128 (by decide)) n a
theorem rv_eq.g (e : rv_eq h h') : GR (mi_a h') = GR (mi_a h) := by
  funext F
  unfold GR
  rw [e.as, e 129 (by decide), e 130 (by decide)]
end RVE
/-- the alternatives of forms are among those that are there -/
def sy_A (h : sm_H) : Prop := ∀ F : Nat, (F : Int) < mi_f h 13965 → ∀ j : Nat, (j : Int) < mi_a h 130 F → wk_alt (mi_a h) j (mi_a h 129 F) < mi_f h 13964
section STX
variable {d : Nat} {hb : sm_H} {Y : wk_Y} {X : sp_X} {W : sp_F}
/-- what holds all the time -/
def st_B (hb : sm_H) (W : sp_F) (h : sm_H) : Prop := ab_Sh sx_sk h ∧ ab_Fr sy_W hb h ∧ mx_b h 138 = W
theorem st_eq {h : sm_H} (hSb : ab_Sh sx_sk hb) (hB : st_B hb W h) : rv_eq hb h := rv_eq_fr hB.2.1 hSb rfl
def st_w (hb : sm_H) (W : sp_F) (X : sp_X) (z : Int) (h : sm_H) : Prop := st_B hb W h ∧ rX h = X ∧ mi_f h 13999 = 0 ∧ ∀ u : Int, 0 ≤ u → u < z → rp_ok (rv_p (mi_a hb)) X h u
def st_a (hb : sm_H) (W : sp_F) (X : sp_X) (z : Int) (h : sm_H) : Prop := st_w hb W X (mi_f hb 13963) h ∧ ∀ a : Int, 0 ≤ a → a < z → ap_ok X h a
def st_f (hb : sm_H) (W : sp_F) (X : sp_X) (z : Int) (h : sm_H) : Prop := st_B hb W h ∧ (∀ u : Int, 0 ≤ u → u < mi_f hb 13963 → rp_ok (rv_p (mi_a hb)) X h u) ∧ (∀ a : Int, 0 ≤ a → a < mi_f hb 13964 → ap_ok X h a) ∧ (∀ F : Nat, (F : Int) < z → (rX h).1 F = sf_v X (GR (mi_a hb) F) ∧ (rX h).2.1 F = sf_s X (GR (mi_a hb) F) ∧ (rX h).2.2 F = sf_h X (GR (mi_a hb) F)) ∧ (∀ F : Nat, z ≤ F → (rX h).1 F = X.1 F ∧ (rX h).2.1 F = X.2.1 F ∧ (rX h).2.2 F = X.2.2 F) ∧ (mi_f h 13999 = 0 → ∀ F : Nat, (F : Int) < z → sf_v X (GR (mi_a hb) F) = X.1 F ∧ sf_s X (GR (mi_a hb) F) = X.2.1 F ∧ sf_h X (GR (mi_a hb) F) = X.2.2 F)
theorem rp_ok_fr {P : Int → sp_P} {h h' : sm_H} {u : Int} {wr : List (Nat × Nat)} (hF : ab_Fr wr h h') (hS : ab_Sh sx_sk h) (hw : (ab_in wr 16768 || ab_in wr 17152 || ab_in wr 18176) = false) (k : rp_ok P X h u) : rp_ok P X h' u := by
  simp only [Bool.or_eq_false_iff] at hw
  exact ⟨(me_a (k := 131) hF hS rfl hw.1.1).trans k.1, (me_b (k := 134) hF hS rfl hw.1.2).trans k.2.1, (me_a (k := 142) hF hS rfl hw.2).trans k.2.2⟩
theorem ap_ok_fr {h h' : sm_H} {a : Int} {wr : List (Nat × Nat)} (hF : ab_Fr wr h h') (hS : ab_Sh sx_sk h) (e : rv_eq h h') (hw : (ab_in wr 16896 || ab_in wr 17280 || ab_in wr 18304) = false) (k : ap_ok X h a) : ap_ok X h' a := by
  simp only [Bool.or_eq_false_iff] at hw
  unfold ap_ok at k ⊢
  rw [e.l]
  exact ⟨(me_a (k := 132) hF hS rfl hw.1.1).trans k.1, (me_b (k := 135) hF hS rfl hw.1.2).trans k.2.1, (me_a (k := 143) hF hS rfl hw.2).trans k.2.2⟩
theorem rX_fr {h h' : sm_H} {wr : List (Nat × Nat)} (hF : ab_Fr wr h h') (hS : ab_Sh sx_sk h) (hw : (ab_in wr 17024 || ab_in wr 17408 || ab_in wr 18432) = false) : rX h' = rX h := by
  simp only [Bool.or_eq_false_iff] at hw
  unfold rX
  rw [show mi_a h' 133 = mi_a h 133 from funext (fun i => me_a (k := 133) hF hS rfl hw.1.1), show mx_b h' 136 = mx_b h 136 from funext (fun i => me_b (k := 136) hF hS rfl hw.1.2), show mi_a h' 144 = mi_a h 144 from funext (fun i => me_a (k := 144) hF hS rfl hw.2)]
theorem st_cnt {h : sm_H} (hSb : ab_Sh sx_sk hb) (hB : st_B hb W h) : mi_f h 13963 = mi_f hb 13963 ∧ mi_f h 13964 = mi_f hb 13964 ∧ mi_f h 13965 = mi_f hb 13965 ∧ mi_f h 13961 = mi_f hb 13961 := ⟨me_f (c := 13963) hB.2.1 hSb rfl rfl, me_f (c := 13964) hB.2.1 hSb rfl rfl, me_f (c := 13965) hB.2.1 hSb rfl rfl, me_f (c := 13961) hB.2.1 hSb rfl rfl⟩
variable {Q : Option mi_V → sm_H → Prop} {za : Int} {q3 : Option mi_V}
theorem st137 (hL : sy_L hb Y) (hA : sy_A hb) (hSb : ab_Sh sx_sk hb) (oa : mi_in za) (oa1 : mi_in (za + 1)) (o3 : ∀ v, q3 = some v → mi_ok v) (K : ∀ h zb, mi_in zb → st_f hb W X (mi_f hb 13965) h → me_E (d + 3) 194 74 [some (.inr (.inr 109)), some (.inl (za + 1)), some (.inl zb), q3] [] h Q) : ∀ (N : Nat) (zb : Int) (h : sm_H), 80 - zb < N → 0 ≤ zb → zb ≤ mi_f hb 13965 → st_f hb W X zb h → me_E (d + 3) 194 137 [some (.inr (.inr 109)), some (.inl za), some (.inl zb), q3] [] h Q := by
  intro N
  induction N with
  | zero =>
    intro zb h hN b0 b1
    exfalso
    have := me_fb (c := 13965) hSb rfl
    omega
  | succ N ih =>
    intro zb h hN b0 b1 hI
    obtain ⟨i1, i2, i3, i4, i5, i6⟩ := id hI
    have b80 := me_fb (c := 13965) hSb rfl
    have ob : mi_in zb := ⟨by omega, by omega⟩
    have cn := st_cnt hSb i1
    have e := st_eq hSb i1
    refine mt_stH i1.1 oa ob o3 ?_ ?_
    · intro b c1
      refine ⟨oa1, fun h1 g1 g2 => ?_⟩
      have e0 := me_nil g2
      subst e0
      have : zb = mi_f hb 13965 := by omega
      rw [this] at hI
      exact K h1 zb ob hI
    · intro b c1 h1 g1 g2
      have e0 := me_nil g2
      subst e0
      have hL1 := sy_L_fr hL hSb i1.2.1
      have zlt : zb < mi_f hb 13965 := by omega
      refine ⟨_, me_formOfx (d := d + 2) (X := X) (A := mi_f hb 13964) hL1.1 b0 (by rw [hL1.2.2.1]; exact c1) i1.1 (fun j hj => ?_) i3, fun w h2 oww hq => ?_⟩
      · rw [wk_alt_cg (e 128 (by decide)), e 129 (by decide)]
        rw [e 130 (by decide)] at hj
        exact hA zb.toNat (by omega) j hj
      · obtain ⟨rfl, s1, s2, s3, s4, s5, s6⟩ := hq
        rw [e.g] at s3 s4 s5 s6
        have B2 : st_B hb W h2 := ⟨s1, i1.2.1.trans (s2.wide (fun c hc => ab_swr_ok (by decide) hc)), (funext fun i => me_b (k := 138) s2 i1.1 rfl rfl).trans i1.2.2⟩
        have e12 : rv_eq h1 h2 := rv_eq_fr s2 i1.1 rfl
        refine mt_stI s1 oa ob o3 ⟨⟨by omega, by omega⟩, fun h3 g1 g2 => ?_⟩
        have e0 := me_nil g2
        subst e0
        refine ih (zb + 1) h3 (by omega) (by omega) (by omega) ⟨B2, fun u u0 u1 => rp_ok_fr s2 i1.1 rfl (i2 u u0 u1), fun a a0 a1 => ap_ok_fr s2 i1.1 e12 rfl (i3 a a0 a1), fun F hF => ?_, fun F hF => ?_, fun q F hF => ?_⟩
        · show mi_a h3 133 F = _ ∧ mx_b h3 136 F = _ ∧ mi_a h3 144 F = _
          rw [s3, s4, s5]
          by_cases c : F = zb.toNat
          · rw [if_pos c, if_pos c, if_pos c, c]
            exact ⟨rfl, rfl, rfl⟩
          · rw [if_neg c, if_neg c, if_neg c]
            exact i4 F (by omega)
        · show mi_a h3 133 F = _ ∧ mx_b h3 136 F = _ ∧ mi_a h3 144 F = _
          have c : F ≠ zb.toNat := by omega
          rw [s3, s4, s5, if_neg c, if_neg c, if_neg c]
          exact i5 F (by omega)
        · obtain ⟨x1, x2, x3, x4⟩ := s6 q
          by_cases c : F = zb.toNat
          · obtain ⟨y1, y2, y3⟩ := i5 F (by omega)
            rw [← c] at x2 x3 x4
            exact ⟨x2.trans y1, x3.trans y2, x4.trans y3⟩
          · exact i6 x1 F (by omega)
theorem st116 (hL : sy_L hb Y) (hSb : ab_Sh sx_sk hb) (oa : mi_in za) (o3 : ∀ v, q3 = some v → mi_ok v) (K : ∀ h, st_a hb W X (mi_f hb 13964) h → me_E (d + 3) 194 137 [some (.inr (.inr 109)), some (.inl za), some (.inl 0), q3] [] h Q) : ∀ (N : Nat) (zb : Int) (h : sm_H), 80 - zb < N → 0 ≤ zb → zb ≤ mi_f hb 13964 → st_a hb W X zb h → me_E (d + 3) 194 116 [some (.inr (.inr 109)), some (.inl za), some (.inl zb), q3] [] h Q := by
  intro N
  induction N with
  | zero =>
    intro zb h hN b0 b1
    exfalso
    have := me_fb (c := 13964) hSb rfl
    omega
  | succ N ih =>
    intro zb h hN b0 b1 hI
    obtain ⟨⟨i1, i2, i3, i4⟩, i5⟩ := id hI
    have b80 := me_fb (c := 13964) hSb rfl
    have ob : mi_in zb := ⟨by omega, by omega⟩
    have cn := st_cnt hSb i1
    have e := st_eq hSb i1
    refine mt_stF i1.1 oa ob o3 ?_ ?_
    · intro b c1 h1 g1 g2
      have e0 := me_nil g2
      subst e0
      have : zb = mi_f hb 13964 := by omega
      rw [this] at hI
      exact K h1 hI
    · intro b c1 h1 g1 g2
      have e0 := me_nil g2
      subst e0
      have hL1 := sy_L_fr hL hSb i1.2.1
      refine ⟨_, me_alternativex (d := d + 1) (X := X) (U := wk_u Y) i1.1 (wk_L_C hL1.1) b0 (by omega) (hL1.2.2.2.1 zb b0 (by omega)) (fun u u0 u1 => by rw [e.p]; exact i4 u u0 (by rw [hL1.2.1, cn.1] at u1; exact u1)), fun w h2 oww hq => ?_⟩
      obtain ⟨rfl, s1, s2, s3, s4, s5⟩ := hq
      have B2 : st_B hb W h2 := ⟨s1, i1.2.1.trans (s2.wide (fun c hc => ab_swr_ok (by decide) hc)), (funext fun i => me_b (k := 138) s2 i1.1 rfl rfl).trans i1.2.2⟩
      have e12 : rv_eq h1 h2 := rv_eq_fr s2 i1.1 rfl
      refine mt_stG s1 oa ob o3 ⟨⟨by omega, by omega⟩, fun h3 g1 g2 => ?_⟩
      have e0 := me_nil g2
      subst e0
      refine ih (zb + 1) h3 (by omega) (by omega) (by omega) ⟨⟨B2, (rX_fr s2 i1.1 rfl).trans i2, (me_f (c := 13999) s2 i1.1 rfl rfl).trans i3, fun u u0 u1 => rp_ok_fr s2 i1.1 rfl (i4 u u0 u1)⟩, fun a a0 a1 => ?_⟩
      unfold ap_ok
      rw [s3, s4, s5, e12.l]
      by_cases c : a = zb
      · rw [if_pos (by rw [c]), if_pos (by rw [c]), if_pos (by rw [c]), c]
        exact ⟨rfl, rfl, rfl⟩
      · have c' : a.toNat ≠ zb.toNat := by omega
        rw [if_neg c', if_neg c', if_neg c']
        exact i5 a a0 (by omega)
theorem st95 (hL : sy_L hb Y) (hSb : ab_Sh sx_sk hb) (hH : ∀ F : Nat, (F : Int) < mi_f hb 13965 → X.2.2 F ≤ 1000) (oa : mi_in za) (o3 : ∀ v, q3 = some v → mi_ok v) (K : ∀ h, st_w hb W X (mi_f hb 13963) h → me_E (d + 3) 194 116 [some (.inr (.inr 109)), some (.inl za), some (.inl 0), q3] [] h Q) : ∀ (N : Nat) (zb : Int) (h : sm_H), 60 - zb < N → 0 ≤ zb → zb ≤ mi_f hb 13963 → st_w hb W X zb h → me_E (d + 3) 194 95 [some (.inr (.inr 109)), some (.inl za), some (.inl zb), q3] [] h Q := by
  intro N
  induction N with
  | zero =>
    intro zb h hN b0 b1
    exfalso
    have := me_fb (c := 13963) hSb rfl
    omega
  | succ N ih =>
    intro zb h hN b0 b1 hI
    obtain ⟨i1, i2, i3, i4⟩ := id hI
    have b60 := me_fb (c := 13963) hSb rfl
    have ob : mi_in zb := ⟨by omega, by omega⟩
    have cn := st_cnt hSb i1
    have e := st_eq hSb i1
    refine mt_stD i1.1 oa ob o3 ?_ ?_
    · intro b c1 h1 g1 g2
      have e0 := me_nil g2
      subst e0
      have : zb = mi_f hb 13963 := by omega
      rw [this] at hI
      exact K h1 hI
    · intro b c1 h1 g1 g2
      have e0 := me_nil g2
      subst e0
      have hL1 := sy_L_fr hL hSb i1.2.1
      refine ⟨_, me_weighx (d := d + 2) hL1.1 b0 (by rw [hL1.2.1]; exact c1) (fun F hF => ?_) i1.1, fun w h2 oww hq => ?_⟩
      · rw [hL1.2.2.1, cn.2.2.1] at hF
        have := hH F hF
        rw [← i2] at this
        exact this
      · obtain ⟨rfl, s1, s2, s3, s4, s5⟩ := hq
        rw [i2, e.p] at s3 s4 s5
        have B2 : st_B hb W h2 := ⟨s1, i1.2.1.trans (s2.wide (fun c hc => ab_swr_ok (by decide) hc)), (funext fun i => me_b (k := 138) s2 i1.1 rfl rfl).trans i1.2.2⟩
        refine mt_stE s1 oa ob o3 ⟨⟨by omega, by omega⟩, fun h3 g1 g2 => ?_⟩
        have e0 := me_nil g2
        subst e0
        refine ih (zb + 1) h3 (by omega) (by omega) (by omega) ⟨B2, (rX_fr s2 i1.1 rfl).trans i2, (me_f (c := 13999) s2 i1.1 rfl rfl).trans i3, fun u u0 u1 => ?_⟩
        unfold rp_ok
        rw [s3, s4, s5]
        by_cases c : u = zb
        · rw [if_pos (by rw [c]), if_pos (by rw [c]), if_pos (by rw [c]), c]
          exact ⟨rfl, rfl, rfl⟩
        · have c' : u.toNat ≠ zb.toNat := by omega
          rw [if_neg c', if_neg c', if_neg c']
          exact i4 u u0 (by omega)
/-- the forms' parts are in their range -/
theorem sy_OK (hL : sy_L hb Y) (hA : sy_A hb) : sg_OK (mi_f hb 13965).toNat (GR (mi_a hb)) := by
  have hC := wk_L_C hL.1
  intro F hF us hus
  have hF' : (F : Int) < wk_f Y := by rw [hL.2.2.1]; omega
  obtain ⟨-, -, c1, c2, -, c3⟩ := hL.1.2.2.2 F (by omega) hF'
  have ex : ∀ (m j : Nat), j + m = (mi_a hb 130 F).toNat → ∀ us ∈ rv_as (mi_a hb) m (wk_alt (mi_a hb) j (mi_a hb 129 F)), ∃ i : Nat, (i : Int) < mi_a hb 130 F ∧ us = rv_l (mi_a hb) (wk_alt (mi_a hb) i (mi_a hb 129 F)) := by
    intro m
    induction m with
    | zero => intro j _ us hus; cases hus
    | succ m ih =>
      intro j hj us hus
      rcases List.mem_cons.mp hus with rfl | hus
      · exact ⟨j, by omega, rfl⟩
      · have ee : wk_alt (mi_a hb) (j + 1) (mi_a hb 129 F) = mi_a hb 128 (wk_alt (mi_a hb) j (mi_a hb 129 F)).toNat := by rw [wk_alt_succ]
        refine ih (j + 1) (by omega) us ?_
        rw [ee]
        exact hus
  obtain ⟨i, hi, rfl⟩ := ex _ 0 (Nat.zero_add _) us hus
  have hu : mi_a hb 126 (wk_alt (mi_a hb) i (mi_a hb 129 F)).toNat < 0 ∨ mi_a hb 126 (wk_alt (mi_a hb) i (mi_a hb 129 F)).toNat < wk_u Y := by
    rcases (c3 i hi).2.2 with q | q
    · exact Or.inl q
    · exact Or.inr q.1
  have key : ∀ (N : Nat) (u : Int), (u < 0 ∨ u < wk_u Y) → ∀ x ∈ wk_row (mi_a hb) N u, 0 ≤ x ∧ x < wk_u Y := by
    intro N
    induction N with
    | zero => intro u _ x hx; cases hx
    | succ N ih =>
      intro u hu x hx
      unfold wk_row at hx
      by_cases n0 : u < 0
      · rw [if_pos n0] at hx; cases hx
      · rw [if_neg n0] at hx
        obtain ⟨k1, k2⟩ := hC.2 u (by omega) (hu.resolve_left n0)
        have nx : mi_a hb 125 u.toNat < 0 ∨ mi_a hb 125 u.toNat < wk_u Y := by
          by_cases q : 0 ≤ mi_a hb 125 u.toNat
          · exact Or.inr (k2 q).1
          · omega
        by_cases c4 : 0 ≤ mi_a hb 124 u.toNat
        · rw [if_pos c4] at hx
          rcases List.mem_cons.mp hx with rfl | hx
          · exact ⟨by omega, hu.resolve_left n0⟩
          · rcases List.mem_cons.mp hx with rfl | hx
            · exact ⟨c4, (k1 c4).1⟩
            · exact ih _ nx x hx
        · rw [if_neg c4] at hx
          rcases List.mem_cons.mp hx with rfl | hx
          · exact ⟨by omega, hu.resolve_left n0⟩
          · exact ih _ nx x hx
  have k : ∀ p ∈ rv_l (mi_a hb) (wk_alt (mi_a hb) i (mi_a hb 129 F)), p.1 < ((mi_f hb 13965).toNat : Int) ∧ 0 ≤ p.2.1 := fun p hp => by
    obtain ⟨u, hu', rfl⟩ := List.mem_map.mp hp
    obtain ⟨u0, u1⟩ := key _ _ hu u hu'
    obtain ⟨-, -, -, a6, a7, a8⟩ := hL.1.2.2.1 u u0 u1
    have fb := hL.2.2.1
    refine ⟨?_, ?_⟩
    · show rv_t (mi_a hb) u < _
      unfold rv_t
      by_cases c10 : mi_a hb 119 u.toNat = 10
      · rw [if_pos c10]
        have := (a7 c10).2.1
        omega
      · rw [if_neg c10]
        by_cases c9 : mi_a hb 119 u.toNat = 9
        · rw [if_pos c9]
          obtain ⟨-, -, -, -, -, b6, -⟩ := a6 c9
          have b6 : mi_a hb 114 (mi_a hb 115 (mi_a hb 120 u.toNat).toNat).toNat < wk_f Y := b6
          omega
        · rw [if_neg c9]
          omega
    · show 0 ≤ (if mi_a hb 119 u.toNat = 9 then (1 : Int) else 0)
      split <;> decide
  exact ⟨fun p hp => (k p hp).1, fun p hp => (k p hp).2⟩
end STX
