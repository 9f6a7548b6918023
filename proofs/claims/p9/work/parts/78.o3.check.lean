/-! check -/
def ck_Q (h : sm_H) (w : Option mi_V) (h' : sm_H) : Prop := h' = h ∧ ∃ z, w = some (.inl z) ∧ mi_in z
section CHK
variable {d : Nat} {h : sm_H} {Y : wk_Y}
theorem me_least {z1 z2 z3 : Int} (hS : ab_Sh sx_sk h) (o1 : mi_in z1) (o2 : mi_in z2) (o3 : mi_in z3) : me_E d 202 0 [some (.inr (.inr 109)), some (.inl z1), some (.inl z2), some (.inl z3), none] [] h (ck_Q h) := by
  have := me_abs (M := (5, 1, sb_202)) (as := [.inr (.inr 109), .inl z1, .inl z2, .inl z3]) xo_v_least rfl hS ⟨rfl, me_nv1 o1 o1.1 o1.2, me_nv1 o2 o2.1 o2.2, me_nv1 o3 o3.1 o3.2, trivial⟩ (fun e he => by cases he) (by decide)
  refine (me_E.deep (d' := d) this (Nat.zero_le _)).imp (fun w h' hq => ?_)
  obtain ⟨q1, q2, p, hp, q3, -⟩ := hq
  refine ⟨me_nil q2, ?_⟩
  rcases List.mem_cons.mp hp with rfl | hp
  · obtain ⟨z, e, z0, z1⟩ := me_resI q3 (by decide) rfl
    exact ⟨z, e, z0, z1⟩
  · cases hp
theorem me_directors {z1 z2 : Int} (hS : ab_Sh sx_sk h) (a0 : 0 ≤ z1) (a1 : z1 < 80) (b0 : 0 ≤ z2) (b1 : z2 < 80) : me_E d 203 0 [some (.inr (.inr 109)), some (.inl z1), some (.inl z2)] [] h (fun w h' => h' = h ∧ ∃ x, w = some (.inr (.inl x))) := by
  have := me_abs (M := (3, 2, sb_203)) (as := [.inr (.inr 109), .inl z1, .inl z2]) xo_v_directors rfl hS ⟨rfl, me_nv1 ⟨by omega, by omega⟩ a0 (by omega), me_nv1 ⟨by omega, by omega⟩ b0 (by omega), trivial⟩ (fun e he => by cases he) (by decide)
  refine (me_E.deep (d' := d) this (Nat.zero_le _)).imp (fun w h' hq => ?_)
  obtain ⟨q1, q2, p, hp, q3, -⟩ := hq
  refine ⟨me_nil q2, ?_⟩
  rcases List.mem_cons.mp hp with rfl | hp
  · unfold mi_res at q3
    rw [if_neg (by decide)] at q3
    rcases q3 with q3 | q3 | q3
    · exact absurd q3.1 (by decide)
    · obtain ⟨-, x, e, -⟩ := q3
      exact ⟨x, e⟩
    · exact absurd q3.1 (by decide)
  · cases hp
theorem c167 (hL : sy_L h Y) (hS : ab_Sh sx_sk h) : ∀ (N : Nat) (zb zr : Int) (q3 q4 q5 q6 q7 : Option mi_V), 80 - zr < N → 0 ≤ zr → zr ≤ 80 → mi_in zb → (∀ v, q3 = some v → mi_ok v) → (∀ v, q4 = some v → mi_ok v) → (∀ v, q5 = some v → mi_ok v) → (∀ v, q6 = some v → mi_ok v) → (∀ v, q7 = some v → mi_ok v) → me_E (d + 1) 201 167 [some (.inr (.inr 109)), some (.inl zb), some (.inl zr), q3, q4, q5, q6, q7] [] h (ck_Q h) := by
  intro N
  induction N with
  | zero => intro zb zr q3 q4 q5 q6 q7 hN _ _; exfalso; omega
  | succ N ih =>
    intro zb zr q3 q4 q5 q6 q7 hN r0 r1 ob o3 o4 o5 o6 o7
    have or_ : mi_in zr := ⟨by omega, by omega⟩
    refine mt_ckJ hS ob or_ o3 o4 o5 o6 o7 ?_ ?_
    · intro b c h1 g1 g2
      have e := me_nil g2
      subst e
      exact ⟨rfl, _, rfl, ob⟩
    · intro b c
      refine ⟨by omega, fun h1 g1 g2 => ?_⟩
      have e := me_nil g2
      subst e
      have hfz : zr < wk_f Y := by rw [hL.2.2.1]; exact c
      obtain ⟨-, -, c1, c2, -, c3⟩ := hL.1.2.2.2 zr r0 hfz
      have lp : ∀ (R j : Nat) (zb za : Int) (zx : Int64) (q6 q7 : Option mi_V), (mi_a h1 130 zr.toNat).toNat - j < R → (j : Int) ≤ mi_a h1 130 zr.toNat → za = wk_alt (mi_a h1) j (mi_a h1 129 zr.toNat) → mi_in zb → mi_in za → (∀ v, q6 = some v → mi_ok v) → (∀ v, q7 = some v → mi_ok v) → me_E (d + 1) 201 185 [some (.inr (.inr 109)), some (.inl zb), some (.inl zr), some (.inr (.inl zx)), none, some (.inl za), q6, q7] [] h1 (ck_Q h1) := by
        intro R
        induction R with
        | zero => intro j zb za zx q6 q7 hR; exfalso; omega
        | succ R ir =>
          intro j zb za zx q6 q7 hR hj hza ob oa o6 o7
          have lt : 0 ≤ za → (j : Int) < mi_a h1 130 zr.toNat := fun z => by
            by_cases e : (j : Int) = mi_a h1 130 zr.toNat
            · exfalso
              have ej : j = (mi_a h1 130 zr.toNat).toNat := by omega
              rw [← ej, ← hza] at c2
              omega
            · omega
          refine mt_ckK g1 ob or_ oa o6 o7 ?_ ?_
          · intro c
            refine ⟨by omega, fun h2 s1 s2 => ?_⟩
            have e := me_nil s2
            subst e
            exact ih zb (zr + 1) _ _ _ _ _ (by omega) (by omega) (by omega) ob (fun v e => by cases e; trivial) me_on (me_oi oa) o6 o7
          · intro cz h2 s1 s2
            have e := me_nil s2
            subst e
            obtain ⟨x1, x2, -⟩ := c3 j (lt cz)
            rw [← hza] at x2
            have fin : ∀ (zb : Int) (zd : Int64), mi_in zb → me_E (d + 1) 201 223 [some (.inr (.inr 109)), some (.inl zb), some (.inl zr), some (.inr (.inl zx)), none, some (.inl za), some (.inr (.inl zd)), none] [] h2 (ck_Q h2) := fun zb zd ob => by
              refine mt_ckN s1 ob or_ oa ⟨by omega, fun h3 t1 t2 => ?_⟩
              have e := me_nil t2
              subst e
              have := lt cz
              refine ir (j + 1) zb _ _ _ _ (by omega) (by omega) ?_ ob (mi_inT _) (fun v e => by cases e; trivial) me_on
              rw [wk_alt_succ, hza]
            refine ⟨_, me_directors s1 r0 (by omega) cz x2, fun w h3 ow hq => ?_⟩
            obtain ⟨e, x, rfl⟩ := hq
            subst e
            refine mt_ckL s1 ob or_ oa o6 o7 ?_ ?_
            · intro c4 h4 t1 t2
              have e := me_nil t2
              subst e
              exact fin _ _ ob
            · intro c4
              refine ⟨by omega, fun h4 t1 t2 => ?_⟩
              have e := me_nil t2
              subst e
              refine ⟨_, me_least t1 ob ⟨by decide, by decide⟩ (mi_inT _), fun w h5 ow hq => ?_⟩
              obtain ⟨e, z, rfl, oz⟩ := hq
              subst e
              refine mt_ckM t1 ob or_ oa oz ?_
              intro h6 u1 u2
              have e := me_nil u2
              subst e
              exact fin _ _ oz
      exact lp ((mi_a h1 130 zr.toNat).toNat + 1) 0 zb _ _ _ _ (by omega) (by omega) rfl ob (mi_inT _) o6 o7
theorem c78 (hL : sy_L h Y) (hS : ab_Sh sx_sk h) : ∀ (N : Nat) (zb zr : Int) (q3 q4 q5 q6 q7 : Option mi_V), 60 - zr < N → 0 ≤ zr → zr ≤ 60 → mi_in zb → (∀ v, q3 = some v → mi_ok v) → (∀ v, q4 = some v → mi_ok v) → (∀ v, q5 = some v → mi_ok v) → (∀ v, q6 = some v → mi_ok v) → (∀ v, q7 = some v → mi_ok v) → me_E (d + 1) 201 78 [some (.inr (.inr 109)), some (.inl zb), some (.inl zr), q3, q4, q5, q6, q7] [] h (ck_Q h) := by
  intro N
  induction N with
  | zero => intro zb zr q3 q4 q5 q6 q7 hN _ _; exfalso; omega
  | succ N ih =>
    intro zb zr q3 q4 q5 q6 q7 hN r0 r1 ob o3 o4 o5 o6 o7
    have or_ : mi_in zr := ⟨by omega, by omega⟩
    have nx : ∀ zb, zr < 60 → mi_in zb → me_E (d + 1) 201 78 [some (.inr (.inr 109)), some (.inl zb), some (.inl (zr + 1)), q3, q4, q5, q6, q7] [] h (ck_Q h) := fun zb lt ob => ih zb (zr + 1) _ _ _ _ _ (by omega) (by omega) (by omega) ob o3 o4 o5 o6 o7
    have g118 : ∀ zb, zr < 60 → mi_in zb → me_E (d + 1) 201 118 [some (.inr (.inr 109)), some (.inl zb), some (.inl zr), q3, q4, q5, q6, q7] [] h (ck_Q h) := fun zb lt ob => by
      refine mt_ckH hS ob or_ o3 o4 o5 o6 o7 ?_ ?_ ?_
      · intro c
        refine ⟨by omega, fun h1 g1 g2 => ?_⟩
        have e := me_nil g2
        subst e
        exact nx _ lt ob
      · intro c1 c2
        refine ⟨by omega, fun h1 g1 g2 => ?_⟩
        have e := me_nil g2
        subst e
        exact nx _ lt ob
      · intro c1 c2
        refine ⟨by omega, fun h1 g1 g2 => ?_⟩
        have e := me_nil g2
        subst e
        refine ⟨_, me_least g1 ob ⟨by decide, by decide⟩ (mi_inT _), fun w h5 ow hq => ?_⟩
        obtain ⟨e, z, rfl, oz⟩ := hq
        subst e
        refine mt_ckI g1 ob or_ oz o3 o4 o5 o6 o7 ⟨by omega, fun h2 s1 s2 => ?_⟩
        have e := me_nil s2
        subst e
        exact nx _ lt oz
    refine mt_ckF hS ob or_ o3 o4 o5 o6 o7 ?_ ?_ ?_ ?_
    · intro b c h1 g1 g2
      have e := me_nil g2
      subst e
      exact c167 hL g1 90 _ 0 _ _ _ _ _ (by decide) (by decide) (by decide) ob o3 o4 o5 o6 o7
    · intro b c1 c2
      refine ⟨by omega, fun h1 g1 g2 => ?_⟩
      have e := me_nil g2
      subst e
      exact g118 _ (by omega) ob
    · intro b c1 c2 c3
      refine ⟨by omega, fun h1 g1 g2 => ?_⟩
      have e := me_nil g2
      subst e
      exact g118 _ (by omega) ob
    · intro b c1 c2 c3
      refine ⟨by omega, fun h1 g1 g2 => ?_⟩
      have e := me_nil g2
      subst e
      refine ⟨_, me_least g1 ob ⟨by decide, by decide⟩ (mi_inT _), fun w h5 ow hq => ?_⟩
      obtain ⟨e, z, rfl, oz⟩ := hq
      subst e
      refine mt_ckG g1 ob or_ oz o3 o4 o5 o6 o7 ?_
      intro h2 s1 s2
      have e := me_nil s2
      subst e
      exact g118 _ (by omega) oz
theorem c4 (hL : sy_L h Y) (hS : ab_Sh sx_sk h) : ∀ (N : Nat) (zb zr : Int) (q3 q4 q5 q6 q7 : Option mi_V), 10 - zr < N → 0 ≤ zr → zr ≤ 10 → mi_in zb → (∀ v, q3 = some v → mi_ok v) → (∀ v, q4 = some v → mi_ok v) → (∀ v, q5 = some v → mi_ok v) → (∀ v, q6 = some v → mi_ok v) → (∀ v, q7 = some v → mi_ok v) → me_E (d + 1) 201 4 [some (.inr (.inr 109)), some (.inl zb), some (.inl zr), q3, q4, q5, q6, q7] [] h (ck_Q h) := by
  intro N
  induction N with
  | zero => intro zb zr q3 q4 q5 q6 q7 hN _ _; exfalso; omega
  | succ N ih =>
    intro zb zr q3 q4 q5 q6 q7 hN r0 r1 ob o3 o4 o5 o6 o7
    have or_ : mi_in zr := ⟨by omega, by omega⟩
    have h80 := hL.1.2.1
    have nx : ∀ zb, zr < 10 → mi_in zb → me_E (d + 1) 201 4 [some (.inr (.inr 109)), some (.inl zb), some (.inl (zr + 1)), q3, q4, q5, q6, q7] [] h (ck_Q h) := fun zb lt ob => ih zb (zr + 1) _ _ _ _ _ (by omega) (by omega) (by omega) ob o3 o4 o5 o6 o7
    have g39 : ∀ zb, zr < mi_f h 13961 → zr < 10 → mi_in zb → me_E (d + 1) 201 39 [some (.inr (.inr 109)), some (.inl zb), some (.inl zr), q3, q4, q5, q6, q7] [] h (ck_Q h) := fun zb lt0 lt ob => by
      have hr := hL.2.2.2.2 zr r0 lt0
      refine mt_ckD hS ob or_ o3 o4 o5 o6 o7 ?_ ?_
      · intro c
        refine ⟨by omega, fun h1 g1 g2 => ?_⟩
        have e := me_nil g2
        subst e
        exact nx _ lt ob
      · intro c
        refine ⟨by omega, fun h1 g1 g2 => ?_⟩
        have e := me_nil g2
        subst e
        refine ⟨_, me_least g1 ob ⟨by decide, by decide⟩ (mi_inT _), fun w h5 ow hq => ?_⟩
        obtain ⟨e, z, rfl, oz⟩ := hq
        subst e
        refine mt_ckE g1 ob or_ oz o3 o4 o5 o6 o7 ⟨by omega, fun h2 s1 s2 => ?_⟩
        have e := me_nil s2
        subst e
        exact nx _ lt oz
    refine mt_ckB hS ob or_ o3 o4 o5 o6 o7 ?_ ?_ ?_
    · intro b c h1 g1 g2
      have e := me_nil g2
      subst e
      exact c78 hL g1 70 _ 0 _ _ _ _ _ (by decide) (by decide) (by decide) ob o3 o4 o5 o6 o7
    · intro b c1 c2
      refine ⟨by omega, fun h1 g1 g2 => ?_⟩
      have e := me_nil g2
      subst e
      exact g39 _ c1 (by omega) ob
    · intro b c1 c2
      refine ⟨by omega, fun h1 g1 g2 => ?_⟩
      have e := me_nil g2
      subst e
      refine ⟨_, me_least g1 ob ⟨by decide, by decide⟩ (mi_inT _), fun w h5 ow hq => ?_⟩
      obtain ⟨e, z, rfl, oz⟩ := hq
      subst e
      refine mt_ckC g1 ob or_ oz o3 o4 o5 o6 o7 ?_
      intro h2 s1 s2
      have e := me_nil s2
      subst e
      exact g39 _ c1 (by omega) oz
theorem me_check (hL : sy_L h Y) (hS : ab_Sh sx_sk h) : me_E (d + 1) 201 0 [some (.inr (.inr 109)), none, none, none, none, none, none, none] [] h (ck_Q h) := by
  refine mt_ckA hS ?_
  intro h1 g1 g2
  have e := me_nil g2
  subst e
  exact c4 hL g1 20 0 0 _ _ _ _ _ (by decide) (by decide) (by decide) ⟨by decide, by decide⟩ me_on me_on me_on me_on me_on
end CHK
/-! compile, from what read leaves -/
def rd_Q (h : sm_H) (w : Option mi_V) (h' : sm_H) : Prop := w = none ∧ ab_Sh sx_sk h' ∧ ab_Fr mj_W h h' ∧ (mi_f h' 13960 ≤ 0 → ∃ Y, sy_L h' Y ∧ wk_Lrule Y (mi_a h' 114 0))
def rd_Ok : Prop := ∀ h, ab_Sh sx_sk h → me_E 59 176 0 [some (.inr (.inr 109)), none, none] [] h (rd_Q h)
section CMP
variable {h : sm_H} {L : Nat} {xs : Nat → Int32}
theorem me_compile (hR : rd_Ok) (hS : ab_Sh sx_sk h) : me_E 60 175 0 [some (.inr (.inr 109)), none] [] h (mj_Q h) := by
  refine mt_coA (d := 40) hS ?_
  intro h1 g1 g2 g3
  refine ⟨_, hR h1 g1, fun w h2 ow hq => ?_⟩
  obtain ⟨rfl, q1, q2, q3⟩ := hq
  have F2 : ab_Fr mj_W h h2 := (g3.wide (fun c hc => ab_swr_ok (by decide) hc)).trans q2
  refine mt_coB (d := 40) q1 ?_ ?_
  · intro b c h3 r1 r2 r3 r4 r5
    obtain ⟨Y, l1, l2⟩ := q3 c
    have hg : wk_gc (mi_a h2) (mi_a h3) := wk_gc_fr r5 q1 rfl
    have l1' : sy_L h3 Y := by
      obtain ⟨a1, a2, a3, a4, a5⟩ := l1
      unfold sy_L
      rw [me_f (c := 13963) r5 q1 rfl rfl, me_f (c := 13965) r5 q1 rfl rfl, me_f (c := 13964) r5 q1 rfl rfl, me_f (c := 13961) r5 q1 rfl rfl]
      refine ⟨wk_L_g a1 hg, a2, a3, fun x h0 h1 => ?_, fun r h0 h1 => ?_⟩
      · rw [hg 126 (by decide)]
        exact a4 x h0 h1
      · rw [hg 114 (by decide)]
        exact a5 r h0 h1
    refine ⟨_, me_study (d := 56) l1' r1, fun w h4 ow hq => ?_⟩
    obtain ⟨rfl, s1, s2⟩ := hq
    have l4 := sy_L_fr l1' r1 s2
    have hg4 : wk_gc (mi_a h2) (mi_a h4) := hg.trans (wk_gc_fr s2 r1 rfl)
    have n4 : mi_f h4 14015 = 0 := (me_f (c := 14015) s2 r1 rfl rfl).trans r3
    refine mt_coC (d := 40) s1 ?_
    intro h5 t1 t2
    have e := me_nil t2
    subst e
    refine ⟨_, me_check (d := 58) l4 t1, fun w h6 ow hq => ?_⟩
    obtain ⟨e, z, rfl, oz⟩ := hq
    subst e
    have fin : ∀ h7, ab_Sh sx_sk h7 → ab_Fr [(13959, 13960)] h6 h7 → mj_Q h (some (.inl z)) h7 := fun h7 u1 u3 => by
      have hg7 : wk_gc (mi_a h2) (mi_a h7) := hg4.trans (wk_gc_fr u3 t1 rfl)
      refine ⟨⟨z, rfl, oz⟩, u1, ((F2.trans (r5.wide (fun c hc => ab_swr_ok (by decide) hc))).trans (s2.wide (fun c hc => ab_swr_ok (by decide) hc))).trans (u3.wide (fun c hc => ab_swr_ok (by decide) hc)), fun _ => mj_L_g hg7 ⟨Y, l1.1, l2⟩, fun z => absurd ((me_f (c := 14015) u3 t1 rfl rfl).trans n4) z⟩
    refine mt_coD (d := 40) t1 oz ?_ ?_
    · intro c h7 u1 u2 u3
      exact fin h7 u1 u3
    · intro c h7 u1 u2 u3
      exact fin h7 u1 u3
  · intro b c h3 r1 r2 r3 r4 r5 r6 r7
    exact ⟨⟨_, rfl, mi_inT _⟩, r1, F2.trans (r7.wide (fun c hc => ab_swr_ok (by decide) hc)), fun z => by exfalso; omega, fun z => absurd r5 z⟩
theorem mj_compile (hR : rd_Ok) : lb_OkP sc_P sx_sk (lj_J MJ L xs) xm_compile := by
  intro h as M hM hS hJ has
  have eM : M = (2, 1, sb_175) := Option.some.inj (hM.symm.trans rfl)
  subst eM
  cases as with
  | nil => exact absurd has id
  | cons a r =>
    cases r with
    | cons b s => exact absurd has.2 id
    | nil =>
      have e := ab_kd3 has.1 rfl
      have e : a = mi_c (.inr (.inr 109)) := Option.some.inj e
      subst e
      refine ab_Ends.imp (me_compile hR hS) (fun v h' hw => ?_)
      obtain ⟨w, rfl, -, ⟨z, rfl, oz⟩, q1, q2, q3⟩ := hw
      obtain ⟨p1, p2, p3, p4⟩ := mj_post hJ q1 q2 q3
      exact ⟨p1, p2, p3, p4, _, List.mem_cons_self .., fun _ => me_nv1 oz oz.1 oz.2, fun z => by cases z⟩
/-- all that is left to show of the reference's calls is rd_Ok -/
theorem mj_Ok (hR : rd_Ok) : xm_Ok (lj_J MJ L xs) := ⟨mj_compile hR, mj_parse, mj_grow, mj_print, mj_set⟩
end CMP
