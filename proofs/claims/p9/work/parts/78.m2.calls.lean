/-! parse, grow, print -/
def mj_Q (h : sm_H) (w : Option mi_V) (h' : sm_H) : Prop := (∃ z, w = some (.inl z) ∧ mi_in z) ∧ ab_Sh sx_sk h' ∧ ab_Fr mj_W h h' ∧ mj_0 h'
section CLS
variable {d : Nat} {h : sm_H}
theorem mj_fin {h' : sm_H} {z : Int} {wr : List (Nat × Nat)} (hJ : mj_0 h) (hS : ab_Sh sx_sk h) (oz : mi_in z) (hS' : ab_Sh sx_sk h') (hF : ab_Fr wr h h') (hw : (ab_sub_wr wr mj_W && mj_no wr) = true) : mj_Q h (some (.inl z)) h' := by
  simp only [Bool.and_eq_true] at hw
  exact ⟨⟨z, rfl, oz⟩, hS', hF.wide (fun c hc => ab_swr_ok hw.1 hc), mj_0_fr hJ hS hF hw.2⟩
/-- what is taken: its trace -/
theorem mj_taken {h3 h4 h5 : sm_H} {μ : Int} (hμ : μ ≠ 2) (h1 : mj_L h5) (hS3 : ab_Sh sx_sk h3) (f4 : ab_Fr [(13952, 13953)] h3 h4) (t2 : mi_f h5 14015 = mi_f h4 14016) (t3 : ∀ i : Nat, (i : Int) < mi_f h4 14016 → mi_a h5 155 i = mi_a h4 158 i ∧ mx_b h5 162 i = mx_b h4 163 i) (hN : ∀ K V : Nat → Int, (∀ i : Nat, (i : Int) < wk_n μ h3 → K i = wk_K μ h3 i ∧ V i = wk_V μ h3 i) → tp_N (mi_a h5) K V (wk_n μ h3).toNat) : mj_0 h5 := by
  have e16 : mi_f h4 14016 = mi_f h3 14016 := me_f (c := 14016) f4 hS3 rfl rfl
  have en : wk_n μ h3 = mi_f h3 14016 := by unfold wk_n; rw [if_neg hμ]
  refine ⟨fun _ => h1, fun _ => ⟨h1, ?_⟩⟩
  unfold mj_N
  rw [t2, e16, ← en]
  refine hN _ _ (fun i hi => ?_)
  obtain ⟨a, b⟩ := t3 i (by omega)
  unfold wk_K wk_V
  rw [if_pos rfl, if_pos rfl, if_neg hμ, if_neg hμ, a, b, me_a (k := 158) f4 hS3 rfl rfl, me_b (k := 163) f4 hS3 rfl rfl]
  exact ⟨rfl, rfl⟩
theorem me_parse (hS : ab_Sh sx_sk h) (hJ : mj_0 h) : me_E (d + 20) 228 0 [some (.inr (.inr 109))] [] h (mj_Q h) := by
  refine mt_paA hS ?_ ?_
  · intro b c h1 g1 g2 g3
    have hJ1 : mj_0 h1 := mj_0_fr hJ hS g3 rfl
    refine ⟨_, me_tokenize (d := d + 18) g1, fun w h2 ow hq => ?_⟩
    obtain ⟨rfl, q1, q2, q3⟩ := hq
    have hJ2 : mj_0 h2 := mj_0_fr hJ1 g1 q2 rfl
    have F2 : ab_Fr ((13952, 13953) :: tk_W) h h2 := (g3.wide (fun c hc => ab_swr_ok (by decide) hc)).trans (q2.wide (fun c hc => ab_swr_ok (by decide) hc))
    have st2 : mi_f h2 13959 = mi_f h 13959 := me_f (c := 13959) F2 hS rfl rfl
    obtain ⟨Y, l1, l2⟩ := hJ2.1 (by omega)
    refine mt_paB q1 ?_
    intro h2' p1 p2
    have e2 := me_nil p2
    subst e2
    refine ⟨_, me_walk (d := d + 12) (Y := Y) (T := ta_I h2') q1 (Or.inl rfl) l1 l2 (fun _ => q3) (ta_T q1) (fun h' s1 s2 s3 s4 s5 => ?_), fun w h3 ow hq => ?_⟩
    · refine ⟨?_, fun i hi => ?_, fun K V k1 k2 k3 => ?_⟩
      · rw [s3]
        trivial
      · rw [s3] at hi
        obtain ⟨e, he, e5, -⟩ := hi
        simp only [List.mem_cons, List.not_mem_nil, or_false] at he
        rcases he with rfl | rfl
        · exact absurd e5 (show ¬ (1 : Int) = 5 from by decide)
        · exact absurd e5 (show ¬ (2 : Int) = 5 from by decide)
      · rw [s3, s4]
        rfl
    · obtain ⟨rfl, q4, q5, q6⟩ := hq
      have F3 : ab_Fr ((13952, 13953) :: (tk_W ++ wr_WK)) h h3 := (F2.wide (fun c hc => ab_swr_ok (by decide) hc)).trans (q5.wide (fun c hc => ab_swr_ok (by decide) hc))
      refine mt_paC q4 ?_ ?_ ?_
      · intro b1 b2 c1 c2 h4 r1 r2 r3
        refine ⟨_, me_take (d := d + 19) r1, fun w h5 ow hq => ?_⟩
        obtain ⟨⟨z, rfl, oz⟩, t0, t1, t2, t3⟩ := hq
        refine mt_paD t0 oz ?_
        intro h6 u1 u2
        have e6 := me_nil u2
        subst e6
        have F6 : ab_Fr ((13952, 13953) :: (tk_W ++ wr_WK ++ ta_W)) h h6 := ((F3.wide (fun c hc => ab_swr_ok (by decide) hc)).trans (r3.wide (fun c hc => ab_swr_ok (by decide) hc))).trans (t1.wide (fun c hc => ab_swr_ok (by decide) hc))
        have F26 : ab_Fr ((13952, 13953) :: (wr_WK ++ ta_W)) h2' h6 := ((q5.wide (fun c hc => ab_swr_ok (by decide) hc)).trans (r3.wide (fun c hc => ab_swr_ok (by decide) hc))).trans (t1.wide (fun c hc => ab_swr_ok (by decide) hc))
        have hg : wk_gc (mi_a h2') (mi_a h6) := wk_gc_fr F26 q1 rfl
        refine ⟨⟨z, rfl, oz⟩, u1, F6.wide (fun c hc => ab_swr_ok (by decide) hc), ?_⟩
        refine mj_taken (μ := 0) (by decide) (mj_L_g hg ⟨Y, l1, l2⟩) q4 r3 t2 t3 (fun K V hKV => ?_)
        rcases q6 with q6 | ⟨zt, z0, z1, z2, hI⟩
        · exfalso; omega
        · obtain ⟨-, x2, x3⟩ : ta_I h2' zt h3 := hI.2.2.2.1
          have x1 := (x3 : _)
          obtain ⟨xi, -, -⟩ : ta_I h2' zt h3 := hI.2.2.2.1
          have tr := x3 K V (fun i hi => (hKV i hi).1) (fun i hi _ => (hKV i hi).2) (fun i hi => by
            have l := wk_ix_on _ _ xi i hi
            have := x2 i hi
            rw [(hKV i l).2]
            omega)
          refine tp_N_g hg ⟨zt.toNat, _, by omega, tr, ?_⟩
          rcases z2 with z2 | z2
          · exact Or.inl (by rw [z2]; rfl)
          · exact Or.inr (by omega)
      · intro b1 b2 c1 c2
        refine ⟨by omega, fun h4 r1 r2 r3 => ?_⟩
        exact mj_fin (wr := (13952, 13953) :: (tk_W ++ wr_WK)) hJ hS ⟨by omega, by omega⟩ r1 (F3.trans (r3.wide (fun c hc => ab_swr_ok (by decide) hc))) rfl
      · intro b1 c1 h4 r1 r2 r3
        exact mj_fin (wr := (13952, 13953) :: (tk_W ++ wr_WK)) hJ hS ⟨by decide, by decide⟩ r1 (F3.trans (r3.wide (fun c hc => ab_swr_ok (by decide) hc))) rfl
  · intro b c h1 g1 g2 g3
    exact mj_fin hJ hS ⟨by decide, by decide⟩ g1 g3 rfl
theorem me_grow {zx : Int64} {zf : Int} (hS : ab_Sh sx_sk h) (hJ : mj_0 h) (of : mi_in zf) : me_E (d + 20) 232 0 [some (.inr (.inr 109)), some (.inr (.inl zx)), none, some (.inl zf)] [] h (mj_Q h) := by
  refine mt_groA hS of ?_ ?_ ?_ ?_
  · intro c h1 g1 g2 g3
    exact mj_fin hJ hS ⟨by decide, by decide⟩ g1 g3 rfl
  · intro b c1 c2 c3 h2 g1 g2 g3 g4 g5
    have hJ2 : mj_0 h2 := mj_0_fr hJ hS g5 rfl
    have st2 : mi_f h2 13959 = mi_f h 13959 := me_f (c := 13959) g5 hS rfl rfl
    obtain ⟨Y, l1, l2⟩ := hJ2.1 (by omega)
    refine ⟨_, me_walk (d := d + 12) (Y := Y) (T := tg_I h2) g1 (Or.inr (Or.inl rfl)) l1 l2 (fun e => absurd e (by decide)) (tg_T g1) (fun h' s1 s2 s3 s4 s5 => ?_), fun w h3 ow hq => ?_⟩
    · intro K V hK
      rw [s3, s4]
      rfl
    · obtain ⟨rfl, q4, q5, q6⟩ := hq
      have F3 : ab_Fr ((13952, 13953) :: wr_WK) h h3 := (g5.wide (fun c hc => ab_swr_ok (by decide) hc)).trans (q5.wide (fun c hc => ab_swr_ok (by decide) hc))
      refine mt_groB q4 of ?_ ?_
      · intro b1 c4 h4 r1 r2 r3
        refine ⟨_, me_take (d := d + 19) r1, fun w h5 ow hq => ?_⟩
        obtain ⟨⟨z, rfl, oz⟩, t0, t1, t2, t3⟩ := hq
        refine mt_groC t0 of oz ?_
        intro h6 u1 u2
        have e6 := me_nil u2
        subst e6
        have F26 : ab_Fr ((13952, 13953) :: (wr_WK ++ ta_W)) h2 h6 := ((q5.wide (fun c hc => ab_swr_ok (by decide) hc)).trans (r3.wide (fun c hc => ab_swr_ok (by decide) hc))).trans (t1.wide (fun c hc => ab_swr_ok (by decide) hc))
        have hg : wk_gc (mi_a h2) (mi_a h6) := wk_gc_fr F26 g1 rfl
        refine ⟨⟨z, rfl, oz⟩, u1, ((g5.wide (fun c hc => ab_swr_ok (by decide) hc)).trans (F26.wide (fun c hc => ab_swr_ok (by decide) hc))), ?_⟩
        refine mj_taken (μ := 1) (by decide) (mj_L_g hg ⟨Y, l1, l2⟩) q4 r3 t2 t3 (fun K V hKV => ?_)
        rcases q6 with q6 | ⟨zt, z0, z1, z2, hI⟩
        · exfalso; omega
        · have tr := (show tg_I h2 zt h3 from hI.2.2.2.1) K V hKV
          refine tp_N_g hg ⟨zt.toNat, _, by omega, tr, ?_⟩
          rcases z2 with z2 | z2
          · exact Or.inl z2
          · exact Or.inr (by omega)
      · intro b1 c4 h4 r1 r2 r3
        exact mj_fin (wr := (13952, 13953) :: wr_WK) hJ hS ⟨by decide, by decide⟩ r1 (F3.trans (r3.wide (fun c hc => ab_swr_ok (by decide) hc))) rfl
  · intro b c1 c2 c3 h1 g1 g2 g3
    exact mj_fin hJ hS ⟨by decide, by decide⟩ g1 g3 rfl
  · intro c1 c2 h1 g1 g2 g3
    exact mj_fin hJ hS ⟨by decide, by decide⟩ g1 g3 rfl
def pr_W : List (Nat × Nat) := (13952, 13953) :: (13955, 13956) :: (14336, 14337) :: wr_WK
theorem me_print (hS : ab_Sh sx_sk h) (hJ : mj_0 h) : me_E (d + 20) 205 0 [some (.inr (.inr 109)), none] [] h (mj_Q h) := by
  have cp : ∀ (N : Nat) (zk : Int) (h1 : sm_H), 160 - zk < N → 0 ≤ zk → zk ≤ 160 → ab_Sh sx_sk h1 → ab_Fr pr_W h h1 → me_E (d + 20) 205 77 [some (.inr (.inr 109)), some (.inl zk)] [] h1 (mj_Q h) := by
    intro N
    induction N with
    | zero => intro zk h1 hN _ _; exfalso; omega
    | succ N ih =>
      intro zk h1 hN k0 k1 hS1 hF
      refine mt_prC hS1 ⟨by omega, by omega⟩ ?_ ?_
      · intro b c
        refine ⟨by omega, fun h2 g1 g2 g3 => ?_⟩
        exact mj_fin (wr := pr_W) hJ hS ⟨by omega, by omega⟩ g1 (hF.trans (g3.wide (fun c hc => ab_swr_ok (by decide) hc))) rfl
      · intro b c
        refine ⟨by omega, fun h2 g1 g2 g3 => ?_⟩
        exact ih (zk + 1) h2 (by omega) (by omega) (by omega) g1 (hF.trans (g3.wide (fun c hc => ab_swr_ok (by decide) hc)))
  refine mt_prA hS ?_ ?_
  · intro b c h2 g1 g2 g3 g4 g5 g6 g7
    have hJ2 : mj_0 h2 := mj_0_fr hJ hS g7 rfl
    have n2 : mi_f h2 14015 = mi_f h 14015 := me_f (c := 14015) g7 hS rfl rfl
    obtain ⟨⟨Y, l1, l2⟩, hN⟩ := hJ2.2 (by omega)
    refine ⟨_, me_walk (d := d + 12) (Y := Y) (T := tp_I h2) g1 (Or.inr (Or.inr rfl)) l1 l2 (fun e => absurd e (by decide)) (tp_T g1 hN (by omega)) (fun h' s1 s2 s3 s4 s5 => ?_), fun w h3 ow hq => ?_⟩
    · unfold tp_I
      rw [s3, s4]
      rfl
    · obtain ⟨rfl, q4, q5, q6⟩ := hq
      have F3 : ab_Fr pr_W h h3 := (g7.wide (fun c hc => ab_swr_ok (by decide) hc)).trans (q5.wide (fun c hc => ab_swr_ok (by decide) hc))
      refine mt_prB q4 ?_ ?_
      · intro b1 c1 h4 r1 r2 r3
        exact cp 200 0 h4 (by decide) (by decide) (by decide) r1 (F3.trans (r3.wide (fun c hc => ab_swr_ok (by decide) hc)))
      · intro b1 c1 h4 r1 r2 r3
        exact mj_fin (wr := pr_W) hJ hS ⟨by decide, by decide⟩ r1 (F3.trans (r3.wide (fun c hc => ab_swr_ok (by decide) hc))) rfl
  · intro b c h1 g1 g2 g3
    exact mj_fin hJ hS ⟨by decide, by decide⟩ g1 g3 rfl
end CLS
