/-! the class's parsing walk, from its begin to its end -/
section PW6
variable {E : pm_E} {p : Int → Int} {N : Int} {h0 : sm_H} {f : Int → Int} {it : Int → Prop} {g : wk_g} {Y : wk_Y} {kw : Int → Bool} {pf pa : Int → Int → Bool}
/-- from where it goes -/
def pc_0 (g : wk_g) (X : Int64) : Option gm_C := pm_en 0 g 0 [] (X, 0, [], 0, [])
def pc_End (E : pm_E) (g : wk_g) (X : Int64) (h : sm_H) (w : Option mi_V) (h' : sm_H) : Prop := w = none ∧ ab_Sh sx_sk h' ∧ ab_Fr pq_W h h' ∧ ((pq_bad h' ∧ pm_NO g E (pc_0 g X)) ∨ (mi_f h' 13572 = 0 ∧ mi_f h' 13579 = -1 ∧ ∃ s', pm_RO g E (pc_0 g X) ([], s') ∧ pm_K E s' = 0 ∧ gq_T h' (gm_T s') ∧ gm_len s' ≤ 100 ∧ fo 0 (gm_T s') ∧ gz h' 0 (gm_T s')))
theorem me_pwalk {h : sm_H} {X : Int64} (hTok : pq_tok E p N h0) (hN0 : 0 ≤ N) (hEN : E.1 N = 0) (hN : N ≤ 160) (hp0 : p 0 = 0) (hV : pq_V E N) (hH : pm_Hs g Y E pf pa) (hS : ab_Sh sx_sk h) (hG : pq_H E h0 f it g Y kw h) (r0 : 0 ≤ g 114 0) (r1 : g 114 0 < wk_f Y) (rf : f (g 114 0) = 0) : me_E 254 103 0 [some (.inr (.inr 106))] [] h (pc_End E g X h) := by
  refine mt_kphA (d := 240) hS ?_
  intro h1 g1 g2 g3 g4 g5
  have hG1 := pq_H_fr hG g5 hS rfl
  refine ⟨fun w h2 => w = none ∧ ab_Sh sx_sk h2 ∧ ab_Fr [(13056, 13057), (13571, 13572), (13575, 13580)] h1 h2 ∧ mi_f h2 13056 = 0 ∧ mi_f h2 13577 = E.1 0 ∧ ((E.1 0 = 1 ∨ E.1 0 = 2) → mi_f h2 13578 = E.2.1 0) ∧ mi_f h2 13575 = p 1 ∧ ((E.1 0 = -1 ∧ mi_f h2 13571 = 1 ∧ 0 ≤ mi_f h2 13579) ∨ (E.1 0 ≠ -1 ∧ mi_f h2 13571 = 0 ∧ mi_f h2 13579 = -1)), ?_, fun w h2 hw hq => ?_⟩
  · refine mt_kpbA (d := 240) g1 ?_
    intro h2 k1 k2 k3 k4 k5
    refine ⟨_, hTok 244 h2 0 k1 (pq_H_fr hG1 k5 g1 rfl).2.2 (by decide) hN0 (k3.trans hp0.symm), fun w h3 hw hq => ?_⟩
    obtain ⟨rfl, q1, q2, q3, q4, q5, q6⟩ := hq
    refine mt_kpbB (d := 240) q1 ?_
    intro h4 r1 r2
    have e := me_nil r2
    subst e
    refine ⟨rfl, q1, (k5.wide (fun c hc => ab_swr_ok (by decide) hc)).trans (q2.wide (fun c hc => ab_swr_ok (by decide) hc)), (me_f (c := 13056) q2 k1 rfl rfl).trans k2, q3, q4, q5, ?_⟩
    rcases q6 with q6 | ⟨a, b, c⟩
    · exact Or.inl q6
    · exact Or.inr ⟨a, (b.trans (me_f (c := 13571) k5 g1 rfl rfl)).trans g2, c.trans k4⟩
  · obtain ⟨rfl, q1, q2, q3, q4, q5, q6, q7⟩ := hq
    have F2 : ab_Fr pq_W h h2 := (g5.wide (fun c hc => ab_swr_ok (by decide) hc)).trans (q2.wide (fun c hc => ab_swr_ok (by decide) hc))
    have een : pc_0 g X = some ([(1, g 114 0, 0), (2, 1, 0)], (X, 0, [(1, 0, 0)], 1, [])) := by
      unfold pc_0 pm_en gm_c
      rw [if_neg (show ¬ (12 : Int) ≤ 0 + wk_ul [] by decide), gm_X_mk, gm_F_mk, gm_T_mk, gm_D_mk, gm_P_mk, if_neg (show ¬ 100 ≤ ([] : List (Int × Int × Int)).length by decide)]
      rfl
    refine mt_kphB (d := 240) q1 ?_ ?_
    · intro b c h3 s1 s2
      have e := me_nil s2
      subst e
      rcases q7 with ⟨a1, a2, a3⟩ | ⟨a1, a2, a3⟩
      · refine ⟨rfl, q1, F2, Or.inl ⟨⟨a2, Or.inr a3⟩, ?_⟩⟩
        rw [een]
        exact pNO_bad pRO_refl (by show E.1 0 = -1; exact a1)
      · exact absurd a2 c
    · intro b c h3 s1 s2
      have e := me_nil s2
      subst e
      rcases q7 with ⟨a1, a2, a3⟩ | ⟨a1, a2, a3⟩
      · exfalso; omega
      have hR3 : pq_R E p N h3 (X, 0, [], 0, []) := by
        unfold pq_R gm_len pm_K
        simp only [gm_T_mk, gm_F_mk]
        exact ⟨⟨q3, fun k hk => absurd hk (Nat.not_lt_zero _)⟩, by decide, ⟨by decide, hN0, q4, q5, q6⟩, a1⟩
      have hG3 := pq_H_fr hG1 q2 g1 rfl
      refine ⟨_, me_puse (d := 240) (u := 0) (i := 0) (zd := 0) (s := (X, 0, [], 0, [])) (pq_F_all hTok hEN hN hV hH 60 (by decide)) ⟨q1, c, (me_f (c := 13572) q2 g1 rfl rfl).trans g3, (me_f (c := 13573) q2 g1 rfl rfl).trans g4, a3, hR3⟩ hG3 (by decide) (by decide) r0 r1 rf (by decide) (by decide) (by decide) (by decide), fun w h4 hw hq => ?_⟩
      obtain ⟨rfl, v1, v2, v3, v4⟩ := hq
      have F4 : ab_Fr pq_W h h4 := F2.trans v2
      have b76 := me_fb (c := 13576) v1 rfl
      rcases v4 with ⟨v4, v5⟩ | ⟨v4, v5, v5', s', v6, v7, v8, v9⟩
      · have v41 := v4.1
        refine mt_kphC (d := 240) v1 ?_ (by intros; exfalso; omega) (by intros; exfalso; omega)
        intro b2 c2 h5 x1 x2
        have e := me_nil x2
        subst e
        exact ⟨rfl, v1, F4, Or.inl ⟨v4, v5 [] rfl⟩⟩
      · have ek : mi_f h4 13577 = pm_K E s' := v6.2.2.1.2.2.1
        have hro := v9 [] rfl
        refine mt_kphC (d := 240) v1 (by intros; exfalso; omega) ?_ ?_
        · intro b2 b3 c2 c3 h5 x1 x2
          have e := me_nil x2
          subst e
          obtain ⟨-, A, w2, w3, w4, -⟩ := v8
          have w2 : gm_T s' = A := w2
          have w3 : fo 0 A := w3
          have w4 : gz _ 0 A := w4
          refine ⟨rfl, v1, F4, Or.inr ⟨v5, v5', s', hro, by omega, v6.1, v6.2.1, by rw [w2]; exact w3, by rw [w2]; exact w4⟩⟩
        · intro b2 b3 c2 c3 h5 x1 x2 x3 x4
          refine ⟨rfl, x1, F4.trans (x4.wide (fun c hc => ab_swr_ok (by decide) hc)), Or.inl ⟨⟨x2, Or.inr (by rw [x3]; exact b76.1)⟩, pNO_of hro (fun n s'' hn => ?_)⟩⟩
          obtain ⟨-, e⟩ := pw_end _ hn
          injection e with _ e
          rw [e]
          omega
end PW6
