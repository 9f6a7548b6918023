/-! parse of the class, exactly -/
section PCX
variable {h : sm_H}
def pcr_W : List (Nat × Nat) := [(12032, 12033), (12160, 12161), (12288, 12289), (12416, 12417), (13056, 13057), (13184, 13185), (13312, 13313), (13440, 13441), (13571, 13574), (13575, 13580)]
/-- what is asked of the rows, the sets, the tokens -/
def pc_H (h : sm_H) (g : wk_g) (E : pm_E) : Prop := ∃ (p : Int → Int) (N : Int) (f : Int → Int) (it : Int → Prop) (Y : wk_Y) (kw : Int → Bool) (pf pa : Int → Int → Bool), pq_tok E p N h ∧ (0 ≤ N ∧ N ≤ 160 ∧ E.1 N = 0) ∧ p 0 = 0 ∧ pq_V E N ∧ pm_Hs g Y E pf pa ∧ pq_H E h f it g Y kw h ∧ wk_Lrule Y (g 114 0) ∧ f (g 114 0) = 0
def pc_T (h : sm_H) (g : wk_g) (E : pm_E) (x : Nat) (h' : sm_H) : Prop := ∃ h1, h' = h1 ++ [sm_exc x] ∧ ab_Sh sx_sk h1 ∧ ab_Fr pq_W h h1 ∧ ((x = 14 ∧ mi_f h 6543 = 0) ∨ (x = 15 ∧ mi_f h 6543 ≠ 0 ∧ pm_NO g E (pc_0 g 0)))
def pc_Q (h : sm_H) (g : wk_g) (E : pm_E) (w : Option mi_V) (h' : sm_H) : Prop := ab_Sh sx_sk h' ∧ mi_f h 6543 ≠ 0 ∧ (∃ z, w = some (.inl z)) ∧ ((pm_NO g E (pc_0 g 0) ∧ ab_Fr pq_W h h') ∨ (ab_Fr pcr_W h h' ∧ ∃ s', pm_RO g E (pc_0 g 0) ([], s') ∧ pm_K E s' = 0 ∧ w = some (.inl ((gm_T s').length : Int)) ∧ (gm_T s').length ≤ 100 ∧ gc_S h' (gm_T s')))
theorem me_parsec {g : wk_g} {E : pm_E} (hS : ab_Sh sx_sk h) (hG : mi_f h 6543 ≠ 0 → pc_H h g E) : mg_E (pc_T h g E) 255 102 0 [some (.inr (.inr 51))] [] h (pc_Q h g E) := by
  refine mt_kqpA (d := 254) hS ?_ ?_
  · intro b c h1 g1 g2
    have e := me_nil g2
    subst e
    obtain ⟨p, N, f, it, Y, kw, pf, pa, k1, ⟨k2, k3, k4⟩, k5, k6, k7, k8, k9, k10⟩ := hG c
    refine ⟨_, me_pwalk (X := 0) k1 k2 k4 k3 k5 k6 k7 hS k8 k9.1 k9.2.1 k10, fun w h2 hw hq => ?_⟩
    obtain ⟨rfl, q1, q2, q3⟩ := hq
    refine mt_kqpB (d := 254) q1 ?_ ?_ ?_
    · intro b1 b2 c1 c2 h3 r1 r2
      have e := me_nil r2
      subst e
      rcases q3 with ⟨q3, -⟩ | ⟨-, -, s', q4, q5, q6, q7, q8, q9⟩
      · have := q3.2
        exfalso; omega
      obtain ⟨t1, t2⟩ := q6
      have q7 : ((gm_T s').length : Int) ≤ 100 := q7
      refine ⟨_, me_gtake (d := 252) q1 (by omega) (by omega), fun w h4 hw hq => ?_⟩
      obtain ⟨rfl, u1, u2, u3, u4⟩ := hq
      refine mt_kqpC (d := 254) u1 ?_
      intro h5 v1 v2
      have e := me_nil v2
      subst e
      refine ⟨u1, c, ⟨_, rfl⟩, Or.inr ⟨(q2.wide (fun c hc => ab_swr_ok (by decide) hc)).trans (u2.wide (fun c hc => ab_swr_ok (by decide) hc)), s', q4, q5, by rw [u3, t1], by omega, ⟨u3.trans t1, fun k hk => ?_⟩, q8, fun k hk => ?_⟩⟩
      · obtain ⟨l, q, hl⟩ := t2 k hk
        obtain ⟨x1, x2, -⟩ := u4 k (by omega)
        exact ⟨l, q, by rw [x1, x2]; exact hl⟩
      · have := q9 k hk
        rw [Nat.zero_add] at this
        rw [this, (u4 k (by omega)).2.2]
    · intro b1 b2 c1 c2
      refine ⟨by have := me_fb (c := 13579) q1 rfl; omega, fun h3 r1 r2 => ?_⟩
      have e := me_nil r2
      subst e
      rcases q3 with ⟨q3, q4⟩ | ⟨-, q4, -⟩
      · exact ⟨q1, c, ⟨_, rfl⟩, Or.inl ⟨q4, q2⟩⟩
      · exact absurd q4 c2
    · intro b1 c1 h3 r1 r2
      have e := me_nil r2
      subst e
      rcases q3 with ⟨q3, q4⟩ | ⟨q4, -⟩
      · exact mg_thr (M := (1, 1, sb_102)) (x := 15) rfl rfl rfl ⟨h3, rfl, q1, q2, Or.inr ⟨rfl, c, q4⟩⟩
      · exact absurd q4 c1
  · intro b c h1 g1 g2
    have e := me_nil g2
    subst e
    exact mg_thr (M := (1, 1, sb_102)) (x := 14) rfl rfl rfl ⟨h1, rfl, g1, ab_Fr.refl, Or.inl ⟨rfl, c⟩⟩
end PCX
