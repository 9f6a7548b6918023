/-! the reference's compile, exactly; both together -/
section CMR
variable {h : sm_H}
def sm_no (wr : List (Nat × Nat)) : Bool := !([114, 115, 119, 120, 122, 124, 125, 126, 128, 129, 130].any (fun r => ab_in wr (r * 128))) && !(ab_in wr 17024 || ab_in wr 17408 || ab_in wr 18432) && !(ab_in wr 17664 || ab_in wr 13965)
theorem SM_fr {h' : sm_H} {wr : List (Nat × Nat)} (hC : SM h) (hS : ab_Sh sx_sk h) (hF : ab_Fr wr h h') (hw : sm_no wr = true) : SM h' := by
  unfold sm_no at hw
  simp only [Bool.and_eq_true, Bool.not_eq_true', Bool.or_eq_false_iff] at hw
  have e := rv_eq_fr hF hS hw.1.1
  have eX := rX_fr hF hS (by rw [Bool.or_eq_false_iff, Bool.or_eq_false_iff]; exact hw.1.2)
  unfold SM
  rw [e.g, eX, show mx_b h' 138 = mx_b h 138 from funext fun i => me_b (k := 138) hF hS rfl hw.2.1, me_f (c := 13965) hF hS rfl hw.2.2, e 114 (by decide)]
  exact hC
theorem sy_L_fr2 {h' : sm_H} {Y : wk_Y} {wr : List (Nat × Nat)} (l1 : sy_L h Y) (q1 : ab_Sh sx_sk h) (r5 : ab_Fr wr h h') (hg : wk_gc (mi_a h) (mi_a h')) (w1 : (ab_in wr 13963 || ab_in wr 13965 || ab_in wr 13964 || ab_in wr 13961) = false) : sy_L h' Y := by
  simp only [Bool.or_eq_false_iff] at w1
  obtain ⟨a1, a2, a3, a4, a5⟩ := l1
  unfold sy_L
  rw [me_f (c := 13963) r5 q1 rfl w1.1.1.1, me_f (c := 13965) r5 q1 rfl w1.1.1.2, me_f (c := 13964) r5 q1 rfl w1.1.2, me_f (c := 13961) r5 q1 rfl w1.2]
  refine ⟨wk_L_g a1 hg, a2, a3, fun x h0 h1 => ?_, fun r h0 h1 => ?_⟩
  · rw [hg 126 (by decide)]
    exact a4 x h0 h1
  · rw [hg 114 (by decide)]
    exact a5 r h0 h1
theorem me_compilex (hS : ab_Sh sx_sk h) : me_E 60 175 0 [some (.inr (.inr 109)), none] [] h (co_Q h) := by
  refine mt_coA (d := 40) hS ?_
  intro h1 g1 g2 g3
  refine ⟨_, (me_readx g1).and (rd_okf h1 g1), fun w h2 ow hq => ?_⟩
  obtain ⟨⟨g0, z0, z1, z2, z3⟩, rfl, q1, q2, q3⟩ := hq
  have en : mi_f h1 13953 = mi_f h 13953 := me_f (c := 13953) g3 hS rfl rfl
  have ec : mi_a h1 110 = mi_a h 110 := funext fun i => me_a (k := 110) g3 hS rfl rfl
  rw [en, ec] at z2 z3
  have F2 : ab_Fr mr_W h h2 := (g3.wide (fun c hc => ab_swr_ok (by decide) hc)).trans q2
  refine mt_coB (d := 40) q1 ?_ ?_
  · intro b c h3 r1 r2 r3 r4 r5
    obtain ⟨Y, l1, l2⟩ := q3 c
    obtain ⟨-, g, y1, y2, y3⟩ := z2 (by omega)
    have hPG : PG (mi_f h 13953) (mi_a h 110) g0 := ⟨z0, Or.inr ⟨g, h2, Y, y1, y2, y3, l1⟩⟩
    have hg : wk_gc (mi_a h2) (mi_a h3) := wk_gc_fr r5 q1 rfl
    have l1' : sy_L h3 Y := sy_L_fr2 l1 q1 r5 hg rfl
    have Q3 : RQ g h3 := RQ_same y3 q1 r5 (by decide)
    have W : PW g := by
      obtain ⟨k, a, hk, -⟩ := y1
      exact PW_ruTr k _ (PW_0 z0) hk
    have hA : sy_A h3 := TW_A Q3 W l1'
    refine ⟨_, me_studyx (d := 56) l1' hA r1, fun w h4 ow hq => ?_⟩
    obtain ⟨rfl, s1, s2, j, k, W0, t3, t4, t5, t6, t7⟩ := hq
    have l4 := sy_L_fr l1' r1 s2
    have hg4 : wk_gc (mi_a h2) (mi_a h4) := hg.trans (wk_gc_fr s2 r1 rfl)
    have n4 : mi_f h4 14015 = 0 := (me_f (c := 14015) s2 r1 rfl rfl).trans r3
    have Q4 : RQ g h4 := RQ_same Q3 r1 s2 (by decide)
    have e4 := rv_eq_fr s2 r1 (by rfl)
    have S4 : SM h4 := by
      have e65 : mi_f h4 13965 = mi_f h3 13965 := me_f (c := 13965) s2 r1 rfl rfl
      refine ⟨j, k, W0, ?_, ?_, fun i hi => ?_, fun i => ?_, ?_⟩
      · rw [e4.g, e65]; exact t3
      · rw [e4.g, e65]; exact t4
      · rw [e4 114 (by decide)]; rw [e65] at hi; exact t5 i hi
      · rw [e4.g, e65]; exact t6 i
      · rw [e4.g, e65]; exact t7
    refine mt_coC (d := 40) s1 ?_
    intro h5 t1 t2
    have e := me_nil t2
    subst e
    refine ⟨_, me_check (d := 58) l4 t1, fun w h6 ow hq => ?_⟩
    obtain ⟨e, z, rfl, oz⟩ := hq
    subst e
    have fin : ∀ h7, ab_Sh sx_sk h7 → mi_f h7 13959 ≠ 0 → ab_Fr [(13959, 13960)] h6 h7 → co_Q h (some (.inl z)) h7 := fun h7 u1 un u3 => by
      have hg7 : wk_gc (mi_a h2) (mi_a h7) := hg4.trans (wk_gc_fr u3 t1 rfl)
      refine ⟨⟨z, rfl, oz⟩, u1, ((F2.trans (r5.wide (fun c hc => ab_swr_ok (by decide) hc))).trans (s2.wide (fun c hc => ab_swr_ok (by decide) hc))).trans (u3.wide (fun c hc => ab_swr_ok (by decide) hc)), ⟨fun _ => mj_L_g hg7 ⟨Y, l1.1, l2⟩, fun z => absurd ((me_f (c := 14015) u3 t1 rfl rfl).trans n4) z⟩, g0, hPG, Or.inr ⟨un, SM_fr S4 t1 u3 (by decide), g, Y, y1, y2, RQ_same Q4 t1 u3 (by decide), sy_L_fr2 l4 t1 u3 (wk_gc_fr u3 t1 rfl) rfl⟩⟩
    refine mt_coD (d := 40) t1 oz ?_ ?_
    · intro c h7 u1 u2 u3
      exact fin h7 u1 (by omega) u3
    · intro c h7 u1 u2 u3
      exact fin h7 u1 (by omega) u3
  · intro b c h3 r1 r2 r3 r4 r5 r6 r7
    have B := z3 (by omega)
    exact ⟨⟨_, rfl, mi_inT _⟩, r1, F2.trans (r7.wide (fun c hc => ab_swr_ok (by decide) hc)), ⟨fun z => by exfalso; omega, fun z => absurd r5 z⟩, g0, ⟨z0, Or.inl ⟨_, B⟩⟩, Or.inl ⟨r2, _, B⟩⟩
end CMR
/-- after both have compiled -/
theorem rl_both {n : Int} {c : Nat → Int} {g0 : wk_g} {h1 h2 : sm_H} (hS1 : ab_Sh sx_sk h1) (hS2 : ab_Sh sx_sk h2) (hF : ab_Fr mr_W h1 h2) (hc : cm_G n c g0 h1) (hr : co_G n c g0 h2) : rl_c h2 := by
  have e42 : mi_f h2 6542 = mi_f h1 6542 := me_f (c := 6542) hF hS1 rfl rfl
  rcases hc with ⟨a1, f, a2⟩ | ⟨a1, a2, f, ow, g, k1, k2, k3, k4, k5, k6, k7, k8, k9⟩
  · rcases hr with ⟨b1, -⟩ | ⟨b1, -, g, Y, b2, b3, -⟩
    · exact ⟨⟨fun q => absurd (e42.trans a1) q, fun q => absurd b1 q⟩, fun q => absurd b1 q⟩
    · exact (rz_xB b2 b3 a2).elim
  · rcases hr with ⟨b1, f', b2⟩ | ⟨b1, b2, g', Y, b3, b4, b5, b6⟩
    · exact (rz_xB k1 k2 b2).elim
    · have eg := rz_DD b3 k1
      subst eg
      have T2 := TC_fr k5 hS1 hF (by decide)
      have S2 := SC_fr a2 hS1 hF (by decide)
      have hT : TW f ow g' Y h2 := ⟨hS2, b5, T2, k3, k4, k6, k7, k2, b6, k8⟩
      obtain ⟨j, k, W, c1, c2, c3, c4, c5⟩ := S2
      obtain ⟨j', k', W', r1, r2, r3, r4, r5⟩ := b2
      refine ⟨⟨fun _ => b1, fun _ => by rw [e42, a1]; decide⟩, fun _ => ⟨?_, SR_of hT k9 c1 c2 c3 c4 c5 r1 r2 r3 r4 r5⟩⟩
      rw [T2.2.2.2.2.2.2, ← b5.1.2.2.2.1]
