/-! the class's parsing walk: what has no form -/
theorem px_mod32 {X Y : Int32} (x0 : 0 ≤ X.toInt) (y0 : 0 < Y.toInt) : (X - X / Y * Y).toInt = X.toInt % Y.toInt := by
  have x1 : X.toInt < 2147483648 := X.toInt_lt
  have q0 : 0 ≤ X.toInt / Y.toInt := Int.ediv_nonneg x0 (by omega)
  have q1 : X.toInt / Y.toInt ≤ X.toInt := Int.ediv_le_self _ x0
  have p0 : 0 ≤ X.toInt / Y.toInt * Y.toInt := Int.mul_nonneg q0 (by omega)
  have p1 : X.toInt / Y.toInt * Y.toInt ≤ X.toInt := Int.ediv_mul_le _ (by omega)
  have e1 : (X / Y).toInt = X.toInt / Y.toInt := by
    rw [Int32.toInt_div, Int.tdiv_eq_ediv_of_nonneg x0]
    exact Int.bmod_eq_of_le (by omega) (by omega)
  have e2 : (X / Y * Y).toInt = X.toInt / Y.toInt * Y.toInt := by
    rw [Int32.toInt_mul, e1]
    exact Int.bmod_eq_of_le (by omega) (by omega)
  rw [Int32.toInt_sub, e2, Int.bmod_eq_of_le (by omega) (by omega), Int.emod_def, Int.mul_comm]
theorem pq_bit0 {k : Int} : pq_bit (Int64.ofNat 0) k = false := by
  have e : ∀ n : UInt64, (((Int64.ofNat 0).toUInt64 >>> n).toInt64) &&& (Int64.ofNat 1) = Int64.ofNat 0 := by
    intro n
    have e1 : (Int64.ofNat 0).toUInt64 >>> n = 0 := by
      show (0 : UInt64) >>> n = 0
      exact UInt64.zero_shiftRight
    rw [e1]
    decide
  unfold pq_bit
  rw [e, decide_eq_false_iff_not]
  exact fun z => z.2 (by decide)
theorem gx_cmpe {x y : Int64} (hne : x ≠ y) (h : (lg_cmp x y).toInt = 0) : False := by
  unfold lg_cmp at h
  split at h
  · exact absurd h (by decide)
  · first
    | exact absurd h (by decide)
    | (rw [if_neg hne] at h; exact absurd h (by decide))
theorem lg_0 : (lg_cmp (Int64.ofNat 0) (Int64.ofNat 0)).toInt = 0 := by decide
/-- values that are numbers or names -/
def pq_V (E : pm_E) (N : Int) : Prop := ∀ j, 0 ≤ j → j ≤ N → E.1 j < 64 ∧ ((E.1 j = 1 ∨ E.1 j = 2) → 0 ≤ E.2.1 j ∧ E.2.1 j < 1073741824)
section PQ3
variable {E : pm_E} {p : Int → Int} {N : Int} {h h0 : sm_H} {s : gm_S} {d : Nat} {f : Int → Int} {it : Int → Prop} {g : wk_g} {Y : wk_Y} {kw : Int → Bool}
theorem me_pleaf {zp u : Int} (hTok : pq_tok E p N h0) (hEN : E.1 N = 0) (hV : pq_V E N) (hx : tx_h h h0) (hi : pq_in E p N h u s) (hG : cg_G f it g Y kw h) (hC : cs_G E g Y h) (p0 : 0 ≤ zp) (p1 : zp < wk_u Y) (n9 : g 119 zp.toNat ≠ 9) (n10 : g 119 zp.toNat ≠ 10) : me_E (d + 12) 135 0 [some (.inr (.inr 106)), some (.inl zp), none, none] [] h (pq_Q E p N g h u (fun r => pm_sg 0 g E zp r s) s) := by
  obtain ⟨hS, i1, i2, i3, i4, hR⟩ := id hi
  obtain ⟨rT, rl, ⟨k0, k1, k2, k3, k4⟩, rk⟩ := id hR
  have hu60 := hG.1.1
  have op : mi_in zp := ⟨by omega, by omega⟩
  have hb := hC.1 zp p0 p1 (mi_f h 13577)
  have hc := hC.2.2 zp p0 p1
  have k64 : pm_K E s < 64 := (hV _ k0 k1).1
  have b76 := me_fb (c := 13576) hS rfl
  have eK : mi_f h 13577 = pm_K E s := k2
  rw [eK] at hb
  have eM : (fun r => pm_sg 0 g E zp r s) = fun r => (pm_lf E (g 119 zp.toNat) (g 120 zp.toNat) s).map (fun t => (r, t)) := funext fun r => pm_sg_lf n9 n10
  rw [eM]
  -- a token of a kind is not the end
  have nN : 1 ≤ pm_K E s → gm_F s + 1 ≤ N := fun q => by
    rcases Int.lt_or_eq_of_le k1 with e | e
    · omega
    · unfold pm_K at q
      rw [e, hEN] at q
      omega
  refine mt_kpfA hS op (by intros; exfalso; omega) (by intros; exfalso; omega) (by intros; exfalso; omega) (by intros; exfalso; omega) ?_ ?_
  · intro c1 c2 c3
    -- it has a token
    have hs : g 119 zp.toNat = 1 ∨ g 119 zp.toNat = 2 ∨ g 119 zp.toNat = 8 := by
      by_cases q1 : g 119 zp.toNat = 1
      · exact Or.inl q1
      · by_cases q2 : g 119 zp.toNat = 2
        · exact Or.inr (Or.inl q2)
        · by_cases q8 : g 119 zp.toNat = 8
          · exact Or.inr (Or.inr q8)
          · exfalso
            have := hc.2.2.2 q1 q2 q8 n9 n10
            rw [this] at c3
            exact c3 lg_0
    refine ⟨⟨by omega, by omega⟩, fun h1 g1 g2 => ?_⟩
    have e := me_nil g2
    subst e
    refine mt_kpfB hS op ?_
    intro h2 g3 g4
    have e := me_nil g4
    subst e
    refine ⟨_, me_pnext hS, fun w h3 hw hq => ?_⟩
    obtain ⟨rfl, rfl⟩ := hq
    rw [eK, hb]
    have hb2 : pm_h E zp s = E.2.2.1 zp (pm_K E s) := rfl
    by_cases cb : E.2.2.1 zp (pm_K E s) = true
    · rw [if_pos cb]
      -- behind the node, if there is one
      have go87 : ∀ (h4 : sm_H) (t : gm_S), pm_lf E (g 119 zp.toNat) (g 120 zp.toNat) s = some (pm_nx t) → 1 ≤ pm_K E s → gm_F t = gm_F s → gm_D t = gm_D s → ab_Sh sx_sk h4 → ab_Fr pq_en h3 h4 → mi_f h4 13571 = 0 → mi_f h4 13572 = 0 → gq_T h4 (gm_T t) → gm_len t ≤ 100 → pq_A h3 s (gm_D s) h4 t → me_E (d + 12) 135 87 [some (.inr (.inr 106)), some (.inl zp), some (.inr (.inl (mx_b h3 90 zp.toNat))), none] [] h4 (pq_Q E p N g h3 u (fun r => (pm_lf E (g 119 zp.toNat) (g 120 zp.toNat) s).map (fun t => (r, t))) s) := by
        intro h4 t el kp eF eD s4 f4 z1 z2 hT hl hA
        refine mt_kpfF s4 op (by intros; exfalso; omega) ?_
        intro b c h5 r1 r2
        have e := me_nil r2
        subst e
        have f75 : mi_f h5 13575 = p (gm_F s + 1) := (me_f (c := 13575) f4 hS rfl rfl).trans k4
        refine ⟨_, hTok (d + 3) h5 (gm_F s + 1) s4 (tx_h_fr hx f4 hS rfl rfl rfl rfl) (by omega) (nN kp) f75, fun w h6 hw hq => ?_⟩
        obtain ⟨rfl, q1, q2, q3, q4, q5, q6⟩ := hq
        refine mt_kpfG q1 op ?_
        intro h7 v1 v2
        have e := me_nil v2
        subst e
        obtain ⟨y1, y2, y3, y4⟩ := pm_nx_e (s := t)
        have F7 : ab_Fr pq_W h3 h7 := (f4.wide (fun c hc => ab_swr_ok (by decide) hc)).trans (q2.wide (fun c hc => ab_swr_ok (by decide) hc))
        have u3 : mi_f h7 13573 = u := ((me_f (c := 13573) q2 s4 rfl rfl).trans (me_f (c := 13573) f4 hS rfl rfl)).trans i3
        refine ⟨rfl, q1, F7, u3, ?_⟩
        rcases q6 with ⟨w1, w2, w3⟩ | ⟨w1, w2, w3⟩
        · refine Or.inl ⟨⟨w2, Or.inr w3⟩, fun r _ => ?_⟩
          dsimp only
          rw [el]
          exact pNO_bad (r := r) (s := pm_nx t) pRO_refl (by unfold pm_K; rw [y1, eF]; exact w1)
        · refine Or.inr ⟨w2.trans z1, (me_f (c := 13572) q2 s4 rfl rfl).trans z2, (w3.trans (me_f (c := 13579) f4 hS rfl rfl)).trans i4, pm_nx t, ⟨?_, ?_, ?_, ?_⟩, y3.trans eD, pq_A_h hA y4 y2 (fun k _ => me_a (k := 105) q2 s4 rfl rfl), fun r _ => ?_⟩
          · rw [y2]
            exact gq_T_fr hT q2 s4 rfl
          · unfold gm_len at hl ⊢
            rw [y2]
            exact hl
          · rw [y1, eF]
            exact ⟨by omega, nN kp, q3, q4, q5⟩
          · unfold pm_K
            rw [y1, eF]
            exact w1
          · dsimp only
            rw [el]
            exact pRO_refl
      -- a node comes
      have node : ∀ (kd v : Int), (0 ≤ kd ∧ kd < 10) → mi_in v → pm_lf E (g 119 zp.toNat) (g 120 zp.toNat) s = (gm_c kd v s).map pm_nx → 1 ≤ pm_K E s → ∃ Q1, me_E (d + 11) 116 0 [some (.inr (.inr 106)), some (.inl kd), some (.inl v), none] [] h3 Q1 ∧ ∀ (w : Option mi_V) (h4 : sm_H), Q1 w h4 → (∃ z, w = some (.inl z)) ∧ ab_Sh sx_sk h4 ∧ me_E (d + 12) 135 87 [some (.inr (.inr 106)), some (.inl zp), some (.inr (.inl (mx_b h3 90 zp.toNat))), none] [] h4 (pq_Q E p N g h3 u (fun r => (pm_lf E (g 119 zp.toNat) (g 120 zp.toNat) s).map (fun t => (r, t))) s) := by
        intro kd v ok ov el kp
        refine ⟨_, me_penter (d := d + 9) hS ok ov i1 i2 hR, fun w h4 hq => ?_⟩
        obtain ⟨q1, q2, q3⟩ := hq
        rcases q3 with ⟨e1, rfl, e3, e4⟩ | ⟨t, e1, rfl, e3, e4, e5, e6⟩
        · refine ⟨⟨_, rfl⟩, q1, ?_⟩
          refine mt_kpfF q1 op ?_ (by intros; exfalso; omega)
          intro b c h5 r1 r2
          have e := me_nil r2
          subst e
          refine ⟨rfl, q1, q2.wide (fun c hc => ab_swr_ok (by decide) hc), (me_f (c := 13573) q2 hS rfl rfl).trans i3, Or.inl ⟨⟨e3, Or.inl e4⟩, fun r _ => pNO_none ?_⟩⟩
          dsimp only
          rw [el, e1]
          rfl
        · obtain ⟨-, t2, t3, t4, t5⟩ := gm_c_t e1
          have ln : (gm_T t).length = (gm_T s).length + 1 := by rw [t3, List.length_append]; rfl
          refine ⟨⟨_, rfl⟩, q1, go87 h4 t (by rw [el, e1]; rfl) kp t2 t4 q1 q2 e3 e4 e5.1 e5.2.1 ⟨t5, [(kd + 10 * ((gm_T s).length : Int), v, gm_D s)], t3, fo_one, ?_, fun k hk => ?_⟩⟩
          · refine gz_cons fo_nil gz_nil ?_
            rw [e6, if_pos rfl]
            rfl
          · rw [e6, if_neg (by omega)]
      refine mt_kpfB2 hS op ⟨by decide, by decide⟩ ?_ (by intro c; exact absurd c (by decide))
      intro c4 h4 r1 r2
      have e := me_nil r2
      subst e
      refine mt_kpfC hS op ?_ ?_ (by intros; exfalso; omega) (by intros; exfalso; omega) ?_
      · -- a literal
        intro b c5 c6 h5 r3 r4
        have e := me_nil r4
        subst e
        rw [eK] at c5 c6
        have h8 : g 119 zp.toNat = 8 := by
          rcases hs with q | q | q
          · exact absurd (((hc.1 q).1 _ k64).mp cb) c5
          · exact absurd ((hc.2.1 q _ k64).mp cb) c6
          · exact q
        obtain ⟨w0, w1⟩ := hc.2.2.1 h8
        have ek := (w1 _ k64).mp cb
        refine go87 h5 s ?_ (by omega) rfl rfl hS ab_Fr.refl i1 i2 rT rl pq_A_refl
        unfold pm_lf
        rw [if_neg (by omega), if_neg (by omega), if_pos h8, if_pos ⟨w0, ek⟩]
      · -- a name
        intro b c5 c6 h5 r3 r4
        have e := me_nil r4
        subst e
        rw [eK] at c5 c6
        have h2 : g 119 zp.toNat = 2 := by
          rcases hs with q | q | q
          · exact absurd (((hc.1 q).1 _ k64).mp cb) c5
          · exact q
          · have := ((hc.2.2.1 q).2 _ k64).mp cb
            have := (hc.2.2.1 q).1
            exfalso; omega
        have ev : mi_f h5 13578 = pm_V E s := k3 (Or.inr c6)
        obtain ⟨Q1, m1, m2⟩ := node 3 (mi_f h5 13578) ⟨by decide, by decide⟩ (mi_inT _) (by
          unfold pm_lf
          rw [if_neg (by omega), if_pos h2, if_pos c6, ev]) (by omega)
        refine ⟨Q1, m1, fun w h6 hw hq => ?_⟩
        obtain ⟨⟨z, rfl⟩, v1, v2⟩ := m2 w h6 hq
        refine mt_kpfE v1 op (hw _ rfl) ?_
        intro h7 x1 x2
        have e := me_nil x2
        subst e
        exact v2
      · -- a number
        intro b b2 c5 c6 c7
        rw [eK] at c5
        have h1 : g 119 zp.toNat = 1 := by
          rcases hs with q | q | q
          · exact q
          · have := (hc.2.1 q _ k64).mp cb
            exfalso; omega
          · have := ((hc.2.2.1 q).2 _ k64).mp cb
            have := (hc.2.2.1 q).1
            exfalso; omega
        have ev : mi_f h4 13578 = pm_V E s := k3 (Or.inl c5)
        obtain ⟨v0, v1⟩ := (hV _ k0 k1).2 (Or.inl c5)
        have v0 : 0 ≤ pm_V E s := v0
        have v1 : pm_V E s < 1073741824 := v1
        obtain ⟨-, w0, w1, w2⟩ := hc.1 h1
        have o1 : mi_in (mi_f h4 13578 + mi_a h4 69 (Int.toNat zp)) := ⟨by omega, by omega⟩
        refine ⟨⟨⟨by omega, by omega⟩, by omega, by omega⟩, fun h5 r3 r4 => ?_⟩
        have e := me_nil r4
        subst e
        have ex : (Int32.ofInt (mi_f h5 13578 + mi_a h5 69 (Int.toNat zp))).toInt = mi_f h5 13578 + mi_a h5 69 (Int.toNat zp) := mi_ti o1
        have e10 : (Int32.ofInt (10000 : Int)).toInt = 10000 := by decide
        have evv : (Int32.ofInt (mi_f h5 13578 + mi_a h5 69 (Int.toNat zp)) - Int32.ofInt (mi_f h5 13578 + mi_a h5 69 (Int.toNat zp)) / Int32.ofInt (10000 : Int) * Int32.ofInt (10000 : Int)).toInt = (pm_V E s + g 120 zp.toNat) % 10000 := by
          rw [px_mod32 (by rw [ex]; omega) (by rw [e10]; decide), ex, e10, ev, w0]
        rw [evv]
        have m0 : 0 ≤ (pm_V E s + g 120 zp.toNat) % 10000 := Int.emod_nonneg _ (by decide)
        have m9 : (pm_V E s + g 120 zp.toNat) % 10000 < 10000 := Int.emod_lt_of_pos _ (by decide)
        obtain ⟨Q1, m1, m2⟩ := node 2 ((pm_V E s + g 120 zp.toNat) % 10000) ⟨by decide, by decide⟩ ⟨by omega, by omega⟩ (by
          unfold pm_lf
          rw [if_pos h1, if_pos c5]) (by omega)
        refine ⟨Q1, m1, fun w h6 hw hq => ?_⟩
        obtain ⟨⟨z, rfl⟩, v1, v2⟩ := m2 w h6 hq
        refine mt_kpfD v1 op (hw _ rfl) ?_
        intro h7 x1 x2
        have e := me_nil x2
        subst e
        exact v2
    · rw [if_neg cb]
      refine mt_kpfB2 hS op ⟨by decide, by decide⟩ (by intro c; exact absurd rfl c) ?_
      intro c4 h4 r1 r2 r3 r4
      refine ⟨rfl, r1, r4.wide (fun c hc => ab_swr_ok (by decide) hc), (me_f (c := 13573) r4 hS rfl rfl).trans i3, Or.inl ⟨⟨r2, Or.inr (by rw [r3]; exact b76.1)⟩, fun r _ => pNO_none ?_⟩⟩
      have el : pm_lf E (g 119 zp.toNat) (g 120 zp.toNat) s = none := by
        unfold pm_lf
        rcases hs with q | q | q
        · rw [if_pos q, if_neg (fun z => cb (((hc.1 q).1 _ k64).mpr z))]
        · rw [if_neg (by omega), if_pos q, if_neg (fun z => cb ((hc.2.1 q _ k64).mpr z))]
        · rw [if_neg (by omega), if_neg (by omega), if_pos q, if_neg (fun z => cb (((hc.2.2.1 q).2 _ k64).mpr z.2))]
      dsimp only
      rw [el]
      rfl
  · intro c1 c2 c3
    have hx0 : mx_b h 90 zp.toNat = Int64.ofNat 0 := by
      by_cases q : mx_b h 90 zp.toNat = Int64.ofNat 0
      · exact q
      · exfalso
        exact gx_cmpe q c3
    have none_ : ∀ k, ¬ E.2.2.1 zp k = true := fun k q => by
      have := hC.1 zp p0 p1 k
      rw [hx0, pq_bit0] at this
      rw [← this] at q
      cases q
    refine ⟨⟨by omega, by omega⟩, fun h1 g1 g2 => ?_⟩
    have e := me_nil g2
    subst e
    have el : pm_lf E (g 119 zp.toNat) (g 120 zp.toNat) s = some s := pm_lf_o (fun q => none_ 1 (((hc.1 q).1 1 (by decide)).mpr rfl)) (fun q => none_ 2 ((hc.2.1 q 2 (by decide)).mpr rfl)) (fun q => none_ _ (((hc.2.2.1 q).2 _ (by have := (hG.1.2.2.1 zp p0 p1).2.2.2.2.2 q; omega)).mpr rfl))
    rw [el]
    exact ⟨rfl, hS, ab_Fr.refl, i3, Or.inr ⟨i1, i2, i4, s, hR, rfl, pq_A_refl, fun r _ => pRO_refl⟩⟩
end PQ3
