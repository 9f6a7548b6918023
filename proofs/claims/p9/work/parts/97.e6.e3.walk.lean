/-! the class's parsing walk does the turns of the pure one: a use, a part -/
/-- rows, sets, text -/
def pq_H (E : pm_E) (h0 : sm_H) (f : Int → Int) (it : Int → Prop) (g : wk_g) (Y : wk_Y) (kw : Int → Bool) (h : sm_H) : Prop := cg_G f it g Y kw h ∧ cs_G E g Y h ∧ tx_h h h0
def ph_w (wr : List (Nat × Nat)) : Bool := cg_w wr && !cs_w wr && !ab_in wr 6913 && !ab_in wr 7040 && !ab_in wr 7698 && !ab_in wr 9600
section PW3
variable {E : pm_E} {p : Int → Int} {N : Int} {h0 : sm_H} {f : Int → Int} {it : Int → Prop} {g : wk_g} {Y : wk_Y} {kw : Int → Bool} {d : Nat}
theorem pq_H_fr {h h' : sm_H} {wr : List (Nat × Nat)} (hH : pq_H E h0 f it g Y kw h) (hF : ab_Fr wr h h') (hS : ab_Sh sx_sk h) (hw : ph_w wr = true) : pq_H E h0 f it g Y kw h' := by
  unfold ph_w at hw
  simp only [Bool.and_eq_true, Bool.not_eq_true'] at hw
  obtain ⟨⟨⟨⟨⟨w1, w2⟩, w3⟩, w4⟩, w5⟩, w6⟩ := hw
  exact ⟨cg_G_fr hH.1 hF hS w1, cs_G_fr hH.2.1 hF hS w2, tx_h_fr hH.2.2 hF hS w3 w4 w5 w6⟩
/-- what is said of walkForm -/
def pq_F (E : pm_E) (p : Int → Int) (N : Int) (h0 : sm_H) (f : Int → Int) (it : Int → Prop) (g : wk_g) (Y : wk_Y) (kw : Int → Bool) (D : Nat) (zd : Int) : Prop := ∀ (h : sm_H) (s : gm_S) (u F : Int), pq_in E p N h u s → pq_H E h0 f it g Y kw h → 0 ≤ F → F < wk_f Y → 1 ≤ u → u ≤ 12 → zd ≤ 5 * (u - 1) + wk_d Y F → me_E D 120 0 [some (.inr (.inr 106)), some (.inl (f F)), some (.inl zd), none, none, none, none, none, none, none, none] [] h (pq_Q E p N g h u (fun r => pm_fo g E F r s) s)
theorem pq_F_deep {D D' : Nat} {zd : Int} (h : pq_F E p N h0 f it g Y kw D zd) (hd : D ≤ D') : pq_F E p N h0 f it g Y kw D' zd := fun h1 s u F a b c e k l m => (h h1 s u F a b c e k l m).deep hd
/-- once it has stopped -/
theorem me_pform0 {h : sm_H} {zf zd : Int} (hS : ab_Sh sx_sk h) (h1 : mi_f h 13571 = 1) (of : mi_in zf) (od : mi_in zd) : me_E (d + 12) 120 0 [some (.inr (.inr 106)), some (.inl zf), some (.inl zd), none, none, none, none, none, none, none, none] [] h (fun w h' => w = none ∧ ab_Sh sx_sk h' ∧ ab_Fr [(13571, 13572)] h h' ∧ mi_f h' 13571 = 1) := by
  refine mt_kpwA hS of od ?_ (by intros; exfalso; omega) (by intros; exfalso; omega) (by intros; exfalso; omega) (by intros; exfalso; omega) (by intros; exfalso; omega)
  intro b c h1' g1 g2 g3
  exact ⟨rfl, g1, g3, g2⟩
theorem pq_len {h : sm_H} {s : gm_S} (hR : pq_R E p N h s) : mi_f h 13056 = ((gm_T s).length : Int) ∧ (gm_T s).length ≤ 100 := ⟨hR.1.1, by have := hR.2.1; unfold gm_len at this; omega⟩
theorem me_puse {h : sm_H} {s : gm_S} {u i zd : Int} (hWF : pq_F E p N h0 f it g Y kw (d + 12) zd) (hi : pq_in E p N h u s) (hG : pq_H E h0 f it g Y kw h) (i0 : 0 ≤ i) (i1 : i < 10) (r0 : 0 ≤ g 114 i.toNat) (r1 : g 114 i.toNat < wk_f Y) (rf : f (g 114 i.toNat) = i) (u0 : 0 ≤ u) (z0 : -1 ≤ zd) (z1 : zd ≤ 5 * u) (z2 : zd ≤ 1000) : me_E (d + 13) 113 0 [some (.inr (.inr 106)), some (.inl i), some (.inl zd), none] [] h (pq_Q E p N g h u (fun r => pm_en 0 g i r s) s) := by
  obtain ⟨hS, j1, j2, j3, j4, hR⟩ := hi
  have oi : mi_in i := ⟨by omega, by omega⟩
  have od : mi_in zd := ⟨by omega, by omega⟩
  have hd0 := (hG.1.1.2.2.2 _ r0 r1).1
  refine mt_kpuA hS oi od ?_ ?_
  · intro b c1 h1 g1 g2
    have e := me_nil g2
    subst e
    refine ⟨_, me_penter (d := d + 10) hS ⟨by decide, by decide⟩ oi j1 j2 hR, ?_⟩
    intro w h2 hw hq
    obtain ⟨q1, q2, q3⟩ := hq
    have e01 : mi_f h2 13573 = u := (me_f (c := 13573) q2 hS rfl rfl).trans j3
    rcases q3 with ⟨q3, rfl, q4, q5⟩ | ⟨t, q3, rfl, q4, q5, q6, q7⟩
    · refine mt_kpuB q1 oi od ⟨by decide, by decide⟩ ?_
      intro b1
      refine ⟨⟨by omega, by omega⟩, fun h3 t1 t2 t4 => ?_⟩
      refine ⟨_, me_pform0 (d := d) t1 ((me_f (c := 13571) t4 q1 rfl rfl).trans q4) oi od, fun w h4 hw hq => ?_⟩
      obtain ⟨rfl, v1, v2, v3⟩ := hq
      have n01 : mi_f h4 13573 = u + 1 := by rw [me_f (c := 13573) v2 t1 rfl rfl, t2, e01]
      refine mt_kpuC v1 oi od ⟨by decide, by decide⟩ ?_
      intro b2
      refine ⟨⟨by omega, by omega⟩, fun h5 x1 x2 x3 => ⟨_, me_pleave0 (d := d + 10) x1 ⟨by decide, by decide⟩, fun w h6 hw hq => ?_⟩⟩
      obtain ⟨rfl, y1, y2⟩ := hq
      refine mt_kpuD y1 oi od ⟨by decide, by decide⟩ ?_
      intro h7 l1 l2
      have e := me_nil l2
      subst e
      have F7 : ab_Fr pq_W _ h7 := ((((q2.wide (fun c hc => ab_swr_ok (by decide) hc)).trans (t4.wide (fun c hc => ab_swr_ok (by decide) hc))).trans (v2.wide (fun c hc => ab_swr_ok (by decide) hc))).trans (x3.wide (fun c hc => ab_swr_ok (by decide) hc))).trans (y2.wide (fun c hc => ab_swr_ok (by decide) hc))
      refine ⟨rfl, y1, F7, by rw [me_f (c := 13573) y2 x1 rfl rfl, x2, n01]; omega, Or.inl ⟨⟨?_, Or.inl ?_⟩, fun r hr => pNO_none ?_⟩⟩
      · rw [me_f (c := 13571) y2 x1 rfl rfl, me_f (c := 13571) x3 v1 rfl rfl]
        exact v3
      · rw [me_f (c := 13572) y2 x1 rfl rfl, me_f (c := 13572) x3 v1 rfl rfl, me_f (c := 13572) v2 t1 rfl rfl, me_f (c := 13572) t4 q1 rfl rfl]
        exact q5
      · show pm_en 0 g i r s = none
        unfold pm_en
        rw [if_neg (by omega), q3]
        rfl
    · obtain ⟨-, t2', t3', t4', t5'⟩ := gm_c_t q3
      obtain ⟨dl, dF, dD, dP⟩ := gm_d_e (t := t)
      have dT : gm_T (gm_d t) = gm_T t := by unfold gm_d; rw [gm_T_mk]
      have ln : gm_len s = ((gm_T s).length : Int) := rfl
      have lt := (gm_c_len q3).1
      have on : mi_in (gm_len s) := ⟨by omega, by omega⟩
      refine mt_kpuB q1 oi od on ?_
      intro b1
      refine ⟨⟨by omega, by omega⟩, fun h3 t1 t2 t4 => ?_⟩
      have hR3 : pq_R E p N h3 (gm_d t) := pq_R_D (pq_R_fr q6 t4 q1 rfl rfl) dT dF
      have hG3 : pq_H E h0 f it g Y kw h3 := pq_H_fr (pq_H_fr hG q2 hS rfl) t4 q1 rfl
      have key := hWF h3 (gm_d t) (u + 1) (g 114 i.toNat) ⟨t1, (me_f (c := 13571) t4 q1 rfl rfl).trans q4, (me_f (c := 13572) t4 q1 rfl rfl).trans q5, by rw [t2, e01], ((me_f (c := 13579) t4 q1 rfl rfl).trans (me_f (c := 13579) q2 hS rfl rfl)).trans j4, hR3⟩ hG3 r0 r1 (by omega) (by omega) (by omega)
      rw [rf] at key
      have een : ∀ r, wk_ul r = u → pm_en 0 g i r s = some ((1, g 114 i.toNat, 0) :: (2, 1, 0) :: r, gm_d t) := fun r hr => by
        unfold pm_en
        rw [if_neg (by omega), q3]
        rfl
      have hul : ∀ r, wk_ul r = u → wk_ul ((2, 1, 0) :: r) = u + 1 := fun r hr => by rw [wk_ul_o, hr]; omega
      refine ⟨_, key, fun w h4 hw hq => ?_⟩
      obtain ⟨rfl, v1, v2, v01, v3⟩ := hq
      have Fa : ab_Fr pq_W _ h4 := ((q2.wide (fun c hc => ab_swr_ok (by decide) hc)).trans (t4.wide (fun c hc => ab_swr_ok (by decide) hc))).trans v2
      refine mt_kpuC v1 oi od on ?_
      intro b2
      refine ⟨⟨by omega, by omega⟩, fun h5 x1 x2 x3 => ?_⟩
      rcases v3 with ⟨v3, v5⟩ | ⟨v3, v4, v4', s3, v6, v7, v8, v10⟩
      · refine ⟨_, me_pleave0 (d := d + 10) x1 on, fun w h6 hw hq => ?_⟩
        obtain ⟨rfl, y1, y2⟩ := hq
        refine mt_kpuD y1 oi od on ?_
        intro h7 l1 l2
        have e := me_nil l2
        subst e
        refine ⟨rfl, y1, (Fa.trans (x3.wide (fun c hc => ab_swr_ok (by decide) hc))).trans (y2.wide (fun c hc => ab_swr_ok (by decide) hc)), by rw [me_f (c := 13573) y2 x1 rfl rfl, x2, v01]; omega, Or.inl ⟨pq_bad_fr (pq_bad_fr v3 x3 v1 rfl rfl rfl) y2 x1 rfl rfl rfl, fun r hr => ?_⟩⟩
        show pm_NO g E (pm_en 0 g i r s)
        rw [een r hr]
        exact pNO_step (e := (1, g 114 i.toNat, 0)) (r := (2, 1, 0) :: r) (s := gm_d t) pRO_refl (by rw [pm_st_1]; exact v5 _ (hul r hr))
      · have R5 : pq_R E p N h5 s3 := pq_R_fr v6 x3 v1 rfl rfl
        obtain ⟨c1', c2'⟩ := pq_len R5
        obtain ⟨-, B, a2, a3, a4, a5⟩ := id v8
        rw [dT, t3'] at a2 a4 a5
        rw [dD, t4'] at a3
        have eT3 : gm_T s3 = gm_T s ++ (1 + 10 * ((gm_T s).length : Int), i, gm_D s) :: B := by rw [a2, List.append_assoc]; rfl
        have lB : (gm_T s3).length = (gm_T s).length + 1 + B.length := by rw [eT3, List.length_append, List.length_cons]; omega
        have l1' : (gm_T s ++ [(1 + 10 * ((gm_T s).length : Int), i, gm_D s)]).length = (gm_T s).length + 1 := by rw [List.length_append]; rfl
        rw [l1'] at a4 a5
        refine ⟨_, by rw [ln]; exact me_pleave (d := d + 10) (n := (gm_T s).length) x1 (by omega) (by omega) (by omega), fun w h6 hw hq => ?_⟩
        obtain ⟨rfl, y1, y2, y3⟩ := hq
        refine mt_kpuD y1 oi od on ?_
        intro h7 l1 l2
        have e := me_nil l2
        subst e
        have f5 : ∀ k, mi_a h5 105 k = mi_a h4 105 k := fun k => me_a (k := 105) x3 v1 rfl rfl
        have f3 : ∀ k, mi_a h3 105 k = mi_a h2 105 k := fun k => me_a (k := 105) t4 q1 rfl rfl
        refine ⟨rfl, y1, (Fa.trans (x3.wide (fun c hc => ab_swr_ok (by decide) hc))).trans (y2.wide (fun c hc => ab_swr_ok (by decide) hc)), by rw [me_f (c := 13573) y2 x1 rfl rfl, x2, v01]; omega, Or.inr ⟨by rw [me_f (c := 13571) y2 x1 rfl rfl, me_f (c := 13571) x3 v1 rfl rfl]; exact v3, by rw [me_f (c := 13572) y2 x1 rfl rfl, me_f (c := 13572) x3 v1 rfl rfl]; exact v4, by rw [me_f (c := 13579) y2 x1 rfl rfl, me_f (c := 13579) x3 v1 rfl rfl]; exact v4', (gm_X s3, gm_F s3, gm_T s3, gm_D s3 - 1, gm_P s3), pq_R_D (pq_R_fr R5 y2 x1 rfl rfl) (gm_T_mk _ _ _ _ _) (gm_F_mk _ _ _ _ _), by rw [gm_D_mk, v7, dD, t4']; omega, ?_, fun r hr => ?_⟩⟩
        · refine pq_close (h := h5) (B := B) (by rw [gm_P_mk, v8.1, dP, t5']) (gm_T_mk _ _ _ _ _) eT3 a3 (gz_eq a4 (fun k _ _ => f5 k)) (fun k hk => ?_) (fun k => ?_)
          · rw [f5, a5 k (by omega), f3, q7, if_neg (by omega)]
          · rw [y3, c1', lB]
            by_cases ck : k = (gm_T s).length
            · rw [if_pos ck, if_pos ck]
              omega
            · rw [if_neg ck, if_neg ck]
        · show pm_RO g E (pm_en 0 g i r s) _
          rw [een r hr]
          exact pRO_step (e := (2, 1, 0)) (r := r) (s := s3) (pRO_step (e := (1, g 114 i.toNat, 0)) (r := (2, 1, 0) :: r) (s := gm_d t) pRO_refl (by rw [pm_st_1]; exact v10 _ (hul r hr))) (by rw [pm_st_2]; exact pRO_refl)
  · intro b c1 h1 g1 g2 g3 g4
    refine ⟨rfl, g1, g4.wide (fun c hc => ab_swr_ok (by decide) hc), (me_f (c := 13573) g4 hS rfl rfl).trans j3, Or.inl ⟨⟨g2, Or.inl g3⟩, fun r hr => pNO_none ?_⟩⟩
    show pm_en 0 g i r s = none
    unfold pm_en
    rw [if_pos (by omega)]
theorem me_ppart {h : sm_H} {s : gm_S} {u zp zd : Int} (hTok : pq_tok E p N h0) (hEN : E.1 N = 0) (hV : pq_V E N) (hWF : pq_F E p N h0 f it g Y kw (d + 12) (zd + 1)) (hi : pq_in E p N h u s) (hG : pq_H E h0 f it g Y kw h) (p0 : 0 ≤ zp) (p1 : zp < wk_u Y) (u0 : 1 ≤ u) (u1 : u ≤ 12) (z0 : 0 ≤ zd) (z1 : zd ≤ 5 * (u - 1) + wk_d Y (wk_c Y zp)) : me_E (d + 14) 132 0 [some (.inr (.inr 106)), some (.inl zp), some (.inl zd), none] [] h (pq_Q E p N g h u (fun r => pm_sg 0 g E zp r s) s) := by
  have hS := hi.1
  have hu60 := hG.1.1.1
  obtain ⟨e68, e9, e10, -⟩ := hG.1.2.2.1 zp p0 p1
  obtain ⟨⟨-, -, -, w1, w2⟩, -, -, l9, l10, -⟩ := hG.1.1.2.2.1 zp p0 p1
  have wd := (hG.1.1.2.2.2 _ w1 w2).2.1
  have op : mi_in zp := ⟨by omega, by omega⟩
  have od : mi_in zd := ⟨by omega, by omega⟩
  have o68 : mi_in (mi_a h 68 zp.toNat) := mi_inT _
  refine mt_kpzA hS op od (by intros; exfalso; omega) (by intros; exfalso; omega) ?_ ?_ ?_
  · intro c1 c2 c3 c4
    refine ⟨⟨by omega, by omega⟩, fun h1 g1 g2 => ?_⟩
    have e := me_nil g2
    subst e
    refine ⟨_, me_pleaf (d := d + 1) hTok hEN hV hG.2.2 hi hG.1 hG.2.1 p0 p1 (by rw [← e68]; exact c3) (by rw [← e68]; exact c4), fun w h2 hw hq => ?_⟩
    have e := hq.1
    subst e
    refine mt_kpzD hq.2.1 op od o68 ?_
    intro h3 r1 r2
    have e := me_nil r2
    subst e
    exact hq
  · intro c1 c2 c3 c4
    rw [e68] at c4
    obtain ⟨x1, x2, x3, x4⟩ := l10 c4
    have hf := cg_ok hG.1 x1 x2
    refine ⟨⟨⟨by omega, by omega⟩, by omega, by omega⟩, fun h1 g1 g2 => ?_⟩
    have e := me_nil g2
    subst e
    rw [e10 c4]
    refine ⟨_, (pq_F_deep hWF (by omega : d + 12 ≤ d + 13)) h1 s u (g 120 zp.toNat) hi hG x1 x2 u0 u1 (by omega), fun w h2 hw hq => ?_⟩
    have e := hq.1
    subst e
    refine mt_kpzC hq.2.1 op od o68 ?_
    intro h3 r1 r2
    have e := me_nil r2
    subst e
    have eM : ∀ r, pm_sg 0 g E zp r s = some ((1, g 120 zp.toNat, 0) :: r, s) := fun r => by
      unfold pm_sg
      rw [if_neg (by omega), if_pos c4]
    obtain ⟨-, q1, q2, q3, q4⟩ := hq
    refine ⟨rfl, q1, q2, q3, ?_⟩
    rcases q4 with ⟨q4, q6⟩ | ⟨q4, q5, q5', s3, q6, q7, q8, q9⟩
    · refine Or.inl ⟨q4, fun r hr => ?_⟩
      dsimp only
      rw [eM]
      exact pNO_step (e := (1, g 120 zp.toNat, 0)) (r := r) (s := s) pRO_refl (by rw [pm_st_1]; exact q6 r hr)
    · refine Or.inr ⟨q4, q5, q5', s3, q6, q7, q8, fun r hr => ?_⟩
      dsimp only
      rw [eM]
      exact pRO_step (e := (1, g 120 zp.toNat, 0)) (r := r) (s := s) pRO_refl (by rw [pm_st_1]; exact q9 r hr)
  · intro c1 c2 c3
    rw [e68] at c3
    obtain ⟨x1, x2, x3, x4, x5, x6, x7⟩ := l9 c3
    obtain ⟨y1, y2⟩ := e9 c3
    refine ⟨⟨⟨by omega, by omega⟩, by omega, by omega⟩, fun h1 g1 g2 => ?_⟩
    have e := me_nil g2
    subst e
    rw [y1]
    refine ⟨_, me_puse (d := d) hWF hi hG x3 x4 x5 x6 y2 (by omega) (by omega) (by omega) (by omega), fun w h2 hw hq => ?_⟩
    have e := hq.1
    subst e
    refine mt_kpzB hq.2.1 op od o68 ?_
    intro h3 r1 r2
    have e := me_nil r2
    subst e
    have eM2 : (fun r => pm_sg 0 g E zp r s) = fun r => pm_en 0 g (g 115 (g 120 zp.toNat).toNat) r s := funext fun r => by
      unfold pm_sg
      rw [if_pos c3]
    rw [eM2]
    exact hq
end PW3
