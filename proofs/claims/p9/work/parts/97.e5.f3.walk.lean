/-! the class's growing walk does the turns of the pure one: a use, a part, a unit -/
section CW3
variable {f : Int → Int} {it : Int → Prop} {g : wk_g} {Y : wk_Y} {kw : Int → Bool} {d : Nat}
theorem RO_refl {c : gm_C} : gm_RO g kw (some c) c := ⟨c, 0, rfl, rfl⟩
theorem RO_step {m : Option gm_C} {c : gm_C} {e : wk_E} {r : List wk_E} {s : gm_S} (h1 : gm_RO g kw m (e :: r, s)) (h2 : gm_RO g kw (gm_st g kw e r s) c) : gm_RO g kw m c := by
  obtain ⟨c1, n, a1, a2⟩ := h1
  obtain ⟨c2, k, b1, b2⟩ := h2
  exact ⟨c1, n + (1 + k), a1, gm_app (gm_app b2 1 _ (gm_one b1)) n _ a2⟩
theorem NO_step {m : Option gm_C} {e : wk_E} {r : List wk_E} {s : gm_S} (h1 : gm_RO g kw m (e :: r, s)) (h2 : gm_NO g kw (gm_st g kw e r s)) : gm_NO g kw m := by
  obtain ⟨c1, n, a1, a2⟩ := h1
  rcases h2 with h2 | ⟨c2, k, b1, b2⟩
  · exact Or.inr ⟨c1, n + 0, a1, gm_appn (gm_none h2) _ _ a2⟩
  · exact Or.inr ⟨c1, n + (1 + k), a1, gm_appn (gm_appn b2 1 _ (gm_one b1)) n _ a2⟩
/-- what is said of walkForm -/
def gq_F (f : Int → Int) (it : Int → Prop) (g : wk_g) (Y : wk_Y) (kw : Int → Bool) (D : Nat) (zd : Int) : Prop := ∀ (h : sm_H) (s : gm_S) (u F : Int), gq_in h u s → cg_G f it g Y kw h → 0 ≤ F → F < wk_f Y → 1 ≤ u → u ≤ 12 → zd ≤ 5 * (u - 1) + wk_d Y F → me_E D 120 0 [some (.inr (.inr 107)), some (.inl (f F)), some (.inl zd), none, none, none, none, none, none, none, none] [] h (gq_Q g kw h u (fun r => gm_fo g F r s) s)
theorem gq_F_deep {D D' : Nat} {zd : Int} (h : gq_F f it g Y kw D zd) (hd : D ≤ D') : gq_F f it g Y kw D' zd := fun h1 s u F a b c e k l m => (h h1 s u F a b c e k l m).deep hd
/-- once it has stopped -/
theorem me_gform0 {h : sm_H} {zf zd : Int} (hS : ab_Sh sx_sk h) (h1 : mi_f h 13699 = 1) (of : mi_in zf) (od : mi_in zd) : me_E (d + 2) 120 0 [some (.inr (.inr 107)), some (.inl zf), some (.inl zd), none, none, none, none, none, none, none, none] [] h (fun w h' => w = none ∧ ab_Sh sx_sk h' ∧ ab_Fr [(13699, 13700)] h h' ∧ mi_f h' 13699 = 1) := by
  refine mt_kgwA hS of od ?_ (by intros; exfalso; omega) (by intros; exfalso; omega) (by intros; exfalso; omega) (by intros; exfalso; omega) (by intros; exfalso; omega)
  intro b c h1' g1 g2 g3
  exact ⟨rfl, g1, g3, g2⟩
theorem cg_ok {h : sm_H} {F : Int} (hG : cg_G f it g Y kw h) (h0 : 0 ≤ F) (h1 : F < wk_f Y) : mi_in (f F) := by
  have := (hG.2.1 F h0 h1).1
  exact ⟨by omega, by omega⟩
theorem me_guse {h : sm_H} {s : gm_S} {u i zd : Int} (hWF : gq_F f it g Y kw (d + 2) zd) (hi : gq_in h u s) (hG : cg_G f it g Y kw h) (i0 : 0 ≤ i) (i1 : i < 10) (r0 : 0 ≤ g 114 i.toNat) (r1 : g 114 i.toNat < wk_f Y) (rf : f (g 114 i.toNat) = i) (u0 : 0 ≤ u) (z0 : -1 ≤ zd) (z1 : zd ≤ 5 * u) (z2 : zd ≤ 1000) : me_E (d + 3) 113 0 [some (.inr (.inr 107)), some (.inl i), some (.inl zd), none] [] h (gq_Q g kw h u (fun r => gm_en g i r s) s) := by
  obtain ⟨hS, j1, j2, j3, hR⟩ := hi
  have oi : mi_in i := ⟨by omega, by omega⟩
  have od : mi_in zd := ⟨by omega, by omega⟩
  have hd0 := (hG.1.2.2.2 _ r0 r1).1
  obtain ⟨-, -, c3, c4, c5, c6⟩ := id hR
  refine mt_kguA hS oi od ?_ ?_
  · intro b c1 h1 g1 g2
    have e := me_nil g2
    subst e
    refine ⟨_, me_genter (d := d) hS ⟨by decide, by decide⟩ oi j1 j2 hR, ?_⟩
    intro w h2 hw hq
    obtain ⟨q1, q2, q3⟩ := hq
    have e01 : mi_f h2 13701 = u := (me_f (c := 13701) q2 hS rfl rfl).trans j3
    have e03 : mi_f h2 13703 = gm_F s := (me_f (c := 13703) q2 hS rfl rfl).trans c3
    have tail : ∀ (zz : Int) (h4 : sm_H), mi_in zz → ab_Sh sx_sk h4 → mi_in (mi_f h4 13701 - 1) → ∀ Q : Option mi_V → sm_H → Prop, (∀ h5, ab_Sh sx_sk h5 → mi_f h5 13701 = mi_f h4 13701 - 1 → ab_Fr [(13440, 13441), (13701, 13702)] h4 h5 → Q none h5) → me_E (d + 3) 113 41 [some (.inr (.inr 107)), some (.inl i), some (.inl zd), some (.inl zz)] [] h4 Q := by
      intro zz h4 oz s4 o1 Q k
      refine mt_kguC s4 oi od oz ?_
      intro b
      refine ⟨⟨o1.1, o1.2⟩, fun h5 t1 t2 t3 => ⟨_, me_gleave (d := d) t1 oz, fun w h6 hw hq => ?_⟩⟩
      obtain ⟨rfl, v1, v2⟩ := hq
      refine mt_kguD v1 oi od oz ?_
      intro h7 x1 x2
      have e := me_nil x2
      subst e
      exact k h7 x1 ((me_f (c := 13701) v2 t1 rfl rfl).trans t2) ((t3.wide (fun c hc => ab_swr_ok (by decide) hc)).trans (v2.wide (fun c hc => ab_swr_ok (by decide) hc)))
    rcases q3 with ⟨q3, rfl, q4, q5⟩ | ⟨t, q3, rfl, q4, q5, q6, q7⟩
    · refine mt_kguB q1 oi od ⟨by decide, by decide⟩ ?_
      intro b1 b2
      refine ⟨⟨⟨by omega, by omega⟩, by omega, by omega⟩, fun h3 t1 t2 t3 t4 => ?_⟩
      refine ⟨_, me_gform0 (d := d) t1 ((me_f (c := 13699) t4 q1 rfl rfl).trans q4) oi od, fun w h4 hw hq => ?_⟩
      obtain ⟨rfl, v1, v2, v3⟩ := hq
      have n01 : mi_f h4 13701 = u + 1 := by rw [me_f (c := 13701) v2 t1 rfl rfl, t2, e01]
      refine tail (-1) h4 ⟨by decide, by decide⟩ v1 ⟨by omega, by omega⟩ _ (fun h5 x1 x2 x3 => ?_)
      refine ⟨rfl, x1, (((q2.wide (fun c hc => ab_swr_ok (by decide) hc)).trans (t4.wide (fun c hc => ab_swr_ok (by decide) hc))).trans (v2.wide (fun c hc => ab_swr_ok (by decide) hc))).trans (x3.wide (fun c hc => ab_swr_ok (by decide) hc)), by omega, Or.inl ⟨(me_f (c := 13699) x3 v1 rfl rfl).trans v3, ?_, fun r hr => Or.inl ?_⟩⟩
      · rw [me_f (c := 13700) x3 v1 rfl rfl, me_f (c := 13700) v2 t1 rfl rfl, me_f (c := 13700) t4 q1 rfl rfl]
        exact q5
      · have hc : ¬ (gm_T s).length < 100 := fun q => by
          unfold gm_c at q3
          rw [if_neg (by omega)] at q3
          cases q3
        show gm_en g i r s = none
        unfold gm_en
        rw [if_neg (by omega)]
        unfold gm_c
        rw [gm_T_mk, if_pos (by omega)]
        rfl
    · obtain ⟨t1', t2', t3', t4', t5'⟩ := gm_c_t q3
      have hlen := gm_c_len q3
      have ln : gm_len s = ((gm_T s).length : Int) := rfl
      have on : mi_in (gm_len s) := ⟨by omega, by omega⟩
      refine mt_kguB q1 oi od on ?_
      intro b1 b2
      refine ⟨⟨⟨by omega, by omega⟩, by omega, by omega⟩, fun h3 t1 t2 t3 t4 => ?_⟩
      -- the state in the rule
      obtain ⟨s2, hs2⟩ : ∃ s2, s2 = gm_d (gm_X s, gm_F s - 1, gm_T s ++ [(1 + 10 * ((gm_T s).length : Int), i, gm_D s)], gm_D s, gm_P s) := ⟨_, rfl⟩
      have sX : gm_X s2 = gm_X s := by rw [hs2]; unfold gm_d; rw [gm_X_mk, gm_X_mk]
      have sF : gm_F s2 = gm_F s - 1 := by rw [hs2]; unfold gm_d; rw [gm_F_mk, gm_F_mk]
      have sT : gm_T s2 = gm_T s ++ [(1 + 10 * ((gm_T s).length : Int), i, gm_D s)] := by rw [hs2]; unfold gm_d; rw [gm_T_mk, gm_T_mk]
      have sD : gm_D s2 = gm_D s + 1 := by rw [hs2]; unfold gm_d; rw [gm_D_mk, gm_D_mk]
      have sP : gm_P s2 = gm_P s := by rw [hs2]; unfold gm_d; rw [gm_P_mk, gm_P_mk]
      have sl : gm_len s2 = gm_len s + 1 := by
        unfold gm_len
        rw [sT, List.length_append]
        rfl
      have hR3 : gq_R h3 s2 := by
        obtain ⟨x1, x2, x3, x4, x5, x6⟩ := q6
        refine ⟨?_, ?_, ?_, by omega, by omega, by omega⟩
        · rw [sT, ← t3']
          exact gq_T_fr x1 t4 q1 rfl
        · rw [me_l (c := 13702) t4 q1 rfl rfl, x2, t1', sX]
        · rw [t3, e03, sF]
      have hG3 : cg_G f it g Y kw h3 := cg_G_fr (cg_G_fr hG q2 hS rfl) t4 q1 rfl
      have key := hWF h3 s2 (u + 1) (g 114 i.toNat) ⟨t1, (me_f (c := 13699) t4 q1 rfl rfl).trans q4, (me_f (c := 13700) t4 q1 rfl rfl).trans q5, by rw [t2, e01], hR3⟩ hG3 r0 r1 (by omega) (by omega) (by omega)
      rw [rf] at key
      have een : ∀ r, wk_ul r = u → gm_en g i r s = some ((1, g 114 i.toNat, 0) :: (2, 1, 0) :: r, s2) := fun r hr => by
        unfold gm_en
        rw [if_neg (by omega)]
        unfold gm_c
        rw [gm_T_mk, if_neg (by omega), gm_X_mk, gm_F_mk, gm_D_mk, gm_P_mk, hs2]
        rfl
      have hul : ∀ r, wk_ul r = u → wk_ul ((2, 1, 0) :: r) = u + 1 := fun r hr => by rw [wk_ul_o, hr]; omega
      refine ⟨_, key, fun w h4 hw hq => ?_⟩
      obtain ⟨rfl, v1, v2, v01, v3⟩ := hq
      have Fa : ab_Fr gq_W _ h4 := ((q2.wide (fun c hc => ab_swr_ok (by decide) hc)).trans (t4.wide (fun c hc => ab_swr_ok (by decide) hc))).trans v2
      rcases v3 with ⟨v3, v4, v5⟩ | ⟨v3, v4, s3, v6, ⟨v7, v8⟩, v10⟩
      · refine tail _ h4 on v1 ⟨by omega, by omega⟩ _ (fun h5 x1 x2 x3 => ?_)
        refine ⟨rfl, x1, Fa.trans (x3.wide (fun c hc => ab_swr_ok (by decide) hc)), by omega, Or.inl ⟨(me_f (c := 13699) x3 v1 rfl rfl).trans v3, (me_f (c := 13700) x3 v1 rfl rfl).trans v4, fun r hr => ?_⟩⟩
        show gm_NO g kw (gm_en g i r s)
        rw [een r hr]
        exact NO_step (e := (1, g 114 i.toNat, 0)) (r := (2, 1, 0) :: r) (s := s2) RO_refl (by rw [gm_st_1]; exact v5 _ (hul r hr))
      · have on1 : mi_in (mi_f h4 13701 - 1) := ⟨by omega, by omega⟩
        refine mt_kguC v1 oi od on ?_
        intro b2
        refine ⟨⟨on1.1, on1.2⟩, fun h5 x1 x2 x3 => ?_⟩
        have R5 : gq_R h5 s3 := gq_R_fr v6 x3 v1 rfl rfl rfl
        have c1' := R5.1.1
        have c2' := R5.2.2.2.1
        unfold gm_len at c2'
        obtain ⟨-, B, a2, a3, a4, a5⟩ := id v8
        rw [sT] at a2 a4 a5
        rw [sD] at a3
        have eT3 : gm_T s3 = gm_T s ++ (1 + 10 * ((gm_T s).length : Int), i, gm_D s) :: B := by rw [a2, List.append_assoc]; rfl
        have lB : (gm_T s3).length = (gm_T s).length + 1 + B.length := by rw [eT3, List.length_append, List.length_cons]; omega
        have l1' : (gm_T s ++ [(1 + 10 * ((gm_T s).length : Int), i, gm_D s)]).length = (gm_T s).length + 1 := by rw [List.length_append]; rfl
        rw [l1'] at a4 a5
        refine ⟨_, by rw [ln]; exact me_gleavex (d := d) (n := (gm_T s).length) x1 (by omega) (by omega) (by omega), fun w h6 hw hq => ?_⟩
        obtain ⟨rfl, y1, y2, y3⟩ := hq
        refine mt_kguD y1 oi od on ?_
        intro h7 l1 l2
        have e := me_nil l2
        subst e
        have f5 : ∀ k, mi_a h5 105 k = mi_a h4 105 k := fun k => me_a (k := 105) x3 v1 rfl rfl
        have f3 : ∀ k, mi_a h3 105 k = mi_a h2 105 k := fun k => me_a (k := 105) t4 q1 rfl rfl
        refine ⟨rfl, y1, (Fa.trans (x3.wide (fun c hc => ab_swr_ok (by decide) hc))).trans (y2.wide (fun c hc => ab_swr_ok (by decide) hc)), by rw [me_f (c := 13701) y2 x1 rfl rfl, x2, v01]; omega, Or.inr ⟨by rw [me_f (c := 13699) y2 x1 rfl rfl, me_f (c := 13699) x3 v1 rfl rfl]; exact v3, by rw [me_f (c := 13700) y2 x1 rfl rfl, me_f (c := 13700) x3 v1 rfl rfl]; exact v4, (gm_X s3, gm_F s3, gm_T s3, gm_D s3 - 1, gm_P s3), gq_R_D (gq_R_fr R5 y2 x1 rfl rfl rfl) (gm_T_mk _ _ _ _ _) (gm_X_mk _ _ _ _ _) (gm_F_mk _ _ _ _ _), ⟨by rw [gm_D_mk]; omega, ?_⟩, fun r hr => ?_⟩⟩
        · refine pq_close (h := h5) (B := B) (by rw [gm_P_mk, v8.1, sP]) (gm_T_mk _ _ _ _ _) eT3 a3 (gz_eq a4 (fun k _ _ => f5 k)) (fun k hk => ?_) (fun k => ?_)
          · rw [f5, a5 k (by omega), f3, q7, if_neg (by omega)]
          · rw [y3, c1', lB]
            by_cases ck : k = (gm_T s).length
            · rw [if_pos ck, if_pos ck]
              omega
            · rw [if_neg ck, if_neg ck]
        · show gm_RO g kw (gm_en g i r s) _
          rw [een r hr]
          exact RO_step (e := (2, 1, 0)) (r := r) (s := s3) (RO_step (e := (1, g 114 i.toNat, 0)) (r := (2, 1, 0) :: r) (s := s2) RO_refl (by rw [gm_st_1]; exact v10 _ (hul r hr))) (by rw [gm_st_2]; exact RO_refl)
  · intro b c1 h1 g1 g2 g3 g4
    refine ⟨rfl, g1, g4.wide (fun c hc => ab_swr_ok (by decide) hc), (me_f (c := 13701) g4 hS rfl rfl).trans j3, Or.inl ⟨g2, g3, fun r hr => Or.inl ?_⟩⟩
    show gm_en g i r s = none
    unfold gm_en
    rw [if_pos (by omega)]
theorem me_gpart {h : sm_H} {s : gm_S} {u zp zd : Int} (hWF : gq_F f it g Y kw (d + 2) (zd + 1)) (hi : gq_in h u s) (hG : cg_G f it g Y kw h) (p0 : 0 ≤ zp) (p1 : zp < wk_u Y) (u0 : 1 ≤ u) (u1 : u ≤ 12) (z0 : 0 ≤ zd) (z1 : zd ≤ 5 * (u - 1) + wk_d Y (wk_c Y zp)) : me_E (d + 4) 132 0 [some (.inr (.inr 107)), some (.inl zp), some (.inl zd), none] [] h (gq_Q g kw h u (fun r => gm_sg g kw zp r s) s) := by
  have hS := hi.1
  have hu60 := hG.1.1
  obtain ⟨e68, e9, e10, -⟩ := hG.2.2.1 zp p0 p1
  obtain ⟨⟨-, -, -, w1, w2⟩, -, -, l9, l10, -⟩ := hG.1.2.2.1 zp p0 p1
  have wd := (hG.1.2.2.2 _ w1 w2).2.1
  have op : mi_in zp := ⟨by omega, by omega⟩
  have od : mi_in zd := ⟨by omega, by omega⟩
  have o68 : mi_in (mi_a h 68 zp.toNat) := mi_inT _
  refine mt_kgzA hS op od (by intros; exfalso; omega) (by intros; exfalso; omega) ?_ ?_ ?_
  · intro c1 c2 c3 c4
    refine ⟨⟨by omega, by omega⟩, fun h1 g1 g2 => ?_⟩
    have e := me_nil g2
    subst e
    refine ⟨_, me_gleaf (d := d) hi hG p0 p1 (by rw [← e68]; exact c3) (by rw [← e68]; exact c4), fun w h2 hw hq => ?_⟩
    have e := hq.1
    subst e
    refine mt_kgzD hq.2.1 op od o68 ?_
    intro h3 r1 r2
    have e := me_nil r2
    subst e
    exact hq
  · intro c1 c2 c3 c4
    rw [e68] at c4
    obtain ⟨x1, x2, x3, x4⟩ := l10 c4
    have hf := cg_ok hG x1 x2
    refine ⟨⟨⟨by omega, by omega⟩, by omega, by omega⟩, fun h1 g1 g2 => ?_⟩
    have e := me_nil g2
    subst e
    rw [e10 c4]
    refine ⟨_, (gq_F_deep hWF (by omega : d + 2 ≤ d + 3)) h1 s u (g 120 zp.toNat) hi hG x1 x2 u0 u1 (by omega), fun w h2 hw hq => ?_⟩
    have e := hq.1
    subst e
    refine mt_kgzC hq.2.1 op od o68 ?_
    intro h3 r1 r2
    have e := me_nil r2
    subst e
    have eM : ∀ r, gm_sg g kw zp r s = some ((1, g 120 zp.toNat, 0) :: r, s) := fun r => by
      unfold gm_sg
      rw [if_neg (by omega), if_pos c4]
    obtain ⟨-, q1, q2, q3, q4⟩ := hq
    refine ⟨rfl, q1, q2, q3, ?_⟩
    rcases q4 with ⟨q4, q5, q6⟩ | ⟨q4, q5, s3, q6, q7, q8⟩
    · refine Or.inl ⟨q4, q5, fun r hr => ?_⟩
      dsimp only
      rw [eM]
      exact NO_step (e := (1, g 120 zp.toNat, 0)) (r := r) (s := s) RO_refl (by rw [gm_st_1]; exact q6 r hr)
    · refine Or.inr ⟨q4, q5, s3, q6, q7, fun r hr => ?_⟩
      dsimp only
      rw [eM]
      exact RO_step (e := (1, g 120 zp.toNat, 0)) (r := r) (s := s) RO_refl (by rw [gm_st_1]; exact q8 r hr)
  · intro c1 c2 c3
    rw [e68] at c3
    obtain ⟨x1, x2, x3, x4, x5, x6, x7⟩ := l9 c3
    obtain ⟨y1, y2⟩ := e9 c3
    refine ⟨⟨⟨by omega, by omega⟩, by omega, by omega⟩, fun h1 g1 g2 => ?_⟩
    have e := me_nil g2
    subst e
    rw [y1]
    refine ⟨_, me_guse (d := d) hWF hi hG x3 x4 x5 x6 y2 (by omega) (by omega) (by omega) (by omega), fun w h2 hw hq => ?_⟩
    have e := hq.1
    subst e
    refine mt_kgzB hq.2.1 op od o68 ?_
    intro h3 r1 r2
    have e := me_nil r2
    subst e
    have eM : ∀ r, gm_sg g kw zp r s = gm_en g (g 115 (g 120 zp.toNat).toNat) r s := fun r => by
      unfold gm_sg
      rw [if_pos c3]
    have eM2 : (fun r => gm_sg g kw zp r s) = fun r => gm_en g (g 115 (g 120 zp.toNat).toNat) r s := funext eM
    rw [eM2]
    exact hq
end CW3
