/-! the class's parsing walk: a unit -/
theorem pm_up_pre {k v l : Int} {B : List (Int × Int × Int)} : ∀ T : List (Int × Int × Int), pm_up T.length (T ++ (k, v, l) :: B) = T ++ (k, v + 1, l) :: B := by
  intro T
  induction T with
  | nil => rfl
  | cons x T ih =>
    show x :: pm_up T.length (T ++ (k, v, l) :: B) = x :: (T ++ (k, v + 1, l) :: B)
    rw [ih]
/-- a value is written -/
theorem gq_T_up {h h' : sm_H} {T B : List (Int × Int × Int)} {k v v' l : Int} (hT : gq_T h (T ++ (k, v, l) :: B)) (e1 : mi_f h' 13056 = mi_f h 13056) (e2 : ∀ i, mi_a h' 103 i = mi_a h 103 i) (e3 : ∀ i, mi_a h' 104 i = if i = T.length then v' else mi_a h 104 i) : gq_T h' (T ++ (k, v', l) :: B) := by
  obtain ⟨t1, t2⟩ := hT
  have el : (T ++ (k, v', l) :: B).length = (T ++ (k, v, l) :: B).length := by rw [List.length_append, List.length_append]; rfl
  refine ⟨by rw [e1, t1, el], fun j hj => ?_⟩
  rw [el] at hj
  obtain ⟨m, q, hm, hb⟩ := t2 j hj
  rw [e2, e3]
  by_cases c : j = T.length
  · subst c
    rw [List.getElem?_append_right (Nat.le_refl _), Nat.sub_self] at hm
    have hm : some (k, v, l) = some (mi_a h 103 T.length + 10 * q, mi_a h 104 T.length, m) := hm
    injection hm with hm
    injection hm with m1 m2
    refine ⟨l, q, ?_, hb⟩
    rw [if_pos rfl, List.getElem?_append_right (Nat.le_refl _), Nat.sub_self, ← m1]
    rfl
  · refine ⟨m, q, ?_, hb⟩
    rw [if_neg c, ← hm]
    by_cases c2 : j < T.length
    · rw [List.getElem?_append_left c2, List.getElem?_append_left c2]
    · rw [List.getElem?_append_right (by omega), List.getElem?_append_right (by omega)]
      obtain ⟨i, hi⟩ : ∃ i, j - T.length = i + 1 := ⟨j - T.length - 1, by omega⟩
      rw [hi]
      rfl
section PW4
variable {E : pm_E} {p : Int → Int} {N : Int} {h0 : sm_H} {f : Int → Int} {it : Int → Prop} {g : wk_g} {Y : wk_Y} {kw : Int → Bool} {d : Nat} {pf pa : Int → Int → Bool}
/-- a part that was read took a token -/
theorem pm_RO_eat (hL : wk_L g Y) (hH : pm_Hs g Y E pf pa) {zp u : Int} {s s2 : gm_S} (p0 : 0 ≤ zp) (p1 : zp < wk_u Y) (hh : pm_h E zp s = true) (hM : ∀ r, wk_ul r = u → pm_RO g E (pm_sg 0 g E zp r s) (r, s2)) : gm_F s < gm_F s2 := by
  obtain ⟨c1, n, a1, a2⟩ := hM [(2, u, 0)] (by rw [wk_ul_o]; show u + 0 = u; omega)
  rw [show ([(2, u, 0)] : List wk_E) = [] ++ [(2, u, 0)] from rfl, pm_sg_loc] at a1
  obtain ⟨c0, k1, k2⟩ := Option.map_eq_some_iff.mp a1
  subst k2
  rcases pw_split pm_loc n c0 a2 with ⟨B, t', i1, i2, -⟩ | ⟨n1, t1, i1, i2, i3⟩
  · injection i1 with i1 _
    have := congrArg List.length i1
    rw [List.length_append] at this
    have hB : B.length = 0 := by
      have h1 : ([(2, u, 0)] : List wk_E).length = 1 := rfl
      omega
    exact absurd (List.length_eq_zero_iff.mp hB) i2
  · have x := pm_eat_sg hL hH (pm_eat hL hH n1) (Nat.le_refl _) p0 p1 hh k1 i2
    have := pm_to_F _ _ i3
    dsimp only at this
    omega
/-- it is left -/
def pq_X (E : pm_E) (p : Int → Int) (N : Int) (g : wk_g) (h0 : sm_H) (u : Int) (M : List wk_E → Option gm_C) (s : gm_S) (h : sm_H) : Prop := ab_Sh sx_sk h ∧ ab_Fr pq_W h0 h ∧ mi_f h 13573 = u ∧ ((pq_bad h ∧ ∀ r, wk_ul r = u → pm_NO g E (M r)) ∨ (mi_f h 13571 = 0 ∧ mi_f h 13572 = 0 ∧ mi_f h 13579 = -1 ∧ ∃ se, pq_R E p N h se ∧ gm_D se = gm_D s + 1 ∧ gm_P se = gm_P s ∧ (∃ k v B, gm_T se = gm_T s ++ (k, v, gm_D s) :: B ∧ fo (gm_D s + 1) B ∧ gz h ((gm_T s).length + 1) B ∧ ∀ i, i < (gm_T s).length → mi_a h 105 i = mi_a h0 105 i) ∧ ∀ r, wk_ul r = u → pm_RO g E (M r) ((2, 0, 0) :: r, se)))
/-- a node is left, of what is known of it -/
theorem me_pleavex {hb h : sm_H} {u zo : Int} {M : List wk_E → Option gm_C} {s : gm_S} (oo : mi_in zo) (hz : mi_f h 13571 = 0 → zo = gm_len s) (hx : pq_X E p N g hb u M s h) : me_E (d + 2) 147 0 [some (.inr (.inr 106)), some (.inl zo)] [] h (fun w h' => pq_Q E p N g hb u M s w h') := by
  obtain ⟨hS, x2, x3, x4⟩ := hx
  rcases x4 with ⟨a, b⟩ | ⟨a, b, c, se, c1, c2, c3, ⟨k, v, B, c4, c5, c6, c7⟩, c8⟩
  · refine (me_pleave0 (d := d) hS oo).imp (fun w h' hq => ?_)
    obtain ⟨rfl, v1, v2⟩ := hq
    exact ⟨rfl, v1, x2.trans (v2.wide (fun c hc => ab_swr_ok (by decide) hc)), (me_f (c := 13573) v2 hS rfl rfl).trans x3, Or.inl ⟨pq_bad_fr a v2 hS rfl rfl rfl, b⟩⟩
  · have e := hz a
    subst e
    obtain ⟨l1, l2⟩ := pq_len c1
    have ln : gm_len s = ((gm_T s).length : Int) := rfl
    have lB : (gm_T se).length = (gm_T s).length + 1 + B.length := by rw [c4, List.length_append, List.length_cons]; omega
    rw [ln]
    refine (me_pleave (d := d) (n := (gm_T s).length) hS (by omega) (by omega) (by omega)).imp (fun w h' hq => ?_)
    obtain ⟨rfl, v1, v2, v3⟩ := hq
    refine ⟨rfl, v1, x2.trans (v2.wide (fun c hc => ab_swr_ok (by decide) hc)), (me_f (c := 13573) v2 hS rfl rfl).trans x3, Or.inr ⟨(me_f (c := 13571) v2 hS rfl rfl).trans a, (me_f (c := 13572) v2 hS rfl rfl).trans b, (me_f (c := 13579) v2 hS rfl rfl).trans c, (gm_X se, gm_F se, gm_T se, gm_D se - 1, gm_P se), pq_R_D (pq_R_fr c1 v2 hS rfl rfl) (gm_T_mk _ _ _ _ _) (gm_F_mk _ _ _ _ _), by rw [gm_D_mk]; omega, pq_close (h := h) (by rw [gm_P_mk, c3]) (gm_T_mk _ _ _ _ _) c4 c5 c6 c7 (fun i => ?_), fun r hr => pRO_step (e := (2, 0, 0)) (r := r) (s := se) (c8 r hr) (by rw [pm_st_2]; exact pRO_refl)⟩⟩
    rw [v3, l1, lB]
    by_cases ck : i = (gm_T s).length
    · rw [if_pos ck, if_pos ck]
      omega
    · rw [if_neg ck, if_neg ck]
theorem py98 {hb h : sm_H} {u zp zd zr zo zm zt : Int} {M : List wk_E → Option gm_C} {s : gm_S} (op : mi_in zp) (od : mi_in zd) (or_ : mi_in zr) (oo : mi_in zo) (om : mi_in zm) (ot : mi_in zt) (hz : mi_f h 13571 = 0 → zo = gm_len s) (hx : pq_X E p N g hb u M s h) : me_E (d + 15) 131 98 [some (.inr (.inr 106)), some (.inl zp), some (.inl zd), some (.inl zr), some (.inl zo), some (.inl zm), some (.inl zt)] [] h (pq_Q E p N g hb u M s) := by
  refine mt_kpyG hx.1 op od or_ oo om ot ?_
  intro h1 g1 g2
  have e := me_nil g2
  subst e
  refine ⟨_, me_pleavex (d := d + 12) oo hz hx, fun w h2 hw hq => ?_⟩
  have e := hq.1
  subst e
  refine mt_kpyH hq.2.1 op od or_ oo om ot ?_
  intro h3 r1 r2
  have e := me_nil r2
  subst e
  exact hq
/-- the turns of a many -/
theorem py60 {hb : sm_H} {s : gm_S} {u zp zd : Int} {M : List wk_E → Option gm_C} (hTok : pq_tok E p N h0) (hEN : E.1 N = 0) (hN : N ≤ 160) (hV : pq_V E N) (hH : pm_Hs g Y E pf pa) (hSb : ab_Sh sx_sk hb) (hWF : pq_F E p N h0 f it g Y kw (d + 12) (zd + 1)) (hGb : pq_H E h0 f it g Y kw hb) (p0 : 0 ≤ zp) (p1 : zp < wk_u Y) (u0 : 1 ≤ u) (u1 : u ≤ 12) (z0 : 0 ≤ zd) (z1 : zd ≤ 5 * (u - 1) + wk_d Y (wk_c Y zp)) (z2 : zd ≤ 1000) : ∀ (K : Nat) (zt : Int) (h : sm_H) (sj : gm_S), 161 - zt = K → 0 ≤ zt → zt ≤ gm_F sj → pq_in E p N h u sj → ab_Fr pq_W hb h → gm_D sj = gm_D s + 1 → gm_P sj = gm_P s → (∃ B, gm_T sj = gm_T s ++ (5 + 10 * ((gm_T s).length : Int), zt, gm_D s) :: B ∧ fo (gm_D s + 1) B ∧ gz h ((gm_T s).length + 1) B ∧ ∀ i, i < (gm_T s).length → mi_a h 105 i = mi_a hb 105 i) → (∀ r, wk_ul r = u → pm_RO g E (M r) ((5, zp, gm_len s) :: (2, 0, 0) :: r, sj)) → me_E (d + 15) 131 60 [some (.inr (.inr 106)), some (.inl zp), some (.inl zd), some (.inl (5 : Int)), some (.inl (gm_len s)), some (.inl (161 : Int)), some (.inl zt)] [] h (pq_Q E p N g hb u M s) := by
  have hu60 := hGb.1.1.1
  have op : mi_in zp := ⟨by omega, by omega⟩
  have od : mi_in zd := ⟨by omega, by omega⟩
  intro K
  induction K with
  | zero =>
    intro zt h sj hK t0 tF hi
    exfalso
    have := hi.2.2.2.2.2.2.2.1.2.1
    omega
  | succ K ih =>
    intro zt h sj hK t0 tF hi hF eD eP eT hM
    obtain ⟨B, eA, fB, zB, lo⟩ := eT
    obtain ⟨hS, i1, i2, i3, i4, hR⟩ := id hi
    have hFN := hR.2.2.1.2.1
    have ot : mi_in zt := ⟨by omega, by omega⟩
    have ln : gm_len s = ((gm_T s).length : Int) := rfl
    obtain ⟨l1, l2⟩ := pq_len hR
    have lB : (gm_T sj).length = (gm_T s).length + 1 + B.length := by rw [eA, List.length_append, List.length_cons]; omega
    have oo : mi_in (gm_len s) := ⟨by omega, by omega⟩
    have hG := pq_H_fr hGb hF hSb rfl
    refine mt_kpyE hS op od ⟨by decide, by decide⟩ oo ⟨by decide, by decide⟩ ot (by intros; exfalso; omega) (by intros; exfalso; omega) ?_
    intro b c1 c2 h1 g1 g2
    have e := me_nil g2
    subst e
    have hd : pq_bit (mx_b h1 90 zp.toNat) (mi_f h1 13577) = pm_h E zp sj := by
      rw [hG.2.1.1 zp p0 p1, hR.2.2.1.2.2.1]
      rfl
    refine ⟨_, by rw [ln]; exact me_pgoes (d := d + 12) (n := (gm_T s).length) hS p0 (by omega) (by omega) t0 (by omega) hd, fun w h2 hw hq => ?_⟩
    rcases hq with ⟨hh, rfl, q1, q2, q3⟩ | ⟨hh, rfl, rfl⟩
    · -- once more
      refine mt_kpyE2 q1 op od ⟨by decide, by decide⟩ oo ⟨by decide, by decide⟩ ot ⟨by decide, by decide⟩ (by intro c; exact absurd c (by decide)) ?_
      intro c3 h3 r1 r2
      have e := me_nil r2
      subst e
      obtain ⟨y1, y2, y3, y4⟩ := pm_inc_e (s := sj) (a := gm_len s)
      have et : (gm_len s).toNat = (gm_T s).length := by omega
      have eT1 : gm_T (pm_inc (gm_len s) sj) = gm_T s ++ (5 + 10 * ((gm_T s).length : Int), zt + 1, gm_D s) :: B := by rw [y2, et, eA, pm_up_pre]
      have hR3 : pq_R E p N h3 (pm_inc (gm_len s) sj) := by
        refine ⟨?_, ?_, ?_, ?_⟩
        · rw [eT1]
          have := hR.1
          rw [eA] at this
          exact gq_T_up this (me_f (c := 13056) q2 hS rfl rfl) (fun i => me_a (k := 103) q2 hS rfl rfl) q3
        · rw [pm_inc_len]
          exact hR.2.1
        · rw [y1]
          exact pq_K_fr hR.2.2.1 q2 hS rfl rfl rfl
        · rw [pm_K_of y1]
          exact hR.2.2.2
      have hin3 : pq_in E p N h3 u (pm_inc (gm_len s) sj) := ⟨q1, (me_f (c := 13571) q2 hS rfl rfl).trans i1, (me_f (c := 13572) q2 hS rfl rfl).trans i2, (me_f (c := 13573) q2 hS rfl rfl).trans i3, (me_f (c := 13579) q2 hS rfl rfl).trans i4, hR3⟩
      have F3 : ab_Fr pq_W hb h3 := hF.trans (q2.wide (fun c hc => ab_swr_ok (by decide) hc))
      refine ⟨_, me_ppart (d := d) hTok hEN hV hWF hin3 (pq_H_fr hG q2 hS rfl) p0 p1 u0 u1 z0 z1, fun w h4 hw hq => ?_⟩
      obtain ⟨rfl, v1, v2, v3, v4⟩ := hq
      have hst : ∀ r, pm_st g E 0 (5, zp, gm_len s) ((2, 0, 0) :: r) sj = pm_sg 0 g E zp ((5, zp, gm_len s) :: (2, 0, 0) :: r) (pm_inc (gm_len s) sj) := fun r => by
        rw [pm_st_5]
        unfold pm_ag
        rw [if_pos hh]
      have hul : ∀ r, wk_ul r = u → wk_ul ((5, zp, gm_len s) :: (2, 0, 0) :: r) = u := fun r hr => by rw [wk_ul_c (by decide), wk_ul_o, hr, Int.zero_add]
      refine mt_kpyF v1 op od ⟨by decide, by decide⟩ oo ⟨by decide, by decide⟩ ot ?_
      refine ⟨⟨by omega, by omega⟩, fun h5 x1 x2 => ?_⟩
      have e := me_nil x2
      subst e
      rcases v4 with ⟨v4, v6⟩ | ⟨v4, v5, v5', s2, v6, v7, v8, v9⟩
      · have hx : pq_X E p N g hb u M s h5 := ⟨v1, F3.trans v2, v3, Or.inl ⟨v4, fun r hr => pNO_step (e := (5, zp, gm_len s)) (r := (2, 0, 0) :: r) (s := sj) (hM r hr) (by rw [hst]; exact v6 _ (hul r hr))⟩⟩
        have s1 := v4.1
        refine mt_kpyE v1 op od ⟨by decide, by decide⟩ oo ⟨by decide, by decide⟩ ⟨by omega, by omega⟩ ?_ (by intros; exfalso; omega) (by intros; exfalso; omega)
        intro b c4 h6 k1 k2
        have e := me_nil k2
        subst e
        exact py98 op od ⟨by decide, by decide⟩ oo ⟨by decide, by decide⟩ ⟨by omega, by omega⟩ (fun _ => rfl) hx
      · have ea := pm_RO_eat hG.1.1 hH p0 p1 (by rw [pm_h_of y1]; exact hh) v9
        obtain ⟨vP, C, w2, w3, w4, w5⟩ := v8
        rw [eT1] at w2 w4 w5
        rw [y3, eD] at w3
        have l1' : (gm_T s ++ (5 + 10 * ((gm_T s).length : Int), zt + 1, gm_D s) :: B).length = (gm_T s).length + 1 + B.length := by rw [List.length_append, List.length_cons]; omega
        rw [l1'] at w4 w5
        have f3 : ∀ i, mi_a h3 105 i = mi_a h1 105 i := fun i => me_a (k := 105) q2 hS rfl rfl
        refine ih (zt + 1) h5 s2 (by omega) (by omega) (by omega) ⟨v1, v4, v5, v3, v5', v6⟩ (F3.trans v2) (by rw [v7, y3, eD]) (by rw [vP, y4, eP]) ⟨B ++ C, by rw [w2, List.append_assoc]; rfl, fo_app fB w3, gz_app fB w3 (gz_eq zB (fun i i1 i2 => ?_)) w4, fun i hi2 => ?_⟩ (fun r hr => pRO_step (e := (5, zp, gm_len s)) (r := (2, 0, 0) :: r) (s := sj) (hM r hr) (by rw [hst]; exact v9 _ (hul r hr)))
        · rw [w5 i (by omega), f3]
        · rw [w5 i (by omega), f3]
          exact lo i hi2
    · -- no more
      refine mt_kpyE2 hS op od ⟨by decide, by decide⟩ oo ⟨by decide, by decide⟩ ot ⟨by decide, by decide⟩ ?_ (by intro c; exact absurd rfl c)
      intro c3 h3 r1 r2
      have e := me_nil r2
      subst e
      refine py98 op od ⟨by decide, by decide⟩ oo ⟨by decide, by decide⟩ ot (fun _ => rfl) ⟨hS, hF, i3, Or.inr ⟨i1, i2, i4, sj, hR, eD, eP, ⟨_, zt, B, eA, fB, zB, lo⟩, fun r hr => pRO_step (e := (5, zp, gm_len s)) (r := (2, 0, 0) :: r) (s := sj) (hM r hr) ?_⟩⟩
      rw [pm_st_5]
      unfold pm_ag
      rw [if_neg hh]
      exact pRO_refl
theorem me_punit0 {h : sm_H} {zp zd : Int} (hS : ab_Sh sx_sk h) (h1 : mi_f h 13571 = 1) (op : mi_in zp) (od : mi_in zd) : me_E (d + 15) 131 0 [some (.inr (.inr 106)), some (.inl zp), some (.inl zd), none, none, none, none] [] h (fun w h' => w = none ∧ h' = h) := by
  refine mt_kpyA hS op od (by intros; exfalso; omega) ?_ (by intros; exfalso; omega) ?_ (by intros; exfalso; omega) (by intros; exfalso; omega) ?_
  · intro b c1 c2 h2 g1 g2
    exact ⟨rfl, me_nil g2⟩
  · intro b c1 c2 c3 h2 g1 g2
    exact ⟨rfl, me_nil g2⟩
  · intro b c1 c2 c3
    exact ⟨⟨by omega, by omega⟩, fun h2 g1 g2 => ⟨rfl, me_nil g2⟩⟩
theorem me_punit {h : sm_H} {s : gm_S} {u zp zd : Int} (hTok : pq_tok E p N h0) (hEN : E.1 N = 0) (hN : N ≤ 160) (hV : pq_V E N) (hH : pm_Hs g Y E pf pa) (hWF : pq_F E p N h0 f it g Y kw (d + 12) (zd + 1)) (hi : pq_in E p N h u s) (hG : pq_H E h0 f it g Y kw h) (p0 : 0 ≤ zp) (p1 : zp < wk_u Y) (u0 : 1 ≤ u) (u1 : u ≤ 12) (z0 : 0 ≤ zd) (z1 : zd ≤ 5 * (u - 1) + wk_d Y (wk_c Y zp)) : me_E (d + 15) 131 0 [some (.inr (.inr 106)), some (.inl zp), some (.inl zd), none, none, none, none] [] h (pq_Q E p N g h u (fun r => pm_u 0 g E zp r s) s) := by
  obtain ⟨hS, i1, i2, i3, i4, hR⟩ := id hi
  have hu60 := hG.1.1.1
  obtain ⟨e68, -, -, e72, e122, -⟩ := hG.1.2.2.1 zp p0 p1
  obtain ⟨⟨-, -, -, w1, w2⟩, -⟩ := hG.1.1.2.2.1 zp p0 p1
  have wd := (hG.1.1.2.2.2 _ w1 w2).2.1
  have op : mi_in zp := ⟨by omega, by omega⟩
  have od : mi_in zd := ⟨by omega, by omega⟩
  have o72 : mi_in (mi_a h 72 zp.toNat) := mi_inT _
  refine mt_kpyA hS op od (by intros; exfalso; omega) (by intros; exfalso; omega) (by intros; exfalso; omega) (by intros; exfalso; omega) ?_ ?_ (by intros; exfalso; omega)
  · intro b c1 c2 c3 c4
    have n0 : ¬ g 122 zp.toNat = 0 := fun q => by rw [e72, if_pos q] at c4; exact c4 rfl
    rw [if_neg n0] at e72
    refine ⟨⟨by omega, by omega⟩, fun h1 g1 g2 => ?_⟩
    have e := me_nil g2
    subst e
    rw [e72] at o72 ⊢
    refine ⟨_, me_penter (d := d + 12) hS ⟨by omega, by omega⟩ ⟨by decide, by decide⟩ i1 i2 hR, fun w3 h4 hw3 hq3 => ?_⟩
    obtain ⟨t1, t2, t3⟩ := hq3
    have e01 : mi_f h4 13573 = u := (me_f (c := 13573) t2 hS rfl rfl).trans i3
    have F4 : ab_Fr pq_W h1 h4 := t2.wide (fun c hc => ab_swr_ok (by decide) hc)
    have ln : gm_len s = ((gm_T s).length : Int) := rfl
    have hl100 := hR.2.1
    have oo : mi_in (gm_len s) := ⟨by omega, by omega⟩
    -- the end, once it has stopped
    have stp : ∀ zo zm : Int, mi_in zo → mi_in zm → pq_X E p N g h1 u (fun r => pm_u 0 g E zp r s) s h4 → mi_f h4 13571 = 1 → me_E (d + 15) 131 60 [some (.inr (.inr 106)), some (.inl zp), some (.inl zd), some (.inl (g 122 zp.toNat + 4)), some (.inl zo), some (.inl zm), some (.inl (0 : Int))] [] h4 (pq_Q E p N g h1 u (fun r => pm_u 0 g E zp r s) s) := by
      intro zo zm oo' om' hx hs
      refine mt_kpyE t1 op od o72 oo' om' ⟨by decide, by decide⟩ ?_ (by intros; exfalso; omega) (by intros; exfalso; omega)
      intro b c1 h5 s1 s2
      have e := me_nil s2
      subst e
      exact py98 op od o72 oo' om' ⟨by decide, by decide⟩ (fun q => by omega) hx
    by_cases k1 : g 122 zp.toNat = 1
    · -- a many
      have e5 : g 122 zp.toNat + 4 = 5 := by omega
      rw [e5] at t3 o72 stp ⊢
      have eM : ∀ r, pm_u 0 g E zp r s = (gm_c 5 0 s).map (fun t => ((5, zp, gm_len s) :: (2, 0, 0) :: r, gm_d t)) := fun r => by
        unfold pm_u
        rw [if_pos k1]
      rcases t3 with ⟨t3, rfl, t4, t5⟩ | ⟨t, t3, rfl, t4, t5, t6, t7⟩
      · refine mt_kpyD t1 op od o72 ⟨by decide, by decide⟩ (by intros; exfalso; omega) ?_
        intro c5 h5 s1 s2
        have e := me_nil s2
        subst e
        refine stp (-1) 161 ⟨by decide, by decide⟩ ⟨by decide, by decide⟩ ⟨t1, F4, e01, Or.inl ⟨⟨t4, Or.inl t5⟩, fun r _ => pNO_none ?_⟩⟩ t4
        dsimp only
        rw [eM, t3]
        rfl
      · obtain ⟨-, x2, x3, x4, x5⟩ := gm_c_t t3
        obtain ⟨d1, d2, d3, d4⟩ := gm_d_e (t := t)
        have dT : gm_T (gm_d t) = gm_T t := by unfold gm_d; rw [gm_T_mk]
        have lt := (gm_c_len t3).1
        refine mt_kpyD t1 op od o72 oo (by intros; exfalso; omega) ?_
        intro c5 h5 s1 s2
        have e := me_nil s2
        subst e
        refine py60 (d := d) (M := fun r => pm_u 0 g E zp r s) (s := s) hTok hEN hN hV hH hS hWF hG p0 p1 u0 u1 z0 z1 (by omega) 161 0 h5 (gm_d t) (by decide) (by decide) (by rw [d2, x2]; exact hR.2.2.1.1) ⟨t1, t4, t5, e01, (me_f (c := 13579) t2 hS rfl rfl).trans i4, pq_R_D t6 dT d2⟩ F4 (by rw [d3, x4]) (by rw [d4, x5]) ⟨[], by rw [dT, x3], fo_nil, gz_nil, fun i hi2 => ?_⟩ (fun r _ => ?_)
        · rw [t7, if_neg (by omega)]
        · rw [eM, t3]
          exact pRO_refl
    · -- a maybe
      have k2 : g 122 zp.toNat = 2 := by omega
      have e6 : g 122 zp.toNat + 4 = 6 := by omega
      rw [e6] at t3 o72 stp ⊢
      have eM : ∀ r, pm_u 0 g E zp r s = (gm_c 6 (if pm_h E zp s = true then 1 else 0) s).bind (fun t => if pm_h E zp s = true then pm_sg 0 g E zp ((2, 0, 0) :: r) (gm_d t) else some ((2, 0, 0) :: r, gm_d t)) := fun r => by
        unfold pm_u
        rw [if_neg k1, if_pos k2]
      rcases t3 with ⟨t3, rfl, t4, t5⟩ | ⟨t, t3, rfl, t4, t5, t6, t7⟩
      · refine mt_kpyD t1 op od o72 ⟨by decide, by decide⟩ ?_ (by intros; exfalso; omega)
        intro c5 h5 s1 s2
        have e := me_nil s2
        subst e
        refine stp (-1) 1 ⟨by decide, by decide⟩ ⟨by decide, by decide⟩ ⟨t1, F4, e01, Or.inl ⟨⟨t4, Or.inl t5⟩, fun r _ => pNO_none ?_⟩⟩ t4
        have nc : ∀ v, gm_c 6 v s = none := fun v => by
          unfold gm_c at t3 ⊢
          by_cases q : 100 ≤ (gm_T s).length
          · rw [if_pos q]
          · rw [if_neg q] at t3
            cases t3
        dsimp only
        rw [eM, nc]
        rfl
      · obtain ⟨-, x2, x3, x4, x5⟩ := gm_c_t t3
        obtain ⟨d1, d2, d3, d4⟩ := gm_d_e (t := t)
        have dT : gm_T (gm_d t) = gm_T t := by unfold gm_d; rw [gm_T_mk]
        have lt := (gm_c_len t3).1
        have eTd : gm_T (gm_d t) = gm_T s ++ [(6 + 10 * ((gm_T s).length : Int), 0, gm_D s)] := by rw [dT, x3]
        have hRd : pq_R E p N h4 (gm_d t) := pq_R_D t6 dT d2
        have hG4 := pq_H_fr hG F4 hS rfl
        have hFs : gm_F (gm_d t) = gm_F s := d2.trans x2
        have hd : pq_bit (mx_b h4 90 zp.toNat) (mi_f h4 13577) = pm_h E zp s := by
          rw [hG4.2.1.1 zp p0 p1, hRd.2.2.1.2.2.1, hFs]
          rfl
        have lo4 : ∀ i, i < (gm_T s).length → mi_a h4 105 i = mi_a h1 105 i := fun i hi2 => by rw [t7, if_neg (by omega)]
        refine mt_kpyD t1 op od o72 oo ?_ (by intros; exfalso; omega)
        intro c5 h5 s1 s2
        have e := me_nil s2
        subst e
        refine mt_kpyE t1 op od o72 oo ⟨by decide, by decide⟩ ⟨by decide, by decide⟩ (by intros; exfalso; omega) (by intros; exfalso; omega) ?_
        intro b a1 a2 h6 l1 l2
        have e := me_nil l2
        subst e
        refine ⟨_, by rw [ln]; exact me_pgoes (d := d + 12) (s := s) (n := (gm_T s).length) t1 p0 (by omega) lt (by decide) (by decide) hd, fun w h7 hw hq => ?_⟩
        rcases hq with ⟨hh, rfl, q1, q2, q3⟩ | ⟨hh, rfl, rfl⟩
        · refine mt_kpyE2 q1 op od o72 oo ⟨by decide, by decide⟩ ⟨by decide, by decide⟩ ⟨by decide, by decide⟩ (by intro c; exact absurd c (by decide)) ?_
          intro c6 h8 r1 r2
          have e := me_nil r2
          subst e
          -- the state with a 1
          obtain ⟨t', ht'⟩ : ∃ t', gm_c 6 1 s = some t' := by
            unfold gm_c
            rw [if_neg (by omega)]
            exact ⟨_, rfl⟩
          obtain ⟨-, m2, m3, m4, m5⟩ := gm_c_t ht'
          obtain ⟨n1, n2, n3, n4⟩ := gm_d_e (t := t')
          have nT : gm_T (gm_d t') = gm_T s ++ [(6 + 10 * ((gm_T s).length : Int), 1, gm_D s)] := by
            have : gm_T (gm_d t') = gm_T t' := by unfold gm_d; rw [gm_T_mk]
            rw [this, m3]
          have hR8 : pq_R E p N h8 (gm_d t') := by
            refine ⟨?_, ?_, ?_, ?_⟩
            · rw [nT]
              have := hRd.1
              rw [eTd] at this
              exact gq_T_up this (me_f (c := 13056) q2 t1 rfl rfl) (fun i => me_a (k := 103) q2 t1 rfl rfl) q3
            · unfold gm_len
              rw [nT, List.length_append]
              show (((gm_T s).length + 1 : Nat) : Int) ≤ 100
              omega
            · rw [n2, m2, ← hFs]
              exact pq_K_fr hRd.2.2.1 q2 t1 rfl rfl rfl
            · rw [pm_K_of (n2.trans m2)]
              exact hR.2.2.2
          have F8 : ab_Fr pq_W h1 h8 := F4.trans (q2.wide (fun c hc => ab_swr_ok (by decide) hc))
          refine ⟨_, me_ppart (d := d) (s := gm_d t') hTok hEN hV hWF ⟨q1, (me_f (c := 13571) q2 t1 rfl rfl).trans t4, (me_f (c := 13572) q2 t1 rfl rfl).trans t5, (me_f (c := 13573) q2 t1 rfl rfl).trans e01, ((me_f (c := 13579) q2 t1 rfl rfl).trans (me_f (c := 13579) t2 hS rfl rfl)).trans i4, hR8⟩ (pq_H_fr hG4 q2 t1 rfl) p0 p1 u0 u1 z0 z1, fun w h9 hw hq => ?_⟩
          obtain ⟨rfl, v1, v2, v3, v4⟩ := hq
          have hul : ∀ r, wk_ul r = u → wk_ul ((2, 0, 0) :: r) = u := fun r hr => by rw [wk_ul_o, hr, Int.zero_add]
          have eM2 : ∀ r, pm_u 0 g E zp r s = pm_sg 0 g E zp ((2, 0, 0) :: r) (gm_d t') := fun r => by rw [eM, if_pos hh, ht', Option.bind_some, if_pos hh]
          have f8 : ∀ i, mi_a h8 105 i = mi_a h6 105 i := fun i => me_a (k := 105) q2 t1 rfl rfl
          have hx : pq_X E p N g h1 u (fun r => pm_u 0 g E zp r s) s h9 := by
            refine ⟨v1, F8.trans v2, v3, ?_⟩
            rcases v4 with ⟨a, c⟩ | ⟨a, b, b', s2, c, y1, ⟨y2, B, y3, y4, y5, y6⟩, y7⟩
            · refine Or.inl ⟨a, fun r hr => ?_⟩
              dsimp only
              rw [eM2]
              exact c _ (hul r hr)
            · rw [nT] at y3 y5 y6
              rw [n3, m4] at y4
              have l1' : (gm_T s ++ [(6 + 10 * ((gm_T s).length : Int), 1, gm_D s)]).length = (gm_T s).length + 1 := by rw [List.length_append]; rfl
              rw [l1'] at y5 y6
              refine Or.inr ⟨a, b, b', s2, c, by rw [y1, n3, m4], by rw [y2, n4, m5], ⟨_, 1, B, by rw [y3, List.append_assoc]; rfl, y4, y5, fun i hi2 => by rw [y6 i (by omega), f8]; exact lo4 i hi2⟩, fun r hr => ?_⟩
              dsimp only
              rw [eM2]
              exact y7 _ (hul r hr)
          refine mt_kpyF v1 op od o72 oo ⟨by decide, by decide⟩ ⟨by decide, by decide⟩ ?_
          refine ⟨⟨by decide, by decide⟩, fun hA k1' k2' => ?_⟩
          have e := me_nil k2'
          subst e
          refine mt_kpyE v1 op od o72 oo ⟨by decide, by decide⟩ ⟨by decide, by decide⟩ ?_ ?_ (by intros; exfalso; omega)
          · intro b c hB n1 n2
            have e := me_nil n2
            subst e
            exact py98 op od o72 oo ⟨by decide, by decide⟩ ⟨by decide, by decide⟩ (fun _ => rfl) hx
          · intro b c c' hB n1 n2
            have e := me_nil n2
            subst e
            exact py98 op od o72 oo ⟨by decide, by decide⟩ ⟨by decide, by decide⟩ (fun _ => rfl) hx
        · refine mt_kpyE2 t1 op od o72 oo ⟨by decide, by decide⟩ ⟨by decide, by decide⟩ ⟨by decide, by decide⟩ ?_ (by intro c; exact absurd rfl c)
          intro c6 h8 r1 r2
          have e := me_nil r2
          subst e
          refine py98 op od o72 oo ⟨by decide, by decide⟩ ⟨by decide, by decide⟩ (fun _ => rfl) ⟨t1, F4, e01, Or.inr ⟨t4, t5, (me_f (c := 13579) t2 hS rfl rfl).trans i4, gm_d t, hRd, by rw [d3, x4], by rw [d4, x5], ⟨_, 0, [], eTd, fo_nil, gz_nil, lo4⟩, fun r _ => ?_⟩⟩
          dsimp only
          rw [eM, if_neg hh, t3, Option.bind_some, if_neg hh]
          exact pRO_refl
  · intro b c1 c2 c3 c4
    have n0 : g 122 zp.toNat = 0 := by
      by_cases q : g 122 zp.toNat = 0
      · exact q
      · rw [e72, if_neg q] at c4
        omega
    refine ⟨⟨by omega, by omega⟩, fun h1 g1 g2 => ?_⟩
    have e := me_nil g2
    subst e
    refine ⟨_, me_ppart (d := d) hTok hEN hV hWF hi hG p0 p1 u0 u1 z0 z1, fun w h2 hw hq => ?_⟩
    have e := hq.1
    subst e
    refine mt_kpyB hq.2.1 op od o72 ?_
    intro h3 r1 r2
    have e := me_nil r2
    subst e
    have eM : (fun r => pm_u 0 g E zp r s) = fun r => pm_sg 0 g E zp r s := funext fun r => by
      unfold pm_u
      rw [if_neg (by omega), if_neg (by omega)]
    rw [eM]
    exact hq
end PW4
