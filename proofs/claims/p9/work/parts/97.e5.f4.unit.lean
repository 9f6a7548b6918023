/-! the class's growing walk: a unit -/
section CW4
variable {f : Int → Int} {it : Int → Prop} {g : wk_g} {Y : wk_Y} {kw : Int → Bool} {d : Nat}
/-- a value in its row -/
theorem gq_val {h : sm_H} {s : gm_S} {T A : List (Int × Int × Int)} {k v l : Int} (hR : gq_R h s) (e : gm_T s = T ++ (k, v, l) :: A) : mi_a h 104 T.length = v ∧ (T.length : Int) < 100 := by
  obtain ⟨⟨r1, r2⟩, -, -, r4, -⟩ := hR
  have hl : T.length < (gm_T s).length := by rw [e, List.length_append, List.length_cons]; omega
  obtain ⟨l', q, hl', -⟩ := r2 T.length hl
  rw [e, List.getElem?_append_right (Nat.le_refl _), Nat.sub_self] at hl'
  have hl' : some (k, v, l) = some (mi_a h 103 T.length + 10 * q, mi_a h 104 T.length, l') := hl'
  injection hl' with h1
  injection h1 with h2 h3
  injection h3 with h4 h5
  unfold gm_len at r4
  exact ⟨h4.symm, by omega⟩
/-- it is left -/
def gq_X (g : wk_g) (kw : Int → Bool) (h0 : sm_H) (u : Int) (M : List wk_E → Option gm_C) (s : gm_S) (h : sm_H) : Prop := ab_Sh sx_sk h ∧ ab_Fr gq_W h0 h ∧ mi_f h 13701 = u ∧ ((mi_f h 13699 = 1 ∧ mi_f h 13700 = 1 ∧ ∀ r, wk_ul r = u → gm_NO g kw (M r)) ∨ (mi_f h 13699 = 0 ∧ mi_f h 13700 = 0 ∧ ∃ se, gq_R h se ∧ (gm_D se = gm_D s + 1 ∧ gm_P se = gm_P s ∧ ∃ k v B, gm_T se = gm_T s ++ (k, v, gm_D s) :: B ∧ fo (gm_D s + 1) B ∧ gz h ((gm_T s).length + 1) B ∧ ∀ i, i < (gm_T s).length → mi_a h 105 i = mi_a h0 105 i) ∧ ∀ r, wk_ul r = u → gm_RO g kw (M r) ((2, 0, 0) :: r, se)))
/-- a node is left, of what is known of it -/
theorem me_gleavey {hb h : sm_H} {u zo : Int} {M : List wk_E → Option gm_C} {s : gm_S} (oo : mi_in zo) (hz : mi_f h 13699 = 0 → zo = gm_len s) (hx : gq_X g kw hb u M s h) : me_E (d + 2) 147 0 [some (.inr (.inr 107)), some (.inl zo)] [] h (fun w h' => gq_Q g kw hb u M s w h') := by
  obtain ⟨hS, x2, x3, x4⟩ := hx
  rcases x4 with ⟨a, b, c⟩ | ⟨a, b, se, c1, ⟨c2, c3, k, v, B, c4, c5, c6, c7⟩, c8⟩
  · refine (me_gleave (d := d) hS oo).imp (fun w h' hq => ?_)
    obtain ⟨rfl, v1, v2⟩ := hq
    exact ⟨rfl, v1, x2.trans (v2.wide (fun c hc => ab_swr_ok (by decide) hc)), (me_f (c := 13701) v2 hS rfl rfl).trans x3, Or.inl ⟨(me_f (c := 13699) v2 hS rfl rfl).trans a, (me_f (c := 13700) v2 hS rfl rfl).trans b, c⟩⟩
  · have e := hz a
    subst e
    have l1 := c1.1.1
    have l2 := c1.2.2.2.1
    unfold gm_len at l2
    have ln : gm_len s = ((gm_T s).length : Int) := rfl
    have lB : (gm_T se).length = (gm_T s).length + 1 + B.length := by rw [c4, List.length_append, List.length_cons]; omega
    rw [ln]
    refine (me_gleavex (d := d) (n := (gm_T s).length) hS (by omega) (by omega) (by omega)).imp (fun w h' hq => ?_)
    obtain ⟨rfl, v1, v2, v3⟩ := hq
    refine ⟨rfl, v1, x2.trans (v2.wide (fun c hc => ab_swr_ok (by decide) hc)), (me_f (c := 13701) v2 hS rfl rfl).trans x3, Or.inr ⟨(me_f (c := 13699) v2 hS rfl rfl).trans a, (me_f (c := 13700) v2 hS rfl rfl).trans b, (gm_X se, gm_F se, gm_T se, gm_D se - 1, gm_P se), gq_R_D (gq_R_fr c1 v2 hS rfl rfl rfl) (gm_T_mk _ _ _ _ _) (gm_X_mk _ _ _ _ _) (gm_F_mk _ _ _ _ _), ⟨by rw [gm_D_mk]; omega, pq_close (h := h) (by rw [gm_P_mk, c3]) (gm_T_mk _ _ _ _ _) c4 c5 c6 c7 (fun i => ?_)⟩, fun r hr => RO_step (e := (2, 0, 0)) (r := r) (s := se) (c8 r hr) (by rw [gm_st_2]; exact RO_refl)⟩⟩
    rw [v3, l1, lB]
    by_cases ck : i = (gm_T s).length
    · rw [if_pos ck, if_pos ck]
      omega
    · rw [if_neg ck, if_neg ck]
theorem gy98 {h0 h : sm_H} {u zp zd zr zo zm zt : Int} {M : List wk_E → Option gm_C} {s : gm_S} (op : mi_in zp) (od : mi_in zd) (or_ : mi_in zr) (oo : mi_in zo) (om : mi_in zm) (ot : mi_in zt) (hz : mi_f h 13699 = 0 → zo = gm_len s) (hx : gq_X g kw h0 u M s h) : me_E (d + 5) 131 98 [some (.inr (.inr 107)), some (.inl zp), some (.inl zd), some (.inl zr), some (.inl zo), some (.inl zm), some (.inl zt)] [] h (gq_Q g kw h0 u M s) := by
  refine mt_kgyG hx.1 op od or_ oo om ot ?_
  intro h1 g1 g2
  have e := me_nil g2
  subst e
  refine ⟨_, me_gleavey (d := d + 2) oo hz hx, fun w h2 hw hq => ?_⟩
  have e := hq.1
  subst e
  refine mt_kgyH hq.2.1 op od or_ oo om ot ?_
  intro h3 r1 r2
  have e := me_nil r2
  subst e
  exact hq
/-- the turns of a many -/
theorem gy60 {h0 : sm_H} {s : gm_S} {u zp zd c : Int} {M : List wk_E → Option gm_C} (hS0 : ab_Sh sx_sk h0) (hWF : gq_F f it g Y kw (d + 2) (zd + 1)) (hG0 : cg_G f it g Y kw h0) (p0 : 0 ≤ zp) (p1 : zp < wk_u Y) (u0 : 1 ≤ u) (u1 : u ≤ 12) (z0 : 0 ≤ zd) (z1 : zd ≤ 5 * (u - 1) + wk_d Y (wk_c Y zp)) (z2 : zd ≤ 1000) (c1 : c ≤ 2) : ∀ (N : Nat) (zt : Int) (h : sm_H) (sj : gm_S), c - zt = N → 0 ≤ zt → gq_in h u sj → ab_Fr gq_W h0 h → gm_D sj = gm_D s + 1 → gm_P sj = gm_P s → (∃ A, gm_T sj = gm_T s ++ (5 + 10 * ((gm_T s).length : Int), c, gm_D s) :: A ∧ fo (gm_D s + 1) A ∧ gz h ((gm_T s).length + 1) A ∧ ∀ i, i < (gm_T s).length → mi_a h 105 i = mi_a h0 105 i) → (∀ r, wk_ul r = u → gm_RO g kw (M r) ((5, zp, c - zt) :: (2, 0, 0) :: r, sj)) → me_E (d + 5) 131 60 [some (.inr (.inr 107)), some (.inl zp), some (.inl zd), some (.inl (5 : Int)), some (.inl (gm_len s)), some (.inl (161 : Int)), some (.inl zt)] [] h (gq_Q g kw h0 u M s) := by
  have hu60 := hG0.1.1
  have op : mi_in zp := ⟨by omega, by omega⟩
  have od : mi_in zd := ⟨by omega, by omega⟩
  intro N
  induction N with
  | zero =>
    intro zt h sj hN t0 hi hF eD eP eT hM
    obtain ⟨A, eA, fA, zA, lo⟩ := eT
    obtain ⟨hS, i1, i2, i3, hR⟩ := id hi
    obtain ⟨v1, v2⟩ := gq_val hR eA
    have ot : mi_in zt := ⟨by omega, by omega⟩
    have ln : gm_len s = ((gm_T s).length : Int) := rfl
    have oo : mi_in (gm_len s) := ⟨by omega, by omega⟩
    have hx : gq_X g kw h0 u M s h := ⟨hS, hF, i3, Or.inr ⟨i1, i2, sj, hR, ⟨eD, eP, _, _, A, eA, fA, zA, lo⟩, fun r hr => RO_step (e := (5, zp, c - zt)) (r := (2, 0, 0) :: r) (s := sj) (hM r hr) (by
      rw [gm_st_5]
      unfold gm_ag
      rw [if_neg (by omega)]
      exact RO_refl)⟩⟩
    have ev : mi_a h 104 (Int.toNat (gm_len s)) = c := by
      have : Int.toNat (gm_len s) = (gm_T s).length := by omega
      rw [this]
      exact v1
    refine mt_kgyE hS op od ⟨by decide, by decide⟩ oo ⟨by decide, by decide⟩ ot (by intros; exfalso; omega) (by intros; exfalso; omega) (by intros; exfalso; omega) (by intros; exfalso; omega) (by intros; exfalso; omega) (by intros; exfalso; omega) ?_ ?_
    · intro b c1 c2 c3 c4 c5
      refine ⟨⟨by omega, by omega⟩, fun h1 g1 g2 => ?_⟩
      have e := me_nil g2
      subst e
      exact gy98 op od ⟨by decide, by decide⟩ oo ⟨by decide, by decide⟩ ot (fun _ => rfl) hx
    · intro b c1 c2 c3 c4 c5
      rw [ev] at c5
      exfalso; omega
  | succ N ih =>
    intro zt h sj hN t0 hi hF eD eP eT hM
    obtain ⟨A, eA, fA, zA, lo⟩ := id eT
    obtain ⟨hS, i1, i2, i3, hR⟩ := id hi
    obtain ⟨v1, v2⟩ := gq_val hR eA
    have ot : mi_in zt := ⟨by omega, by omega⟩
    have ln : gm_len s = ((gm_T s).length : Int) := rfl
    have oo : mi_in (gm_len s) := ⟨by omega, by omega⟩
    have ev : mi_a h 104 (Int.toNat (gm_len s)) = c := by
      have : Int.toNat (gm_len s) = (gm_T s).length := by omega
      rw [this]
      exact v1
    have hst : ∀ r, gm_st g kw (5, zp, c - zt) ((2, 0, 0) :: r) sj = gm_sg g kw zp ((5, zp, c - (zt + 1)) :: (2, 0, 0) :: r) sj := fun r => by
      rw [gm_st_5]
      unfold gm_ag
      rw [if_pos (by omega)]
      have e : c - zt - 1 = c - (zt + 1) := by omega
      rw [e]
    have hul : ∀ r, wk_ul r = u → wk_ul ((5, zp, c - (zt + 1)) :: (2, 0, 0) :: r) = u := fun r hr => by rw [wk_ul_c (by decide), wk_ul_o, hr, Int.zero_add]
    refine mt_kgyE hS op od ⟨by decide, by decide⟩ oo ⟨by decide, by decide⟩ ot (by intros; exfalso; omega) (by intros; exfalso; omega) (by intros; exfalso; omega) (by intros; exfalso; omega) (by intros; exfalso; omega) (by intros; exfalso; omega) ?_ ?_
    · intro b c1 c2 c3 c4 c5
      rw [ev] at c5
      exfalso; omega
    · intro b c1 c2 c3 c4 c5
      refine ⟨⟨by omega, by omega⟩, fun h1 g1 g2 => ?_⟩
      have e := me_nil g2
      subst e
      refine ⟨_, me_gpart (d := d) hWF hi (cg_G_fr hG0 hF hS0 rfl) p0 p1 u0 u1 z0 z1, fun w h2 hw hq => ?_⟩
      obtain ⟨rfl, q1, q2, q3, q4⟩ := hq
      refine mt_kgyF q1 op od ⟨by decide, by decide⟩ oo ⟨by decide, by decide⟩ ot ?_
      refine ⟨⟨by omega, by omega⟩, fun h3 r1 r2 => ?_⟩
      have e := me_nil r2
      subst e
      rcases q4 with ⟨q4, q5, q6⟩ | ⟨q4, q5, s2, q6, ⟨q7, q8, B, q9⟩, q10⟩
      · have hx : gq_X g kw h0 u M s h3 := ⟨q1, hF.trans q2, q3, Or.inl ⟨q4, q5, fun r hr => NO_step (e := (5, zp, c - zt)) (r := (2, 0, 0) :: r) (s := sj) (hM r hr) (by rw [hst]; exact q6 _ (hul r hr))⟩⟩
        refine mt_kgyE q1 op od ⟨by decide, by decide⟩ oo ⟨by decide, by decide⟩ ⟨by omega, by omega⟩ ?_ (by intros; exfalso; omega) (by intros; exfalso; omega) (by intros; exfalso; omega) (by intros; exfalso; omega) (by intros; exfalso; omega) (by intros; exfalso; omega) (by intros; exfalso; omega)
        intro b c1 h4 s1 s2
        have e := me_nil s2
        subst e
        exact gy98 op od ⟨by decide, by decide⟩ oo ⟨by decide, by decide⟩ ⟨by omega, by omega⟩ (fun _ => rfl) hx
      · obtain ⟨w2, w3, w4, w5⟩ := q9
        rw [eA] at w2 w4 w5
        rw [eD] at w3
        have l1' : (gm_T s ++ (5 + 10 * ((gm_T s).length : Int), c, gm_D s) :: A).length = (gm_T s).length + 1 + A.length := by rw [List.length_append, List.length_cons]; omega
        rw [l1'] at w4 w5
        exact ih (zt + 1) h3 s2 (by omega) (by omega) ⟨q1, q4, q5, q3, q6⟩ (hF.trans q2) (by omega) (q8.trans eP) ⟨A ++ B, by rw [w2, List.append_assoc]; rfl, fo_app fA w3, gz_app fA w3 (gz_eq zA (fun i i1 i2 => w5 i (by omega))) w4, fun i hi2 => (w5 i (by omega)).trans (lo i hi2)⟩ (fun r hr => RO_step (e := (5, zp, c - zt)) (r := (2, 0, 0) :: r) (s := sj) (hM r hr) (by rw [hst]; exact q10 _ (hul r hr)))
theorem me_gunit0 {h : sm_H} {zp zd : Int} (hS : ab_Sh sx_sk h) (h1 : mi_f h 13699 = 1) (op : mi_in zp) (od : mi_in zd) : me_E (d + 5) 131 0 [some (.inr (.inr 107)), some (.inl zp), some (.inl zd), none, none, none, none] [] h (fun w h' => w = none ∧ h' = h) := by
  refine mt_kgyA hS op od (by intros; exfalso; omega) ?_ (by intros; exfalso; omega) ?_ (by intros; exfalso; omega) (by intros; exfalso; omega) ?_
  · intro b c1 c2 h2 g1 g2
    exact ⟨rfl, me_nil g2⟩
  · intro b c1 c2 c3 h2 g1 g2
    exact ⟨rfl, me_nil g2⟩
  · intro b c1 c2 c3
    exact ⟨⟨by omega, by omega⟩, fun h2 g1 g2 => ⟨rfl, me_nil g2⟩⟩
theorem me_gunit {h : sm_H} {s : gm_S} {u zp zd : Int} (hWF : gq_F f it g Y kw (d + 2) (zd + 1)) (hi : gq_in h u s) (hG : cg_G f it g Y kw h) (p0 : 0 ≤ zp) (p1 : zp < wk_u Y) (u0 : 1 ≤ u) (u1 : u ≤ 12) (z0 : 0 ≤ zd) (z1 : zd ≤ 5 * (u - 1) + wk_d Y (wk_c Y zp)) : me_E (d + 5) 131 0 [some (.inr (.inr 107)), some (.inl zp), some (.inl zd), none, none, none, none] [] h (gq_Q g kw h u (fun r => gm_u g kw zp r s) s) := by
  obtain ⟨hS, i1, i2, i3, hR⟩ := id hi
  have hu60 := hG.1.1
  obtain ⟨e68, -, -, e72, e122, -⟩ := hG.2.2.1 zp p0 p1
  obtain ⟨⟨-, -, -, w1, w2⟩, -⟩ := hG.1.2.2.1 zp p0 p1
  have wd := (hG.1.2.2.2 _ w1 w2).2.1
  have op : mi_in zp := ⟨by omega, by omega⟩
  have od : mi_in zd := ⟨by omega, by omega⟩
  have o72 : mi_in (mi_a h 72 zp.toNat) := mi_inT _
  refine mt_kgyA hS op od (by intros; exfalso; omega) (by intros; exfalso; omega) (by intros; exfalso; omega) (by intros; exfalso; omega) ?_ ?_ (by intros; exfalso; omega)
  · intro b c1 c2 c3 c4
    have n0 : ¬ g 122 zp.toNat = 0 := fun q => by rw [e72, if_pos q] at c4; exact c4 rfl
    rw [if_neg n0] at e72
    -- which kind, how many at most
    obtain ⟨zn, hz, hn⟩ : ∃ zn : Int, ((g 122 zp.toNat + 4 = 5 ∧ zn = 3) ∨ (g 122 zp.toNat + 4 = 6 ∧ zn = 2)) ∧ 0 < zn ∧ zn ≤ 3 := by
      by_cases q : g 122 zp.toNat = 1
      · exact ⟨3, Or.inl ⟨by omega, rfl⟩, by decide, by decide⟩
      · exact ⟨2, Or.inr ⟨by omega, rfl⟩, by decide, by decide⟩
    have cb := gm_n_b gm_vbt zn hn.1 (by omega) s
    refine ⟨⟨by omega, by omega⟩, fun h1 g1 g2 => ?_⟩
    have e := me_nil g2
    subst e
    rw [e72] at o72 ⊢
    refine ⟨_, me_gtimes (d := d + 2) hS hR hz, fun w h2 hw hq => ?_⟩
    obtain ⟨q1, q2, q3, rfl⟩ := hq
    obtain ⟨y1, y2, y3, y4⟩ := gm_y_e (s := s)
    have yT : gm_T (gm_y s) = gm_T s := by unfold gm_y; rw [gm_T_mk]
    refine mt_kgyC q1 op od o72 (hw _ rfl) o72 ?_
    intro h3 r1 r2
    have e := me_nil r2
    subst e
    refine ⟨_, me_genter (d := d + 2) q1 ⟨by omega, by omega⟩ (hw _ rfl) ((me_f (c := 13699) q2 hS rfl rfl).trans i1) ((me_f (c := 13700) q2 hS rfl rfl).trans i2) q3, fun w3 h4 hw3 hq3 => ?_⟩
    obtain ⟨t1, t2, t3⟩ := hq3
    have e01 : mi_f h4 13701 = u := ((me_f (c := 13701) t2 q1 rfl rfl).trans (me_f (c := 13701) q2 hS rfl rfl)).trans i3
    have F4 : ab_Fr gq_W h1 h4 := (q2.wide (fun c hc => ab_swr_ok (by decide) hc)).trans (t2.wide (fun c hc => ab_swr_ok (by decide) hc))
    have ln : gm_len s = ((gm_T s).length : Int) := rfl
    have hl100 := q3.2.2.2.1
    rw [y1] at hl100
    have oo : mi_in (gm_len s) := ⟨by omega, by omega⟩
    -- the end, once it has stopped
    have stp : ∀ zo zm : Int, mi_in zo → mi_in zm → gq_X g kw h1 u (fun r => gm_u g kw zp r s) s h4 → mi_f h4 13699 = 1 → me_E (d + 5) 131 60 [some (.inr (.inr 107)), some (.inl zp), some (.inl zd), some (.inl (g 122 zp.toNat + 4)), some (.inl zo), some (.inl zm), some (.inl (0 : Int))] [] h4 (gq_Q g kw h1 u (fun r => gm_u g kw zp r s) s) := by
      intro zo zm oo' om' hx hs
      refine mt_kgyE t1 op od o72 oo' om' ⟨by decide, by decide⟩ ?_ (by intros; exfalso; omega) (by intros; exfalso; omega) (by intros; exfalso; omega) (by intros; exfalso; omega) (by intros; exfalso; omega) (by intros; exfalso; omega) (by intros; exfalso; omega)
      intro b c1 h5 s1 s2
      have e := me_nil s2
      subst e
      exact gy98 op od o72 oo' om' ⟨by decide, by decide⟩ (fun q => by omega) hx
    by_cases k1 : g 122 zp.toNat = 1
    · -- a many
      have ezn : zn = 3 := by omega
      subst ezn
      have e5 : g 122 zp.toNat + 4 = 5 := by omega
      rw [e5] at t3 o72 stp ⊢
      have eM : ∀ r, gm_u g kw zp r s = (gm_c 5 (gm_n 3 s) (gm_y s)).map (fun t => ((5, zp, gm_n 3 s) :: (2, 0, 0) :: r, gm_d t)) := fun r => by
        unfold gm_u
        rw [if_pos k1]
      rcases t3 with ⟨t3, rfl, t4, t5⟩ | ⟨t, t3, rfl, t4, t5, t6, t7⟩
      · refine mt_kgyD t1 op od o72 ⟨by decide, by decide⟩ (by intros; exfalso; omega) ?_
        intro c5 h5 s1 s2
        have e := me_nil s2
        subst e
        refine stp (-1) 161 ⟨by decide, by decide⟩ ⟨by decide, by decide⟩ ⟨t1, F4, e01, Or.inl ⟨t4, t5, fun r _ => Or.inl ?_⟩⟩ t4
        dsimp only
        rw [eM, t3]
        rfl
      · obtain ⟨x1, x2, x3, x4, x5⟩ := gm_c_t t3
        obtain ⟨d1, d2, d3, d4⟩ := gm_d_e (t := t)
        have dT : gm_T (gm_d t) = gm_T t := by unfold gm_d; rw [gm_T_mk]
        have dX : gm_X (gm_d t) = gm_X t := by unfold gm_d; rw [gm_X_mk]
        rw [y1] at hw3 ⊢
        refine mt_kgyD t1 op od o72 oo (by intros; exfalso; omega) ?_
        intro c5 h5 s1 s2
        have e := me_nil s2
        subst e
        have key := gy60 (d := d) (M := fun r => gm_u g kw zp r s) (s := s) hS hWF hG p0 p1 u0 u1 z0 z1 (by omega) (c := gm_n 3 s) (by omega) (gm_n 3 s).toNat 0 h5 (gm_d t) (by omega) (by decide) ⟨t1, t4, t5, e01, gq_R_D t6 dT dX d2⟩ F4 (by omega) (by rw [d4, x5, y4]) ⟨[], by rw [dT, x3, yT, y3], fo_nil, gz_nil, fun i hi2 => by rw [t7, yT, if_neg (by omega), me_a (k := 105) q2 hS rfl rfl]⟩ (fun r _ => by
          rw [eM, t3, Int.sub_zero]
          exact RO_refl)
        exact key
    · -- a maybe
      have k2 : g 122 zp.toNat = 2 := by omega
      have ezn : zn = 2 := by omega
      subst ezn
      have e6 : g 122 zp.toNat + 4 = 6 := by omega
      rw [e6] at t3 o72 stp ⊢
      have eM : ∀ r, gm_u g kw zp r s = (gm_c 6 (gm_n 2 s) (gm_y s)).bind (fun t => if 0 < gm_n 2 s then gm_sg g kw zp ((2, 0, 0) :: r) (gm_d t) else some ((2, 0, 0) :: r, gm_d t)) := fun r => by
        unfold gm_u
        rw [if_neg k1, if_pos k2]
      rcases t3 with ⟨t3, rfl, t4, t5⟩ | ⟨t, t3, rfl, t4, t5, t6, t7⟩
      · refine mt_kgyD t1 op od o72 ⟨by decide, by decide⟩ ?_ (by intros; exfalso; omega)
        intro c5 h5 s1 s2
        have e := me_nil s2
        subst e
        refine stp (-1) 1 ⟨by decide, by decide⟩ ⟨by decide, by decide⟩ ⟨t1, F4, e01, Or.inl ⟨t4, t5, fun r _ => Or.inl ?_⟩⟩ t4
        dsimp only
        rw [eM, t3]
        rfl
      · obtain ⟨x1, x2, x3, x4, x5⟩ := gm_c_t t3
        obtain ⟨d1, d2, d3, d4⟩ := gm_d_e (t := t)
        have dT : gm_T (gm_d t) = gm_T t := by unfold gm_d; rw [gm_T_mk]
        have dX : gm_X (gm_d t) = gm_X t := by unfold gm_d; rw [gm_X_mk]
        have eTd : gm_T (gm_d t) = gm_T s ++ [(6 + 10 * ((gm_T s).length : Int), gm_n 2 s, gm_D s)] := by rw [dT, x3, yT, y3]
        have hRd : gq_R h4 (gm_d t) := gq_R_D t6 dT dX d2
        have lo4 : ∀ i, i < (gm_T s).length → mi_a h4 105 i = mi_a h1 105 i := fun i hi2 => by rw [t7, yT, if_neg (by omega), me_a (k := 105) q2 hS rfl rfl]
        obtain ⟨v1, v2⟩ := gq_val hRd eTd
        have ev : mi_a h4 104 (Int.toNat (gm_len s)) = gm_n 2 s := by
          have : Int.toNat (gm_len s) = (gm_T s).length := by omega
          rw [this]
          exact v1
        rw [y1] at hw3 ⊢
        refine mt_kgyD t1 op od o72 oo ?_ (by intros; exfalso; omega)
        intro c5 h5 s1 s2
        have e := me_nil s2
        subst e
        refine mt_kgyE t1 op od o72 oo ⟨by decide, by decide⟩ ⟨by decide, by decide⟩ (by intros; exfalso; omega) (by intros; exfalso; omega) (by intros; exfalso; omega) (by intros; exfalso; omega) (by intros; exfalso; omega) (by intros; exfalso; omega) ?_ ?_
        · intro b a1 a2 a3 a4 a5
          rw [ev] at a5
          refine ⟨⟨by omega, by omega⟩, fun h6 l1 l2 => ?_⟩
          have e := me_nil l2
          subst e
          refine gy98 op od o72 oo ⟨by decide, by decide⟩ ⟨by decide, by decide⟩ (fun _ => rfl) ⟨t1, F4, e01, Or.inr ⟨t4, t5, gm_d t, hRd, ⟨by omega, by rw [d4, x5, y4], _, _, [], eTd, fo_nil, gz_nil, lo4⟩, fun r _ => ?_⟩⟩
          dsimp only
          rw [eM, t3, Option.bind_some, if_neg (by omega)]
          exact RO_refl
        · intro b a1 a2 a3 a4 a5
          rw [ev] at a5
          refine ⟨⟨by omega, by omega⟩, fun h6 l1 l2 => ?_⟩
          have e := me_nil l2
          subst e
          refine ⟨_, me_gpart (d := d) (s := gm_d t) hWF ⟨t1, t4, t5, e01, hRd⟩ (cg_G_fr hG F4 hS rfl) p0 p1 u0 u1 z0 z1, fun w h7 hw hq => ?_⟩
          obtain ⟨rfl, q1', q2', q3', q4'⟩ := hq
          have hul : ∀ r, wk_ul r = u → wk_ul ((2, 0, 0) :: r) = u := fun r hr => by rw [wk_ul_o, hr, Int.zero_add]
          have eM2 : ∀ r, gm_u g kw zp r s = gm_sg g kw zp ((2, 0, 0) :: r) (gm_d t) := fun r => by rw [eM, t3, Option.bind_some, if_pos (by omega)]
          have hx : gq_X g kw h1 u (fun r => gm_u g kw zp r s) s h7 := by
            refine ⟨q1', F4.trans q2', q3', ?_⟩
            rcases q4' with ⟨a, b, c⟩ | ⟨a, b, s2, c, ⟨m1, m2, B, m3⟩, m4⟩
            · refine Or.inl ⟨a, b, fun r hr => ?_⟩
              dsimp only
              rw [eM2]
              exact c _ (hul r hr)
            · obtain ⟨w2, w3, w4, w5⟩ := m3
              rw [eTd] at w2 w4 w5
              rw [d3, x4, y3] at w3
              have l1' : (gm_T s ++ [(6 + 10 * ((gm_T s).length : Int), gm_n 2 s, gm_D s)]).length = (gm_T s).length + 1 := by rw [List.length_append]; rfl
              rw [l1'] at w4 w5
              refine Or.inr ⟨a, b, s2, c, ⟨by omega, by rw [m2, d4, x5, y4], _, _, B, by rw [w2, List.append_assoc]; rfl, w3, w4, fun i hi2 => (w5 i (by omega)).trans (lo4 i hi2)⟩, fun r hr => ?_⟩
              dsimp only
              rw [eM2]
              exact m4 _ (hul r hr)
          refine mt_kgyF q1' op od o72 oo ⟨by decide, by decide⟩ ⟨by decide, by decide⟩ ?_
          refine ⟨⟨by decide, by decide⟩, fun h8 k1' k2' => ?_⟩
          have e := me_nil k2'
          subst e
          refine mt_kgyE q1' op od o72 oo ⟨by decide, by decide⟩ ⟨by decide, by decide⟩ ?_ ?_ (by intros; exfalso; omega) (by intros; exfalso; omega) (by intros; exfalso; omega) (by intros; exfalso; omega) (by intros; exfalso; omega) (by intros; exfalso; omega)
          · intro b c h9 n1 n2
            have e := me_nil n2
            subst e
            exact gy98 op od o72 oo ⟨by decide, by decide⟩ ⟨by decide, by decide⟩ (fun _ => rfl) hx
          · intro b c c' h9 n1 n2
            have e := me_nil n2
            subst e
            exact gy98 op od o72 oo ⟨by decide, by decide⟩ ⟨by decide, by decide⟩ (fun _ => rfl) hx
  · intro b c1 c2 c3 c4
    have n0 : g 122 zp.toNat = 0 := by
      by_cases q : g 122 zp.toNat = 0
      · exact q
      · rw [e72, if_neg q] at c4
        omega
    refine ⟨⟨by omega, by omega⟩, fun h1 g1 g2 => ?_⟩
    have e := me_nil g2
    subst e
    refine ⟨_, me_gpart (d := d) hWF hi hG p0 p1 u0 u1 z0 z1, fun w h2 hw hq => ?_⟩
    have e := hq.1
    subst e
    refine mt_kgyB hq.2.1 op od o72 ?_
    intro h3 r1 r2
    have e := me_nil r2
    subst e
    have eM : (fun r => gm_u g kw zp r s) = fun r => gm_sg g kw zp r s := funext fun r => by
      unfold gm_u
      rw [if_neg (by omega), if_neg (by omega)]
    rw [eM]
    exact hq
end CW4
