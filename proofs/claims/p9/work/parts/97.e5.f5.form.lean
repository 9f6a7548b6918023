/-! the class's growing walk: a form, and so all of it -/
section CW5
variable {f : Int → Int} {it : Int → Prop} {g : wk_g} {Y : wk_Y} {kw : Int → Bool} {d : Nat}
/-- what is done at the end of a form -/
def gq_Z (g : wk_g) (kw : Int → Bool) (h0 : sm_H) (u : Int) (M : List wk_E → Option gm_C) (s : gm_S) (zo : Int) (h : sm_H) : Prop := (mi_f h 13699 = 1 ∧ ab_Sh sx_sk h ∧ ab_Fr gq_W h0 h ∧ mi_f h 13701 = u ∧ mi_f h 13700 = 1 ∧ ∀ r, wk_ul r = u → gm_NO g kw (M r)) ∨ (zo = -1 ∧ gq_Q g kw h0 u M s none h) ∨ (zo ≠ -1 ∧ zo = gm_len s ∧ gq_X g kw h0 u M s h)
theorem gw226 {h0 h : sm_H} {u F zd zi zw zo zp zn : Int} {q8 q9 qa : Option mi_V} {M : List wk_E → Option gm_C} {s : gm_S} (of : mi_in (f F)) (od : mi_in zd) (oi : mi_in zi) (ow : mi_in zw) (oo : mi_in zo) (op : mi_in zp) (on : mi_in zn) (o8 : ∀ v, q8 = some v → mi_ok v) (o9 : ∀ v, q9 = some v → mi_ok v) (oa : ∀ v, qa = some v → mi_ok v) (hz : gq_Z g kw h0 u M s zo h) : me_E (d + 6) 120 226 [some (.inr (.inr 107)), some (.inl (f F)), some (.inl zd), some (.inl zi), some (.inl zw), some (.inl zo), some (.inl zp), some (.inl zn), q8, q9, qa] [] h (gq_Q g kw h0 u M s) := by
  have hS : ab_Sh sx_sk h := by
    rcases hz with hz | hz | hz
    · exact hz.2.1
    · exact hz.2.2.1
    · exact hz.2.2.1
  refine mt_kgwL hS of od oi ow oo op on o8 o9 oa ?_ ?_
  · intro c h1 g1 g2
    have e := me_nil g2
    subst e
    rcases hz with ⟨z1, z2, z3, z4, z5, z6⟩ | hz | hz
    · exact ⟨rfl, z2, z3, z4, Or.inl ⟨z1, z5, z6⟩⟩
    · exact hz.2
    · exact absurd c hz.1
  · intro c h1 g1 g2
    have e := me_nil g2
    subst e
    have hx : gq_X g kw h0 u M s h1 ∧ (mi_f h1 13699 = 0 → zo = gm_len s) := by
      rcases hz with ⟨z1, z2, z3, z4, z5, z6⟩ | hz | hz
      · exact ⟨⟨z2, z3, z4, Or.inl ⟨z1, z5, z6⟩⟩, fun q => by omega⟩
      · exact absurd hz.1 c
      · exact ⟨hz.2.2, fun _ => hz.2.1⟩
    refine ⟨_, me_gleavey (d := d + 3) oo hx.2 hx.1, fun w h2 hw hq => ?_⟩
    have e := hq.1
    subst e
    refine mt_kgwM hq.2.1 of od oi ow oo op on o8 o9 oa ?_
    intro h3 r1 r2
    have e := me_nil r2
    subst e
    exact hq
/-- once it has stopped -/
theorem gw104s {h0 h : sm_H} {u F zd zi zw zo zp zn : Int} {q8 q9 qa : Option mi_V} {M : List wk_E → Option gm_C} {s : gm_S} (of : mi_in (f F)) (od : mi_in zd) (oi : mi_in zi) (ow : mi_in zw) (oo : mi_in zo) (op : mi_in zp) (on : mi_in zn) (o8 : ∀ v, q8 = some v → mi_ok v) (o9 : ∀ v, q9 = some v → mi_ok v) (oa : ∀ v, qa = some v → mi_ok v) (h1 : mi_f h 13699 = 1) (hS : ab_Sh sx_sk h) (hz : gq_Z g kw h0 u M s zo h) : me_E (d + 6) 120 104 [some (.inr (.inr 107)), some (.inl (f F)), some (.inl zd), some (.inl zi), some (.inl zw), some (.inl zo), some (.inl zp), some (.inl zn), q8, q9, qa] [] h (gq_Q g kw h0 u M s) := by
  refine mt_kgwG hS of od oi ow oo op on o8 o9 oa ?_ (by intros; exfalso; omega) (by intros; exfalso; omega) (by intros; exfalso; omega) (by intros; exfalso; omega) (by intros; exfalso; omega) (by intros; exfalso; omega)
  intro b c h2 g1 g2
  have e := me_nil g2
  subst e
  exact gw226 of od oi ow oo op on o8 o9 oa hz
theorem gw206s {h0 h : sm_H} {u F zd zi zw zo zp zn zl : Int} {q9 qa : Option mi_V} {M : List wk_E → Option gm_C} {s : gm_S} (of : mi_in (f F)) (od : mi_in zd) (oi : mi_in zi) (ow : mi_in zw) (oo : mi_in zo) (op : mi_in zp) (n0 : 0 ≤ zn) (n1 : zn ≤ 60) (ol : mi_in zl) (o9 : ∀ v, q9 = some v → mi_ok v) (oa : ∀ v, qa = some v → mi_ok v) (h1 : mi_f h 13699 = 1) (hS : ab_Sh sx_sk h) (hz : gq_Z g kw h0 u M s zo h) : me_E (d + 6) 120 206 [some (.inr (.inr 107)), some (.inl (f F)), some (.inl zd), some (.inl zi), some (.inl zw), some (.inl zo), some (.inl zp), some (.inl zn), some (.inl zl), q9, qa] [] h (gq_Q g kw h0 u M s) := by
  have on : mi_in zn := ⟨by omega, by omega⟩
  have on1 : mi_in (zn + 1) := ⟨by omega, by omega⟩
  have o8 : ∀ v, some (Sum.inl zl : mi_V) = some v → mi_ok v := fun v e => by cases e; exact ol
  refine mt_kgwH hS of od oi ow oo op on ol o9 oa ?_ ?_ ?_
  · intro c
    refine ⟨⟨by omega, by omega⟩, fun h2 g1 g2 => ?_⟩
    have e := me_nil g2
    subst e
    exact gw104s of od oi ow oo ⟨by decide, by decide⟩ on1 o8 o9 oa h1 hS hz
  · intro c1 c2
    refine ⟨⟨by omega, by omega⟩, fun h2 g1 g2 => ?_⟩
    have e := me_nil g2
    subst e
    exact gw104s of od oi ow oo ⟨by decide, by decide⟩ on1 o8 o9 oa h1 hS hz
  · intro c1 c2
    refine ⟨⟨⟨by omega, by omega⟩, by omega, by omega⟩, fun h2 g1 g2 => ?_⟩
    have e := me_nil g2
    subst e
    exact gw104s of od oi ow oo (mi_inT _) on1 o8 o9 oa h1 hS hz
theorem gm_rot_pre {T A B : List (Int × Int × Int)} : gm_rot T.length (T ++ A).length (T ++ A ++ B) = T ++ (B ++ A) := by
  unfold gm_rot
  rw [if_pos ⟨by rw [List.length_append]; omega, by rw [List.length_append, List.length_append, List.length_append]; omega⟩]
  rw [List.drop_left, List.append_assoc T A B, List.take_left, ← List.append_assoc T A B, List.take_left, List.drop_left, List.append_assoc]
theorem gw104 {h0 hm : sm_H} {s sb : gm_S} {u F zd zi zw zo : Int} {M : List wk_E → Option gm_C} {rest : List wk_E → List wk_E} (hS0 : ab_Sh sx_sk h0) (hWF : gq_F f it g Y kw (d + 2) (zd + 1)) (hG0 : cg_G f it g Y kw h0) (F0 : 0 ≤ F) (F1 : F < wk_f Y) (u0 : 1 ≤ u) (u1 : u ≤ 12) (z0 : 0 ≤ zd) (z1 : zd ≤ 5 * (u - 1) + wk_d Y F) (oi : mi_in zi) (ow : mi_in zw) (oo : mi_in zo) (hre : pq_b h0 hm s sb zo rest) : ∀ (N : Nat) (zn zp : Int) (q8 q9 qa : Option mi_V) (h : sm_H) (sj : gm_S), 60 - zn = N → 0 ≤ zn → (zp = -1 ∨ (zn ≤ zp ∧ zp < wk_u Y ∧ it zp ∧ wk_c Y zp = F)) → (∀ v, q8 = some v → mi_ok v) → (∀ v, q9 = some v → mi_ok v) → (∀ v, qa = some v → mi_ok v) → gq_in h u sj → ab_Fr gq_W h0 h → gm_D sj = gm_D sb → pq_A hm sb (gm_D sb) h sj → (∀ r, wk_ul r = u → gm_RO g kw (M r) (wk_it g (N + 1) zp ++ rest r, sj)) → me_E (d + 6) 120 104 [some (.inr (.inr 107)), some (.inl (f F)), some (.inl zd), some (.inl zi), some (.inl zw), some (.inl zo), some (.inl zp), some (.inl zn), q8, q9, qa] [] h (gq_Q g kw h0 u M s) := by
  have hu60 := hG0.1.1
  have of := cg_ok hG0 F0 F1
  have wd := (hG0.1.2.2.2 F F0 F1).2.1
  have od : mi_in zd := ⟨by omega, by omega⟩
  have hru : ∀ r, wk_ul r = u → wk_ul (rest r) = u := fun r hr => by
    rcases hre with ⟨-, e, -⟩ | ⟨-, -, e, -⟩
    · rw [e, hr]
    · rw [e, wk_ul_o, hr, Int.zero_add]
  -- nothing more comes
  have fin : ∀ (zn : Int) (q8 q9 qa : Option mi_V) (h : sm_H) (sj : gm_S) (K : Nat), mi_in zn → (∀ v, q8 = some v → mi_ok v) → (∀ v, q9 = some v → mi_ok v) → (∀ v, qa = some v → mi_ok v) → gq_in h u sj → ab_Fr gq_W h0 h → gm_D sj = gm_D sb → pq_A hm sb (gm_D sb) h sj → (∀ r, wk_ul r = u → gm_RO g kw (M r) (wk_it g (K + 1) (-1) ++ rest r, sj)) → me_E (d + 6) 120 104 [some (.inr (.inr 107)), some (.inl (f F)), some (.inl zd), some (.inl zi), some (.inl zw), some (.inl zo), some (.inl (-1 : Int)), some (.inl zn), q8, q9, qa] [] h (gq_Q g kw h0 u M s) := by
    intro zn q8 q9 qa h sj K on o8 o9 oa hi hF eD hA hM
    obtain ⟨hS, i1, i2, i3, hR⟩ := hi
    have eit : wk_it g (K + 1) (-1) = [] := by rw [wk_it, if_pos (by decide)]
    rw [eit] at hM
    refine mt_kgwG hS of od oi ow oo ⟨by decide, by decide⟩ on o8 o9 oa (by intros; exfalso; omega) ?_ (by intros; exfalso; omega) (by intros; exfalso; omega) (by intros; exfalso; omega) (by intros; exfalso; omega) (by intros; exfalso; omega)
    intro b c1 c2 h1 g1 g2
    have e := me_nil g2
    subst e
    refine gw226 of od oi ow oo ⟨by decide, by decide⟩ on o8 o9 oa (Or.inr ?_)
    rcases hre with ⟨k1, k2, k3, k4⟩ | ⟨k1, k2, k3, k4, k5, ⟨v, k6⟩, k7⟩
    · subst k3
      subst k4
      refine Or.inl ⟨k1, rfl, hS, hF, i3, Or.inr ⟨i1, i2, sj, hR, ⟨eD, hA⟩, fun r hr => ?_⟩⟩
      have := hM r hr
      rw [k2] at this
      exact this
    · obtain ⟨a1, B, a2, a3, a4, a5⟩ := hA
      rw [k6] at a2 a4 a5
      rw [k4] at a3
      have l1' : (gm_T s ++ [(4 + 10 * ((gm_T s).length : Int), v, gm_D s)]).length = (gm_T s).length + 1 := by rw [List.length_append]; rfl
      rw [l1'] at a4 a5
      refine Or.inr ⟨k1, k2, hS, hF, i3, Or.inr ⟨i1, i2, sj, hR, ⟨by rw [eD, k4], by rw [a1, k5], _, v, B, by rw [a2, List.append_assoc]; rfl, a3, a4, fun i hi2 => (a5 i (by omega)).trans (k7 i hi2)⟩, fun r hr => ?_⟩⟩
      have := hM r hr
      rw [k3] at this
      exact this
  intro N
  induction N with
  | zero =>
    intro zn zp q8 q9 qa h sj hN n0 hp o8 o9 oa hi hF eD hA hM
    have e : zp = -1 := by
      rcases hp with e | ⟨e1, e2, -⟩
      · exact e
      · omega
    subst e
    exact fin zn q8 q9 qa h sj 0 ⟨by omega, by omega⟩ o8 o9 oa hi hF eD hA hM
  | succ N ih =>
    intro zn zp q8 q9 qa h sj hN n0 hp o8 o9 oa hi hF eD hA hM
    have on : mi_in zn := ⟨by omega, by omega⟩
    rcases hp with e | ⟨p2, p3, pit, pc⟩
    · subst e
      exact fin zn q8 q9 qa h sj (N + 1) on o8 o9 oa hi hF eD hA hM
    obtain ⟨hS, i1, i2, i3, hR⟩ := id hi
    have p0 : 0 ≤ zp := by omega
    have op : mi_in zp := ⟨by omega, by omega⟩
    have hG : cg_G f it g Y kw h := cg_G_fr hG0 hF hS0 rfl
    obtain ⟨-, -, -, -, -, hU⟩ := hG.2.2.1 zp p0 p3
    obtain ⟨e74, x125, it125, pairs, plain⟩ := hU pit
    obtain ⟨⟨l1, -⟩, lm, ln, -, -, -⟩ := hG.1.2.2.1 zp p0 p3
    have nxt : g 125 zp.toNat = -1 ∨ (zn + 1 ≤ g 125 zp.toNat ∧ g 125 zp.toNat < wk_u Y ∧ it (g 125 zp.toNat) ∧ wk_c Y (g 125 zp.toNat) = F) := by
      by_cases c : 0 ≤ g 125 zp.toNat
      · obtain ⟨a1, a2, a3, -⟩ := ln c
        exact Or.inr ⟨by omega, a1, it125 c, a2.trans pc⟩
      · exact Or.inl (by omega)
    refine mt_kgwG hS of od oi ow oo op on o8 o9 oa (by intros; exfalso; omega) (by intros; exfalso; omega) (by intros; exfalso; omega) (by intros; exfalso; omega) (by intros; exfalso; omega) ?_ ?_
    · intro b c1 c2 c3 c4 c5 c6
      have nm : ¬ 0 ≤ g 124 zp.toNat := fun q => c6 (e74.mpr q)
      have eit : wk_it g (N + 1 + 1) zp = (0, zp, 0) :: wk_it g (N + 1) (g 125 zp.toNat) := by rw [wk_it, if_neg (by omega), if_neg nm]
      rw [eit] at hM
      refine ⟨⟨by omega, by omega⟩, fun h1 g1 g2 => ?_⟩
      have e := me_nil g2
      subst e
      refine ⟨_, me_gunit (d := d) hWF hi hG p0 p3 u0 u1 z0 (by rw [pc]; exact z1), fun w h2 hw hq => ?_⟩
      obtain ⟨rfl, q1, q2, q3, q4⟩ := hq
      have hst : ∀ r, gm_st g kw (0, zp, 0) r sj = gm_u g kw zp r sj := fun r => by
        rw [gm_st_0]
        unfold gm_op
        rw [if_neg (by decide)]
      have hul : ∀ r, wk_ul r = u → wk_ul (wk_it g (N + 1) (g 125 zp.toNat) ++ rest r) = u := fun r hr => by rw [wk_ul_it]; exact hru r hr
      rcases q4 with ⟨q4, q5, q6⟩ | ⟨q4, q5, s2, q6, ⟨q7, q9'⟩, q10⟩
      · refine gw206s of od oi ow oo op n0 (by omega) op o9 oa q4 q1 (Or.inl ⟨q4, q1, hF.trans q2, q3, q5, fun r hr => ?_⟩)
        exact NO_step (e := (0, zp, 0)) (r := wk_it g (N + 1) (g 125 zp.toNat) ++ rest r) (s := sj) (hM r hr) (by rw [hst]; exact q6 _ (hul r hr))
      · have a71 : mi_a h2 71 (Int.toNat zp) = g 125 zp.toNat := (me_a (k := 71) q2 hS rfl rfl).trans (plain nm)
        refine mt_kgwH q1 of od oi ow oo op on op o9 oa (by intros; exfalso; omega) (by intros; exfalso; omega) ?_
        intro b1 b2
        refine ⟨⟨⟨by omega, by omega⟩, by omega, by omega⟩, fun h3 r1 r2 => ?_⟩
        have e := me_nil r2
        subst e
        rw [a71]
        rw [eD] at q9'
        refine ih (zn + 1) (g 125 zp.toNat) _ q9 qa h3 s2 (by omega) (by omega) nxt (fun v e => by cases e; exact op) o9 oa ⟨q1, q4, q5, q3, q6⟩ (hF.trans q2) (q7.trans eD) (pq_A_trans hA q9') (fun r hr => ?_)
        exact RO_step (e := (0, zp, 0)) (r := wk_it g (N + 1) (g 125 zp.toNat) ++ rest r) (s := sj) (hM r hr) (by rw [hst]; exact q10 _ (hul r hr))
    · intro b c1 c2 c3 c4 c5 c6
      have hm := e74.mp c6
      obtain ⟨a71, b71⟩ := pairs hm
      obtain ⟨m1, m2, m3, m4⟩ := lm hm
      have om : mi_in (g 124 zp.toNat) := ⟨by omega, by omega⟩
      have eit : wk_it g (N + 1 + 1) zp = (0, zp, 1) :: (3, 0, 0) :: (0, g 124 zp.toNat, 0) :: (4, 0, 0) :: wk_it g (N + 1) (g 125 zp.toNat) := by rw [wk_it, if_neg (by omega), if_pos hm]
      rw [eit] at hM
      have n56 : mi_f h 13056 = ((gm_T sj).length : Int) := hR.1.1
      have hl100 : gm_len sj ≤ 100 := hR.2.2.2.1
      have lj : gm_len sj = ((gm_T sj).length : Int) := rfl
      refine ⟨⟨by omega, by omega⟩, fun h1 g1 g2 => ?_⟩
      have e := me_nil g2
      subst e
      rw [a71, n56]
      have os : mi_in ((gm_T sj).length : Int) := ⟨by omega, by omega⟩
      -- the pair is open
      have oT : gm_T (gm_op 1 sj) = gm_T sj := by unfold gm_op; rw [if_pos rfl, gm_T_mk]
      have oX : gm_X (gm_op 1 sj) = gm_X sj := by unfold gm_op; rw [if_pos rfl, gm_X_mk]
      have oF : gm_F (gm_op 1 sj) = gm_F sj := by unfold gm_op; rw [if_pos rfl, gm_F_mk]
      have oD : gm_D (gm_op 1 sj) = gm_D sj := by unfold gm_op; rw [if_pos rfl, gm_D_mk]
      have oP : gm_P (gm_op 1 sj) = ((gm_T sj).length, 0) :: gm_P sj := by unfold gm_op; rw [if_pos rfl, gm_P_mk]
      refine ⟨_, me_gunit (d := d) (s := gm_op 1 sj) hWF ⟨hS, i1, i2, i3, gq_R_D hR oT oX oF⟩ hG p0 p3 u0 u1 z0 (by rw [pc]; exact z1), fun w h2 hw hq => ?_⟩
      obtain ⟨rfl, q1, q2, q3, q4⟩ := hq
      have hul : ∀ r, wk_ul r = u → wk_ul (wk_it g (N + 1) (g 125 zp.toNat) ++ rest r) = u := fun r hr => by rw [wk_ul_it]; exact hru r hr
      have hul3 : ∀ r, wk_ul r = u → wk_ul ((3, 0, 0) :: (0, g 124 zp.toNat, 0) :: (4, 0, 0) :: (wk_it g (N + 1) (g 125 zp.toNat) ++ rest r)) = u := fun r hr => by rw [wk_ul_c (by decide), wk_ul_c (by decide), wk_ul_c (by decide)]; exact hul r hr
      have hul4 : ∀ r, wk_ul r = u → wk_ul ((4, 0, 0) :: (wk_it g (N + 1) (g 125 zp.toNat) ++ rest r)) = u := fun r hr => by rw [wk_ul_c (by decide)]; exact hul r hr
      -- the rest of the way, once it has stopped
      have stp : ∀ (h3 : sm_H) (zm : Int), mi_in zm → ab_Sh sx_sk h3 → ab_Fr gq_W h0 h3 → mi_f h3 13699 = 1 → mi_f h3 13700 = 1 → mi_f h3 13701 = u → (∀ r, wk_ul r = u → gm_NO g kw (M r)) → me_E (d + 6) 120 188 [some (.inr (.inr 107)), some (.inl (f F)), some (.inl zd), some (.inl zi), some (.inl zw), some (.inl zo), some (.inl zp), some (.inl zn), some (.inl (g 124 zp.toNat)), some (.inl ((gm_T sj).length : Int)), some (.inl zm)] [] h3 (gq_Q g kw h0 u M s) := by
        intro h3 zm ozm s1 s2 s3 s4 s5 s6
        refine mt_kgwJ s1 of od oi ow oo op on om os ozm ?_
        intro h4 t1 t2
        have e := me_nil t2
        subst e
        refine ⟨_, me_gpairEnds (d := d + 1) s1 os ozm, fun w h5 hw hq => ?_⟩
        obtain ⟨rfl, v1, v2⟩ := hq
        refine mt_kgwK v1 of od oi ow oo op on om os ozm ?_
        intro h6 x1 x2
        have e := me_nil x2
        subst e
        exact gw206s of od oi ow oo op n0 (by omega) om (fun v e => by cases e; exact os) (fun v e => by cases e; exact ozm) ((me_f (c := 13699) v2 s1 rfl rfl).trans s3) v1 (Or.inl ⟨(me_f (c := 13699) v2 s1 rfl rfl).trans s3, v1, s2.trans (v2.wide (fun c hc => ab_swr_ok (by decide) hc)), (me_f (c := 13701) v2 s1 rfl rfl).trans s5, (me_f (c := 13700) v2 s1 rfl rfl).trans s4, s6⟩)
      have hst1 : ∀ r, gm_st g kw (0, zp, 1) r sj = gm_u g kw zp r (gm_op 1 sj) := fun r => gm_st_0
      rcases q4 with ⟨q4, q5, q6⟩ | ⟨q4, q5, s2, q6, ⟨q7, q8', B, q9', fB, zB, loB⟩, q10⟩
      · refine mt_kgwI q1 of od oi ow oo op on om os oa ?_
        intro h3 r1 r2
        have e := me_nil r2
        subst e
        refine ⟨_, me_gunit0 (d := d) q1 q4 om od, fun w h4 hw hq => ?_⟩
        obtain ⟨rfl, rfl⟩ := hq
        refine stp _ _ (mi_inT _) q1 (hF.trans q2) q4 q5 q3 (fun r hr => ?_)
        exact NO_step (e := (0, zp, 1)) (r := (3, 0, 0) :: (0, g 124 zp.toNat, 0) :: (4, 0, 0) :: (wk_it g (N + 1) (g 125 zp.toNat) ++ rest r)) (s := sj) (hM r hr) (by rw [hst1]; exact q6 _ (hul3 r hr))
      · -- the middle
        rw [oP] at q8'
        rw [oD] at q7 fB
        rw [oT] at q9' zB loB
        have m56 : mi_f h2 13056 = ((gm_T s2).length : Int) := q6.1.1
        have l2 : gm_len s2 = ((gm_T s2).length : Int) := rfl
        have l2b : gm_len s2 ≤ 100 := q6.2.2.2.1
        have omd : mi_in ((gm_T s2).length : Int) := ⟨by omega, by omega⟩
        have mT : gm_T (gm_mid s2) = gm_T s2 := by unfold gm_mid; rw [gm_T_mk]
        have mX : gm_X (gm_mid s2) = gm_X s2 := by unfold gm_mid; rw [gm_X_mk]
        have mF : gm_F (gm_mid s2) = gm_F s2 := by unfold gm_mid; rw [gm_F_mk]
        have mD : gm_D (gm_mid s2) = gm_D s2 := by unfold gm_mid; rw [gm_D_mk]
        have mP : gm_P (gm_mid s2) = ((gm_T sj).length, (gm_T s2).length) :: gm_P sj := by unfold gm_mid; rw [gm_P_mk, q8']
        have hM2 : ∀ r, wk_ul r = u → gm_RO g kw (M r) ((0, g 124 zp.toNat, 0) :: (4, 0, 0) :: (wk_it g (N + 1) (g 125 zp.toNat) ++ rest r), gm_mid s2) := fun r hr => RO_step (e := (3, 0, 0)) (r := (0, g 124 zp.toNat, 0) :: (4, 0, 0) :: (wk_it g (N + 1) (g 125 zp.toNat) ++ rest r)) (s := s2) (RO_step (e := (0, zp, 1)) (r := (3, 0, 0) :: (0, g 124 zp.toNat, 0) :: (4, 0, 0) :: (wk_it g (N + 1) (g 125 zp.toNat) ++ rest r)) (s := sj) (hM r hr) (by rw [hst1]; exact q10 _ (hul3 r hr))) (by rw [gm_st_3]; exact RO_refl)
        have hst2 : ∀ r, gm_st g kw (0, g 124 zp.toNat, 0) r (gm_mid s2) = gm_u g kw (g 124 zp.toNat) r (gm_mid s2) := fun r => by
          rw [gm_st_0]
          unfold gm_op
          rw [if_neg (by decide)]
        refine mt_kgwI q1 of od oi ow oo op on om os oa ?_
        intro h3 r1 r2
        have e := me_nil r2
        subst e
        rw [m56]
        refine ⟨_, me_gunit (d := d) (s := gm_mid s2) hWF ⟨q1, q4, q5, q3, gq_R_D q6 mT mX mF⟩ (cg_G_fr hG q2 hS rfl) hm m1 u0 u1 z0 (by rw [m2, pc]; exact z1), fun w h4 hw hq => ?_⟩
        obtain ⟨rfl, v1, v2, v3, v4⟩ := hq
        rcases v4 with ⟨v4, v5, v6⟩ | ⟨v4, v5, s3, v6, ⟨v7, v8, C, v9, fC, zC, loC⟩, v10⟩
        · refine stp h4 _ omd v1 ((hF.trans q2).trans v2) v4 v5 v3 (fun r hr => ?_)
          exact NO_step (e := (0, g 124 zp.toNat, 0)) (r := (4, 0, 0) :: (wk_it g (N + 1) (g 125 zp.toNat) ++ rest r)) (s := gm_mid s2) (hM2 r hr) (by rw [hst2]; exact v6 _ (hul4 r hr))
        · rw [mP] at v8
          rw [mD] at v7 fC
          rw [mT] at v9 zC loC
          rw [q7] at fC
          have hM3 : ∀ r, wk_ul r = u → gm_RO g kw (M r) (wk_it g (N + 1) (g 125 zp.toNat) ++ rest r, gm_tu s3) := fun r hr => RO_step (e := (4, 0, 0)) (r := wk_it g (N + 1) (g 125 zp.toNat) ++ rest r) (s := s3) (RO_step (e := (0, g 124 zp.toNat, 0)) (r := (4, 0, 0) :: (wk_it g (N + 1) (g 125 zp.toNat) ++ rest r)) (s := gm_mid s2) (hM2 r hr) (by rw [hst2]; exact v10 _ (hul4 r hr))) (by rw [gm_st_4]; exact RO_refl)
          have etu : gm_tu s3 = (gm_X s3, gm_F s3, gm_rot (gm_T sj).length (gm_T s2).length (gm_T s3), gm_D s3, gm_P sj) := by
            unfold gm_tu
            rw [v8]
          have eT3 : gm_T s3 = gm_T sj ++ B ++ C := by rw [v9, q9']
          have l3b : gm_len s3 ≤ 100 := v6.2.2.2.1
          have l3 : gm_len s3 = ((gm_T s3).length : Int) := rfl
          have lens : (gm_T s2).length = (gm_T sj).length + B.length := by rw [q9', List.length_append]
          have lens3 : (gm_T s3).length = (gm_T s2).length + C.length := by rw [v9, List.length_append]
          refine mt_kgwJ v1 of od oi ow oo op on om os omd ?_
          intro h5 t1 t2
          have e := me_nil t2
          subst e
          refine ⟨_, me_gexchs (d := d + 1) v1 v6.1 (by omega) (by omega) (by omega), fun w h6 hw hq => ?_⟩
          obtain ⟨rfl, y1, y2, y3, y4⟩ := hq
          refine mt_kgwK y1 of od oi ow oo op on om os omd ?_
          intro h7 k1 k2
          have e := me_nil k2
          subst e
          have hR7 : gq_R h7 (gm_tu s3) := by
            obtain ⟨b1, b2, b3, b4, b5, b6⟩ := v6
            rw [etu]
            unfold gq_R gm_len
            rw [gm_T_mk, gm_X_mk, gm_F_mk, gm_rot_len]
            exact ⟨y3, (me_l (c := 13702) y2 v1 rfl rfl).trans b2, (me_f (c := 13703) y2 v1 rfl rfl).trans b3, b4, b5, b6⟩
          have F7 : ab_Fr gq_W h0 h7 := ((hF.trans q2).trans v2).trans (y2.wide (fun c hc => ab_swr_ok (by decide) hc))
          have c71 : mi_a h7 71 (Int.toNat (g 124 zp.toNat)) = g 125 zp.toNat := by
            rw [me_a (k := 71) y2 v1 rfl rfl, me_a (k := 71) v2 q1 rfl rfl, me_a (k := 71) q2 hS rfl rfl]
            exact b71
          have lT : (gm_T s3).length = (gm_T sj).length + B.length + C.length := by omega
          have hAp : pq_A h1 sj (gm_D sb) h7 (gm_tu s3) := by
            refine ⟨by rw [etu, gm_P_mk], C ++ B, by rw [etu, gm_T_mk, eT3, q9', gm_rot_pre], fo_app (by rw [← eD]; exact fC) (by rw [← eD]; exact fB), ?_, fun i hi2 => ?_⟩
            · rw [lens] at zC y4
              rw [lT] at y4
              exact gz_rot (h := h5) fB fC (gz_eq zB (fun i i1 i2 => loC i (by omega))) zC y4
            · rw [y4 i (by omega)]
              unfold ro_i
              rw [if_pos hi2, loC i (by omega), loB i hi2]
          refine mt_kgwH y1 of od oi ow oo op on om (fun v e => by cases e; exact os) (fun v e => by cases e; exact omd) (by intros; exfalso; omega) (by intros; exfalso; omega) ?_
          intro b1 b2
          refine ⟨⟨⟨by omega, by omega⟩, by omega, by omega⟩, fun h8 n1 n2 => ?_⟩
          have e := me_nil n2
          subst e
          rw [c71]
          exact ih (zn + 1) (g 125 zp.toNat) _ _ _ h8 (gm_tu s3) (by omega) (by omega) nxt (fun v e => by cases e; exact om) (fun v e => by cases e; exact os) (fun v e => by cases e; exact omd) ⟨y1, (me_f (c := 13699) y2 v1 rfl rfl).trans v4, (me_f (c := 13700) y2 v1 rfl rfl).trans v5, (me_f (c := 13701) y2 v1 rfl rfl).trans v3, hR7⟩ F7 (by rw [etu, gm_D_mk, v7, q7, eD]) (pq_A_trans hA hAp) hM3
theorem me_gform {zd : Int} (hWF : gq_F f it g Y kw (d + 2) (zd + 1)) (z0 : 0 ≤ zd) : gq_F f it g Y kw (d + 6) zd := by
  intro h s u F hi hG F0 F1 u0 u1 hz
  obtain ⟨hS, i1, i2, i3, hR⟩ := id hi
  have of := cg_ok hG F0 F1
  have hF := hG.2.1 F F0 F1
  obtain ⟨⟨f0, f1⟩, f2, f3, f4, f5⟩ := id hF
  obtain ⟨d1, d2, d3, d4, dB, d5⟩ := hG.1.2.2.2 F F0 F1
  have od : mi_in zd := ⟨by omega, by omega⟩
  -- from where the parts are gone through
  have go79 : ∀ (zi zw zo : Int) (rest : List wk_E → List wk_E) (h1 : sm_H) (sj : gm_S), mi_in zi → mi_in zo → 0 ≤ zw → zw < g 130 F.toNat → gq_in h1 u sj → ab_Fr gq_W h h1 → pq_b h h1 s sj zo rest → (∀ r, wk_ul r = u → gm_RO g kw (gm_fo g F r s) (wk_it g 61 (g 126 (wk_alt g zw.toNat (g 129 F.toNat)).toNat) ++ rest r, sj)) → me_E (d + 6) 120 79 [some (.inr (.inr 107)), some (.inl (f F)), some (.inl zd), some (.inl zi), some (.inl zw), some (.inl zo), none, none, none, none, none] [] h1 (gq_Q g kw h u (fun r => gm_fo g F r s) s) := by
    intro zi zw zo rest h1 sj oi oo w0 w1 hi1 hF1 hre hM
    have hS1 := hi1.1
    have ow : mi_in zw := ⟨by omega, by omega⟩
    have hG1 := cg_G_fr hG hF1 hS rfl
    have hFF := hG1.2.1 F F0 F1
    refine mt_kgwE hS1 of od oi ow oo ?_
    intro h2 g1 g2
    have e := me_nil g2
    subst e
    refine ⟨_, me_galt (d := d + 4) hS1 hFF w0 w1, fun w h3 hw hq => ?_⟩
    obtain ⟨rfl, rfl⟩ := hq
    obtain ⟨⟨p1, p2⟩, p3, -, -, -, p6, p7⟩ := hFF.2.2.2.2 zw.toNat (by omega)
    obtain ⟨-, -, p8⟩ := d5 zw.toNat (by omega)
    generalize wk_alt g zw.toNat (g 129 F.toNat) = a at hw p1 p2 p3 p6 p7 p8 hM ⊢
    refine mt_kgwF hS1 of od oi ow oo (hw _ rfl) (by intros; exfalso; omega) (by intros; exfalso; omega) ?_
    intro c1 c2
    refine ⟨⟨by omega, by omega⟩, fun h4 r1 r2 => ?_⟩
    have e := me_nil r2
    subst e
    rw [p3]
    refine gw104 (d := d) (M := fun r => gm_fo g F r s) (rest := rest) hS hWF hG F0 F1 u0 u1 z0 hz oi ow oo hre 60 0 (g 126 a.toNat) none none none h4 sj (by decide) (by decide) ?_ (fun v e => by cases e) (fun v e => by cases e) (fun v e => by cases e) hi1 hF1 rfl pq_A_refl hM
    by_cases c : 0 ≤ g 126 a.toNat
    · have := p8.resolve_left (by omega)
      exact Or.inr ⟨c, this.1, p7 c, this.2⟩
    · exact Or.inl (by omega)
  refine mt_kgwA (d := d + 4) hS of od (by intros; exfalso; omega) (by intros; exfalso; omega) (by intros; exfalso; omega) ?_ ?_ (by intros; exfalso; omega)
  · intro b c1 c2 c3 c4 c5
    rw [f3] at c5
    refine ⟨⟨by omega, by omega⟩, fun h1 g1 g2 => ?_⟩
    have e := me_nil g2
    subst e
    refine mt_kgwC hS of od ⟨by decide, by decide⟩ ⟨by decide, by decide⟩ ?_ (by intros; exfalso; omega) (by intros; exfalso; omega)
    intro c6 h2 r1 r2
    have e := me_nil r2
    subst e
    refine go79 0 0 (-1) id h2 s ⟨by decide, by decide⟩ ⟨by decide, by decide⟩ (by decide) (by omega) hi ab_Fr.refl (Or.inl ⟨rfl, fun r => rfl, rfl, rfl⟩) (fun r hr => ?_)
    unfold gm_fo
    rw [if_neg (by omega)]
    exact RO_refl
  · intro b c1 c2 c3 c4 c5
    rw [f3] at c5
    refine ⟨⟨by omega, by omega⟩, fun h1 g1 g2 => ?_⟩
    have e := me_nil g2
    subst e
    refine ⟨_, me_gchosen (d := d + 3) hS hR hF d3 d4, fun w h2 hw hq => ?_⟩
    obtain ⟨q1, q2, q3, rfl⟩ := hq
    have wb := gm_w_b (g := g) gm_vbt (f := F) d3 (by omega) s
    obtain ⟨y1, y2, y3, y4⟩ := gm_y_e (s := s)
    have yT : gm_T (gm_y s) = gm_T s := by unfold gm_y; rw [gm_T_mk]
    have owz : mi_in (gm_w g F s) := ⟨by omega, by omega⟩
    refine mt_kgwB q1 of od ⟨by decide, by decide⟩ owz ?_
    intro h3 r1 r2
    have e := me_nil r2
    subst e
    have z9 : mi_f h3 13699 = 0 := (me_f (c := 13699) q2 hS rfl rfl).trans i1
    have zz : mi_f h3 13700 = 0 := (me_f (c := 13700) q2 hS rfl rfl).trans i2
    refine mt_kgwC q1 of od ⟨by decide, by decide⟩ owz (by intros; exfalso; omega) (by intros; exfalso; omega) ?_
    intro b2 c6 c7 h4 s1 s2
    have e := me_nil s2
    subst e
    refine ⟨_, me_genter (d := d + 3) q1 ⟨by decide, by decide⟩ owz z9 zz q3, fun w3 h5 hw3 hq3 => ?_⟩
    obtain ⟨t1, t2, t3⟩ := hq3
    have e01 : mi_f h5 13701 = u := ((me_f (c := 13701) t2 q1 rfl rfl).trans (me_f (c := 13701) q2 hS rfl rfl)).trans i3
    have F5 : ab_Fr gq_W h1 h5 := (q2.wide (fun c hc => ab_swr_ok (by decide) hc)).trans (t2.wide (fun c hc => ab_swr_ok (by decide) hc))
    rcases t3 with ⟨t3, rfl, t4, t5⟩ | ⟨t, t3, rfl, t4, t5, t6, t7⟩
    · -- no room: nothing more is done
      have hz2 : gq_Z g kw h1 u (fun r => gm_fo g F r s) s (-1) h5 := Or.inl ⟨t4, t1, F5, e01, t5, fun r _ => Or.inl (by
        dsimp only
        unfold gm_fo
        rw [if_pos c5, t3]
        rfl)⟩
      refine mt_kgwD t1 of od ⟨by decide, by decide⟩ owz ⟨by decide, by decide⟩ ?_
      intro h6 l1 l2
      have e := me_nil l2
      subst e
      refine mt_kgwE t1 of od ⟨by decide, by decide⟩ owz ⟨by decide, by decide⟩ ?_
      intro h7 l3 l4
      have e := me_nil l4
      subst e
      have hFF := (cg_G_fr hG F5 hS rfl).2.1 F F0 F1
      refine ⟨_, me_galt (d := d + 4) t1 hFF wb.1 wb.2, fun w h8 hw hq => ?_⟩
      obtain ⟨rfl, rfl⟩ := hq
      have on0 : mi_in (0 : Int) := ⟨by decide, by decide⟩
      refine mt_kgwF t1 of od ⟨by decide, by decide⟩ owz ⟨by decide, by decide⟩ (hw _ rfl) ?_ ?_ ?_
      · intro c8 h9 k1 k2
        have e := me_nil k2
        subst e
        exact gw104s of od ⟨by decide, by decide⟩ owz ⟨by decide, by decide⟩ on0 on0 (fun v e => by cases e) (fun v e => by cases e) (fun v e => by cases e) t4 t1 hz2
      · intro c8 c9 h9 k1 k2
        have e := me_nil k2
        subst e
        exact gw104s of od ⟨by decide, by decide⟩ owz ⟨by decide, by decide⟩ on0 on0 (fun v e => by cases e) (fun v e => by cases e) (fun v e => by cases e) t4 t1 hz2
      · intro c8 c9
        refine ⟨⟨by omega, by omega⟩, fun h9 k1 k2 => ?_⟩
        have e := me_nil k2
        subst e
        exact gw104s of od ⟨by decide, by decide⟩ owz ⟨by decide, by decide⟩ (mi_inT _) on0 (fun v e => by cases e) (fun v e => by cases e) (fun v e => by cases e) t4 t1 hz2
    · obtain ⟨x1, x2, x3, x4, x5⟩ := gm_c_t t3
      obtain ⟨v1, v2, v3, v4⟩ := gm_d_e (t := t)
      have dT : gm_T (gm_d t) = gm_T t := by unfold gm_d; rw [gm_T_mk]
      have dX : gm_X (gm_d t) = gm_X t := by unfold gm_d; rw [gm_X_mk]
      have hl := q3.2.2.2.1
      have ln : gm_len (gm_y s) = ((gm_T (gm_y s)).length : Int) := rfl
      have oo : mi_in (gm_len (gm_y s)) := ⟨by omega, by omega⟩
      refine mt_kgwD t1 of od ⟨by decide, by decide⟩ owz oo ?_
      intro h6 l1 l2
      have e := me_nil l2
      subst e
      refine go79 1 (gm_w g F s) _ (fun r => (2, 0, 0) :: r) h6 (gm_d t) ⟨by decide, by decide⟩ oo wb.1 wb.2 ⟨t1, t4, t5, e01, gq_R_D t6 dT dX v2⟩ F5 (Or.inr ⟨by omega, by rw [y1], fun r => rfl, by omega, by rw [v4, x5, y4], ⟨gm_w g F s, by rw [dT, x3, yT, y3]⟩, fun i hi2 => by rw [t7, yT, if_neg (by omega), me_a (k := 105) q2 hS rfl rfl]⟩) (fun r hr => ?_)
      unfold gm_fo
      rw [if_pos c5, t3]
      exact RO_refl
/-- all depths -/
theorem gq_F_all : ∀ k : Nat, k ≤ 60 → gq_F f it g Y kw (2 + 4 * k) (60 - (k : Int)) := by
  intro k
  induction k with
  | zero =>
    intro _ h s u F hi hG F0 F1 u0 u1 hz
    have := (hG.1.2.2.2 F F0 F1).2.1
    exfalso; omega
  | succ k ih =>
    intro hk
    have e : (60 : Int) - ((k + 1 : Nat) : Int) + 1 = 60 - (k : Int) := by omega
    have := me_gform (d := 4 * k) (f := f) (it := it) (g := g) (Y := Y) (kw := kw) (zd := 60 - ((k + 1 : Nat) : Int)) (by
      rw [e, Nat.add_comm]
      exact ih (by omega)) (by omega)
    have e2 : 2 + 4 * (k + 1) = 4 * k + 6 := by omega
    rw [e2]
    exact this
/-- the walk: all its turns are the pure one's -/
theorem me_gwalk {h : sm_H} {x : Int64} {fu : Int} (hS : ab_Sh sx_sk h) (hG : cg_G f it g Y kw h) (r0 : 0 ≤ g 114 0) (r1 : g 114 0 < wk_f Y) (rf : f (g 114 0) = 0) (hx : mx_l h 13702 = x) (hf : mi_f h 13703 = fu) (f0 : 0 ≤ fu) (f1 : fu ≤ 20) : me_E 244 103 0 [some (.inr (.inr 107))] [] h (gq_Q g kw h 0 (fun r => gm_en g 0 r (x, fu, [], 0, [])) (x, fu, [], 0, [])) := by
  refine mt_kggA (d := 240) hS ?_
  intro h1 g1 g2 g3 g4 g5 g6
  have hG1 := cg_G_fr hG g6 hS rfl
  have hR1 : gq_R h1 (x, fu, [], 0, []) := by
    unfold gq_R gm_len
    rw [gm_T_mk, gm_X_mk, gm_F_mk]
    exact ⟨⟨g2, fun k hk => absurd hk (Nat.not_lt_zero _)⟩, (me_l (c := 13702) g6 hS rfl rfl).trans hx, (me_f (c := 13703) g6 hS rfl rfl).trans hf, by decide, by show -(0 : Int) ≤ fu; omega, f1⟩
  refine ⟨_, me_guse (d := 240) (u := 0) (i := 0) (zd := 0) (s := (x, fu, [], 0, [])) (gq_F_all 60 (by decide)) ⟨g1, g3, g4, g5, hR1⟩ hG1 (by decide) (by decide) r0 r1 rf (by decide) (by decide) (by decide) (by decide), fun w h2 hw hq => ?_⟩
  obtain ⟨rfl, q1, q2, q3, q4⟩ := hq
  have Q : gq_Q g kw h 0 (fun r => gm_en g 0 r (x, fu, [], 0, [])) (x, fu, [], 0, []) none h2 := by
    refine ⟨rfl, q1, (g6.wide (fun c hc => ab_swr_ok (by decide) hc)).trans q2, q3, ?_⟩
    rcases q4 with q4 | ⟨a, b, s', c, ⟨d1, d2, A, d3, d4, d5, d6⟩, e⟩
    · exact Or.inl q4
    · refine Or.inr ⟨a, b, s', c, ⟨d1, d2, A, d3, d4, d5, fun k hk => ?_⟩, e⟩
      rw [gm_T_mk] at hk
      exact absurd hk (Nat.not_lt_zero _)
  refine mt_kggB (d := 240) q1 ?_ ?_
  · intro b c h3 r1 r2
    have e := me_nil r2
    subst e
    exact Q
  · intro b c h3 r1 r2
    have e := me_nil r2
    subst e
    exact Q
end CW5
