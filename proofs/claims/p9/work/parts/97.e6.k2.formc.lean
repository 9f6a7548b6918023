/-! the class's printing walk: a form, and so all of it -/
section VW2
variable {f : Int → Int} {it : Int → Prop} {g : wk_g} {Y : wk_Y} {kw : Int → Bool} {Lr : Nat → Int} {V : Int → Int} {d : Nat}
theorem ww226 {h : sm_H} {zf zd zi zw zo zp zn : Int} {q8 q9 qa : Option mi_V} {Q : Option mi_V → sm_H → Prop} (hS : ab_Sh sx_sk h) (of : mi_in zf) (od : mi_in zd) (oi : mi_in zi) (ow : mi_in zw) (oo : mi_in zo) (op : mi_in zp) (on : mi_in zn) (o8 : ∀ v, q8 = some v → mi_ok v) (o9 : ∀ v, q9 = some v → mi_ok v) (oa : ∀ v, qa = some v → mi_ok v) (hq : Q none h) : me_E (d + 11) 120 226 [some (.inr (.inr 108)), some (.inl zf), some (.inl zd), some (.inl zi), some (.inl zw), some (.inl zo), some (.inl zp), some (.inl zn), q8, q9, qa] [] h Q := by
  refine mt_krwL hS of od oi ow oo op on o8 o9 oa ?_ ?_
  · intro c h1 g1 g2
    have e := me_nil g2
    subst e
    exact hq
  · intro c h1 g1 g2
    have e := me_nil g2
    subst e
    exact hq
/-- once it has stopped -/
theorem ww104s {h : sm_H} {zf zd zi zw zo zp zn : Int} {q8 q9 qa : Option mi_V} {Q : Option mi_V → sm_H → Prop} (hS : ab_Sh sx_sk h) (of : mi_in zf) (od : mi_in zd) (oi : mi_in zi) (ow : mi_in zw) (oo : mi_in zo) (op : mi_in zp) (on : mi_in zn) (o8 : ∀ v, q8 = some v → mi_ok v) (o9 : ∀ v, q9 = some v → mi_ok v) (oa : ∀ v, qa = some v → mi_ok v) (h1 : mi_f h 13827 = 1) (hq : Q none h) : me_E (d + 11) 120 104 [some (.inr (.inr 108)), some (.inl zf), some (.inl zd), some (.inl zi), some (.inl zw), some (.inl zo), some (.inl zp), some (.inl zn), q8, q9, qa] [] h Q := by
  refine mt_krwG hS of od oi ow oo op on o8 o9 oa ?_ (by intros; exfalso; omega) (by intros; exfalso; omega) (by intros; exfalso; omega) (by intros; exfalso; omega) (by intros; exfalso; omega) (by intros; exfalso; omega)
  intro b c h2 g1 g2
  have e := me_nil g2
  subst e
  exact ww226 hS of od oi ow oo op on o8 o9 oa hq
theorem ww206s {h : sm_H} {zf zd zi zw zo zp zn zl : Int} {q9 qa : Option mi_V} {Q : Option mi_V → sm_H → Prop} (hS : ab_Sh sx_sk h) (of : mi_in zf) (od : mi_in zd) (oi : mi_in zi) (ow : mi_in zw) (oo : mi_in zo) (op : mi_in zp) (n0 : 0 ≤ zn) (n1 : zn ≤ 60) (ol : mi_in zl) (o9 : ∀ v, q9 = some v → mi_ok v) (oa : ∀ v, qa = some v → mi_ok v) (h1 : mi_f h 13827 = 1) (hq : Q none h) : me_E (d + 11) 120 206 [some (.inr (.inr 108)), some (.inl zf), some (.inl zd), some (.inl zi), some (.inl zw), some (.inl zo), some (.inl zp), some (.inl zn), some (.inl zl), q9, qa] [] h Q := by
  have on : mi_in zn := ⟨by omega, by omega⟩
  have on1 : mi_in (zn + 1) := ⟨by omega, by omega⟩
  have o8 : ∀ v, some (Sum.inl zl : mi_V) = some v → mi_ok v := fun v e => by cases e; exact ol
  refine mt_krwH hS of od oi ow oo op on ol o9 oa ?_ ?_ ?_
  · intro c
    refine ⟨⟨by omega, by omega⟩, fun h2 g1 g2 => ?_⟩
    have e := me_nil g2
    subst e
    exact ww104s hS of od oi ow oo ⟨by decide, by decide⟩ on1 o8 o9 oa h1 hq
  · intro c1 c2
    refine ⟨⟨by omega, by omega⟩, fun h2 g1 g2 => ?_⟩
    have e := me_nil g2
    subst e
    exact ww104s hS of od oi ow oo ⟨by decide, by decide⟩ on1 o8 o9 oa h1 hq
  · intro c1 c2
    refine ⟨⟨⟨by omega, by omega⟩, by omega, by omega⟩, fun h2 g1 g2 => ?_⟩
    have e := me_nil g2
    subst e
    exact ww104s hS of od oi ow oo (mi_inT _) on1 o8 o9 oa h1 hq
theorem op0 {s : gm_S} : gm_op 0 s = s := by unfold gm_op; rw [if_neg (by decide)]
theorem stv_1 {h0 h : sm_H} {u : Int} {n : Nat} (hs : vst h0 u n h) : mi_f h 13827 = 1 := (oC_no hs.2.2.2.1).1
theorem stv_le {h0 h : sm_H} {u : Int} {n m : Nat} (hs : vst h0 u n h) (hm : n ≤ m) : vst h0 u m h := by
  obtain ⟨a1, a2, a3, a4, a5, a6⟩ := hs
  exact ⟨a1, a2, a3, a4, a5, by omega⟩
theorem ww104 {u F zd zi zw zo : Int} (hWF : vpp_F f it g Y kw Lr V (d + 7) (zd + 1)) (F0 : 0 ≤ F) (F1 : F < wk_f Y) (u0 : 1 ≤ u) (u1 : u ≤ 12) (z0 : 0 ≤ zd) (z1 : zd ≤ 5 * (u - 1) + wk_d Y F) (oi : mi_in zi) (ow : mi_in zw) (oo : mi_in zo) : ∀ (N : Nat) (zn zp : Int) (q8 q9 qa : Option mi_V) (h : sm_H) (q n : Nat) (sj s2 : gm_S) (L : List (Int × Int)) (A : List (Int × Int × Int)) (o : ox), 60 - zn = N → 0 ≤ zn → (zp = -1 ∨ (zn ≤ zp ∧ zp < wk_u Y ∧ it zp ∧ wk_c Y zp = F)) → (∀ v, q8 = some v → mi_ok v) → (∀ v, q9 = some v → mi_ok v) → (∀ v, qa = some v → mi_ok v) → vpp_in h u q o → vpp_H f it g Y kw Lr h → rn g V n u (wk_it g (N + 1) zp) sj s2 L → vpp_A g h sj s2 q L A → me_E (d + 11) 120 104 [some (.inr (.inr 108)), some (.inl (f F)), some (.inl zd), some (.inl zi), some (.inl zw), some (.inl zo), some (.inl zp), some (.inl zn), q8, q9, qa] [] h (vq Lr g h u (q + A.length) L (some o)) := by
  -- nothing more comes
  have fin : ∀ (zn : Int) (q8 q9 qa : Option mi_V) (h : sm_H) (q n : Nat) (sj s2 : gm_S) (L : List (Int × Int)) (A : List (Int × Int × Int)) (o : ox) (K : Nat), mi_in zn → (∀ v, q8 = some v → mi_ok v) → (∀ v, q9 = some v → mi_ok v) → (∀ v, qa = some v → mi_ok v) → vpp_in h u q o → vpp_H f it g Y kw Lr h → rn g V n u (wk_it g (K + 1) (-1)) sj s2 L → vpp_A g h sj s2 q L A → me_E (d + 11) 120 104 [some (.inr (.inr 108)), some (.inl (f F)), some (.inl zd), some (.inl zi), some (.inl zw), some (.inl zo), some (.inl (-1 : Int)), some (.inl zn), q8, q9, qa] [] h (vq Lr g h u (q + A.length) L (some o)) := by
    intro zn q8 q9 qa h q n sj s2 L A o K on o8 o9 oa hi hH hr hA
    have of := cg_ok hH.1 F0 F1
    have wd := (hH.1.1.2.2.2 F F0 F1).2.1
    have od : mi_in zd := ⟨by omega, by omega⟩
    have hs := in_run hi
    have eit : wk_it g (K + 1) (-1) = [] := by rw [wk_it, if_pos (by decide)]
    rw [eit] at hr
    obtain ⟨k1, k2⟩ := rn_nil hr
    have hB : A = [] := app_cancel hA.1 (by rw [k1, List.append_nil])
    subst hB
    subst k2
    refine mt_krwG hi.1 of od oi ow oo ⟨by decide, by decide⟩ on o8 o9 oa (by intros; exfalso; omega) ?_ (by intros; exfalso; omega) (by intros; exfalso; omega) (by intros; exfalso; omega) (by intros; exfalso; omega) (by intros; exfalso; omega)
    intro b c1 c2 h1 g1 g2
    have e := me_nil g2
    subst e
    exact ww226 g1 of od oi ow oo ⟨by decide, by decide⟩ on o8 o9 oa (vq_refl hi)
  intro N
  induction N with
  | zero =>
    intro zn zp q8 q9 qa h q n sj s2 L A o hN n0 hp o8 o9 oa hi hH hr hA
    have hu60 := hH.1.1.1
    have e : zp = -1 := by
      rcases hp with e | ⟨e1, e2, -⟩
      · exact e
      · omega
    subst e
    exact fin zn q8 q9 qa h q n sj s2 L A o 0 ⟨by omega, by omega⟩ o8 o9 oa hi hH hr hA
  | succ N ih =>
    intro zn zp q8 q9 qa h q n sj s2 L A o hN n0 hp o8 o9 oa hi hH hr hA
    have on : mi_in zn := ⟨by omega, by omega⟩
    rcases hp with e | ⟨p2, p3, pit, pc⟩
    · subst e
      exact fin zn q8 q9 qa h q n sj s2 L A o (N + 1) on o8 o9 oa hi hH hr hA
    have hS := hi.1
    have hu60 := hH.1.1.1
    have n100 := hH.2.2
    have of := cg_ok hH.1 F0 F1
    have wd := (hH.1.1.2.2.2 F F0 F1).2.1
    have od : mi_in zd := ⟨by omega, by omega⟩
    have hs := in_run hi
    have p0 : 0 ≤ zp := by omega
    have op : mi_in zp := ⟨by omega, by omega⟩
    obtain ⟨-, -, -, -, -, hU⟩ := hH.1.2.2.1 zp p0 p3
    obtain ⟨e74, x125, it125, pairs, plain⟩ := hU pit
    obtain ⟨⟨l1, -⟩, lm, ln, -, -, -⟩ := hH.1.1.2.2.1 zp p0 p3
    have nxt : g 125 zp.toNat = -1 ∨ (zn + 1 ≤ g 125 zp.toNat ∧ g 125 zp.toNat < wk_u Y ∧ it (g 125 zp.toNat) ∧ wk_c Y (g 125 zp.toNat) = F) := by
      by_cases c : 0 ≤ g 125 zp.toNat
      · obtain ⟨a1, a2, a3, -⟩ := ln c
        exact Or.inr ⟨by omega, a1, it125 c, a2.trans pc⟩
      · exact Or.inl (by omega)
    have nx0 : g 125 zp.toNat < 0 ∨ g 125 zp.toNat < wk_u Y := by omega
    have tF : ∀ M, tpq_F g V Y (fun p => mi_a h 92 p.toNat) M := fun M => vpp_tF hH M
    refine mt_krwG hS of od oi ow oo op on o8 o9 oa (by intros; exfalso; omega) (by intros; exfalso; omega) (by intros; exfalso; omega) (by intros; exfalso; omega) (by intros; exfalso; omega) ?_ ?_
    · intro b c1 c2 c3 c4 c5 c6
      have nm : ¬ 0 ≤ g 124 zp.toNat := fun q => c6 (e74.mpr q)
      have eit : wk_it g (N + 1 + 1) zp = (0, zp, 0) :: wk_it g (N + 1) (g 125 zp.toNat) := by rw [wk_it, if_neg (by omega), if_neg nm]
      rw [eit] at hr
      obtain ⟨m1, m2, s1, L1, L2, k1, k2, k3, k4, k5⟩ := rn_i0 hr
      obtain ⟨a1, -, A1, a3, a4, -⟩ := tpq_u hH.1.1 hH.2.1.2 (vpp_rep hH) (tF m1) (Nat.le_refl _) p0 p3 k3
      obtain ⟨b1, -, A2, b3, b4, -⟩ := tpq_it hH.1.1 hH.2.1.2 (vpp_rep hH) (tF m2) (N + 1) _ m2 _ _ _ (Nat.le_refl _) nx0 k4
      rw [op0] at a1 a3 a4
      rw [a1] at b4
      have eA : A = A1 ++ A2 := app_cancel hA.1 (by rw [b3, a3, List.append_assoc])
      subst eA
      subst k5
      obtain ⟨hA1, hA2⟩ := vpp_A_split a4 b4 hA a3 b3
      refine ⟨⟨by omega, by omega⟩, fun h1 g1 g2 => ?_⟩
      have e := me_nil g2
      subst e
      refine ⟨_, me_wunit (d := d) hWF hi hH p0 p3 u0 u1 z0 (by rw [pc]; exact z1) k3 hA1, fun w h2 hw hq => ?_⟩
      have e := hq.1
      subst e
      have s2' := hq.2.1
      have F2 := hq.2.2.1
      have lv2 := hq.2.2.2.2.2.2.1.2
      cases ho : ofd Lr g L1 (some o) with
      | none =>
        have st := stv_vq hq ho
        exact ww206s s2' of od oi ow oo op n0 (by omega) op o9 oa (stv_1 st) (vq_st st (by rw [List.length_append]; omega) (by rw [ofd_app, ho]; exact ofd_none _))
      | some o1 =>
        have hi2 := in_vq hq ho
        have a71 : mi_a h2 71 (Int.toNat zp) = g 125 zp.toNat := (me_a (k := 71) F2 hS rfl rfl).trans (plain nm)
        refine mt_krwH s2' of od oi ow oo op on op o9 oa (by intros; exfalso; omega) (by intros; exfalso; omega) ?_
        intro y1 y2
        refine ⟨⟨⟨by omega, by omega⟩, by omega, by omega⟩, fun h3 r1 r2 => ?_⟩
        have e := me_nil r2
        subst e
        rw [a71]
        refine (ih (zn + 1) (g 125 zp.toNat) _ q9 qa h3 (q + A1.length) m2 s1 s2 L2 A2 o1 (by omega) (by omega) nxt (fun v e => by cases e; exact op) o9 oa hi2 (vpp_H_fr hH F2 hS rfl rfl rfl) k4 (hA2 h3 hS F2 lv2)).imp (fun w h' hq' => ?_)
        rw [List.length_append, ← Nat.add_assoc]
        exact vq_step ho F2 lv2 hq'
    · intro b c1 c2 c3 c4 c5 c6
      have hm := e74.mp c6
      obtain ⟨a71, b71⟩ := pairs hm
      obtain ⟨m1, m2, m3, m4⟩ := lm hm
      have om : mi_in (g 124 zp.toNat) := ⟨by omega, by omega⟩
      have eit : wk_it g (N + 1 + 1) zp = (0, zp, 1) :: (3, 0, 0) :: (0, g 124 zp.toNat, 0) :: (4, 0, 0) :: wk_it g (N + 1) (g 125 zp.toNat) := by rw [wk_it, if_neg (by omega), if_pos hm]
      rw [eit] at hr
      obtain ⟨j1, j2, j3, sa, sb, L1, L2, L3, -, -, -, k1, k2, k3, k4⟩ := rn_i1 hr
      obtain ⟨a1, aP, A1, a3, a4, -⟩ := tpq_u hH.1.1 hH.2.1.2 (vpp_rep hH) (tF j1) (Nat.le_refl _) p0 p3 k1
      obtain ⟨b1, bP, A2, b3, b4, bt⟩ := tpq_u hH.1.1 hH.2.1.2 (vpp_rep hH) (tF j2) (Nat.le_refl _) hm m1 k2
      rw [op0] at b1 bP b3 b4 bt
      obtain ⟨e1, -, A3, e3, e4, -⟩ := tpq_it hH.1.1 hH.2.1.2 (vpp_rep hH) (tF j3) (N + 1) _ j3 _ _ _ (Nat.le_refl _) nx0 k3
      obtain ⟨t1, t2, t3⟩ := pair_T aP a3 bP b3
      have oD : gm_D (gm_op 1 sj) = gm_D sj := gm_op_e.1
      have oT : gm_T (gm_op 1 sj) = gm_T sj := gm_op_t
      have mD : gm_D (gm_mid sa) = gm_D sa := by unfold gm_mid; rw [gm_D_mk]
      have mT : gm_T (gm_mid sa) = gm_T sa := gm_mid_T
      rw [oD] at a1 a4
      rw [mD, a1] at b1 b4 bt
      rw [t3, b1] at e4
      rw [oT] at a3
      have eA : A = (A2 ++ A1) ++ A3 := app_cancel hA.1 (by rw [e3, t1, List.append_assoc])
      subst eA
      subst k4
      -- all of the pair, the rest
      have hA' : vpp_A g h sj s2 q ((L1 ++ L2) ++ L3) ((A2 ++ A1) ++ A3) := by rw [List.append_assoc L1]; exact hA
      obtain ⟨hAp, hA3⟩ := vpp_A_split (fo_app b4 a4) e4 hA' t1 e3
      obtain ⟨-, x2, x3, x4, x5, x6⟩ := hAp
      obtain ⟨r2, r1⟩ := rh_app b4 a4 x2
      rw [List.length_append] at x3 x5
      have h31 := hi.2.2.2.2.1
      have o92 : mi_in (mi_a h 92 (Int.toNat (g 124 zp.toNat))) := mi_inT _
      have bt : tpc (gm_D sj) A2 = mi_a h 92 (Int.toNat (g 124 zp.toNat)) := bt
      refine ⟨⟨by omega, by omega⟩, fun h1 g1 g2 => ?_⟩
      have e := me_nil g2
      subst e
      rw [a71]
      have os : mi_in (q : Int) := ⟨by omega, by omega⟩
      -- the pair begins
      refine ⟨fun w h' => w = some (.inl (q : Int)) ∧ ab_Sh sx_sk h' ∧ mi_f h' 13831 = ((q + A2.length : Nat) : Int) ∧ ab_Fr [(13831, 13832)] h1 h', mt_kopb (d := d + 6) g1 om (by intros; exfalso; omega) (by intros; exfalso; omega) ?_, fun w h2 hw hq => ?_⟩
      · intro y1 y2
        refine ⟨⟨by omega, by omega⟩, fun h2 v1 v2 => ?_⟩
        have e := me_nil v2
        subst e
        rw [h31]
        refine ⟨_, me_behindc (d := d + 6) (D := gm_D sj) v1 r2 b4 bt n100 (by omega) o92, fun w h3 hw3 hq3 => ?_⟩
        obtain ⟨rfl, rfl⟩ := hq3
        refine mt_kopB (d := d + 6) v1 om os ⟨by omega, by omega⟩ ?_
        intro h4 w1 w2 w3
        exact ⟨rfl, w1, w2, w3⟩
      obtain ⟨rfl, q1, q2, q3⟩ := hq
      obtain ⟨hi2, hl2⟩ := in_fr hi q3 q1 q2
      have F2 : ab_Fr wr_pw h1 h2 := q3.wide (fun c hc => ab_swr_ok (by decide) hc)
      have n2 : mi_f h2 12032 = mi_f h1 12032 := me_f (c := 12032) F2 hS rfl rfl
      refine mt_krwN q1 of od oi ow oo op on om os o9 oa ?_
      intro h3 v1 v2
      have e := me_nil v2
      subst e
      refine ⟨_, me_wunit (d := d) hWF hi2 (vpp_H_fr hH F2 hS rfl rfl rfl) p0 p3 u0 u1 z0 (by rw [pc]; exact z1) k1 ⟨a3, rh_fr r1 F2 hS rfl, by omega, fun e he => x4 e (List.mem_append_left _ he), by omega, fun x hx => x6 x (List.mem_append_right _ hx)⟩, fun w h4 hw4 hq4 => ?_⟩
      have e := hq4.1
      subst e
      have s4 := hq4.2.1
      have F4 := hq4.2.2.1
      have lv4 := hq4.2.2.2.2.2.2.1
      have om4 : mi_in (mi_f h4 13831) := mi_inT _
      -- the rest of the way, once it has stopped
      have stp : ∀ (h5 : sm_H) (zm : Int), mi_in zm → vst h1 u (L1 ++ L2).length h5 → ofd Lr g (L1 ++ L2) (some o) = none → me_E (d + 11) 120 188 [some (.inr (.inr 108)), some (.inl (f F)), some (.inl zd), some (.inl zi), some (.inl zw), some (.inl zo), some (.inl zp), some (.inl zn), some (.inl (g 124 zp.toNat)), some (.inl (q : Int)), some (.inl zm)] [] h5 (vq Lr g h1 u (q + (A2 ++ A1 ++ A3).length) (L1 ++ (L2 ++ L3)) (some o)) := by
        intro h5 zm ozm st hn
        refine mt_krwJ st.1 of od oi ow oo op on om os ozm ?_
        intro h6 y1 y2 y3
        have st6 := stv_fr st y3 y1
        refine ww206s y1 of od oi ow oo op n0 (by omega) om (fun v e => by cases e; exact os) (fun v e => by cases e; exact ozm) (stv_1 st6) (vq_st st6 (by rw [List.length_append, List.length_append, List.length_append]; omega) ?_)
        rw [← List.append_assoc, ofd_app, hn]
        exact ofd_none _
      refine mt_krwI s4 of od oi ow oo op on om os oa ?_
      intro h5 y1 y2 y3
      have F5 : ab_Fr wr_pw h1 h5 := (F2.trans F4).trans (y3.wide (fun c hc => ab_swr_ok (by decide) hc))
      have l5 : mi_f h5 13832 = mi_f h4 13832 := me_f (c := 13832) y3 s4 rfl rfl
      have n5 : mi_f h5 12032 = mi_f h1 12032 := me_f (c := 12032) F5 hS rfl rfl
      cases ho : ofd Lr g L1 (some o) with
      | none =>
        have st4 := stv_vq hq4 ho
        obtain ⟨z1', z2', z3', z4', z5', z6'⟩ := stv_fr st4 y3 y1
        have st5 : vst h1 u (L1 ++ L2).length h5 := ⟨z1', F5, z3', z4', z5', by rw [List.length_append]; omega⟩
        refine ⟨_, me_wunit0 (d := d) y1 (stv_1 st5) om od, fun w h6 hw6 hq6 => ?_⟩
        obtain ⟨rfl, rfl⟩ := hq6
        exact stp h6 _ om4 st5 (by rw [ofd_app, ho]; exact ofd_none _)
      | some o1 =>
        have hi4 := in_vq hq4 ho
        have c4' := hi4.2.2.2.2.1
        obtain ⟨hi5, -⟩ := in_fr (q' := q) hi4 y3 y1 y2
        refine ⟨_, me_wunit (d := d) hWF hi5 (vpp_H_fr hH F5 hS rfl rfl rfl) hm m1 u0 u1 z0 (by rw [m2, pc]; exact z1) k2 ⟨b3, rh_fr r2 F5 hS rfl, by omega, fun e he => x4 e (List.mem_append_right _ he), by omega, fun x hx => x6 x (List.mem_append_left _ hx)⟩, fun w h6 hw6 hq6 => ?_⟩
        have e := hq6.1
        subst e
        have hq6' : vq Lr g h1 u (q + A2.length) (L1 ++ L2) (some o) none h6 := vq_step ho F5 (by omega) hq6
        have s6 := hq6'.2.1
        have F6 := hq6'.2.2.1
        have lv6 := hq6'.2.2.2.2.2.2.1.2
        cases ho2 : ofd Lr g (L1 ++ L2) (some o) with
        | none => exact stp h6 _ om4 (stv_vq hq6' ho2) ho2
        | some o2 =>
          have hi6 := in_vq hq6' ho2
          rw [c4'] at om4 ⊢
          refine mt_krwJ s6 of od oi ow oo op on om os om4 ?_
          intro h7 w1 w2 w3
          obtain ⟨hi7, hl7⟩ := in_fr (q' := q + A2.length + A1.length) hi6 w3 w1 w2
          have F7 : ab_Fr wr_pw h1 h7 := F6.trans (w3.wide (fun c hc => ab_swr_ok (by decide) hc))
          have c71 : mi_a h7 71 (Int.toNat (g 124 zp.toNat)) = g 125 zp.toNat := (me_a (k := 71) F7 hS rfl rfl).trans b71
          refine mt_krwH w1 of od oi ow oo op on om (fun v e => by cases e; exact os) (fun v e => by cases e; exact om4) (by intros; exfalso; omega) (by intros; exfalso; omega) ?_
          intro y4 y5
          refine ⟨⟨⟨by omega, by omega⟩, by omega, by omega⟩, fun h8 r3 r4 => ?_⟩
          have e := me_nil r4
          subst e
          rw [c71]
          have hA8 := hA3 h8 hS F7 (by omega)
          have eq8 : q + A2.length + A1.length = q + (A2 ++ A1).length := by rw [List.length_append, Nat.add_assoc]
          rw [eq8] at hi7 ⊢
          refine (ih (zn + 1) (g 125 zp.toNat) _ _ _ h8 (q + (A2 ++ A1).length) j3 (gm_tu sb) s2 L3 A3 o2 (by omega) (by omega) nxt (fun v e => by cases e; exact om) (fun v e => by cases e; exact os) (fun v e => by cases e; rw [← eq8]; exact om4) hi7 (vpp_H_fr hH F7 hS rfl rfl rfl) k3 hA8).imp (fun w h' hq' => ?_)
          rw [List.length_append (as := A2 ++ A1), ← Nat.add_assoc, ← List.append_assoc L1]
          exact vq_step ho2 F7 (by omega) hq'
theorem me_wform {zd : Int} (hWF : vpp_F f it g Y kw Lr V (d + 7) (zd + 1)) (z0 : 0 ≤ zd) : vpp_F f it g Y kw Lr V (d + 11) zd := by
  intro h s s' u F q n L A o hi hH F0 F1 u0 u1 hz hr hA
  have hS := hi.1
  have hs := in_run hi
  have of := cg_ok hH.1 F0 F1
  have hF := hH.1.2.1 F F0 F1
  have n100 := hH.2.2
  obtain ⟨⟨f0, f1⟩, f2, f3, f4, f5⟩ := id hF
  obtain ⟨d1, d2, d3, d4, dB, d5⟩ := hH.1.1.2.2.2 F F0 F1
  have od : mi_in zd := ⟨by omega, by omega⟩
  have h31 := hi.2.2.2.2.1
  obtain ⟨x1, x2, x3, x4, x5, x6⟩ := id hA
  -- from where the parts are gone through
  have go79 : ∀ (zi zw zo : Int) (h1 : sm_H) (q1 m : Nat) (sj s2 : gm_S) (A1 : List (Int × Int × Int)), mi_in zi → mi_in zo → 0 ≤ zw → zw < g 130 F.toNat → vpp_in h1 u q1 o → vpp_H f it g Y kw Lr h1 → rn g V m u (wk_it g 61 (g 126 (wk_alt g zw.toNat (g 129 F.toNat)).toNat)) sj s2 L → vpp_A g h1 sj s2 q1 L A1 → me_E (d + 11) 120 79 [some (.inr (.inr 108)), some (.inl (f F)), some (.inl zd), some (.inl zi), some (.inl zw), some (.inl zo), none, none, none, none, none] [] h1 (vq Lr g h1 u (q1 + A1.length) L (some o)) := by
    intro zi zw zo h1 q1 m sj s2 A1 oi oo w0 w1 hi1 hH1 hr1 hA1
    have hS1 := hi1.1
    have ow : mi_in zw := ⟨by omega, by omega⟩
    have hFF := hH1.1.2.1 F F0 F1
    refine mt_krwE hS1 of od oi ow oo ?_
    intro h2 g1 g2
    have e := me_nil g2
    subst e
    refine ⟨_, me_galt (d := d + 9) hS1 hFF w0 w1, fun w h3 hw hq => ?_⟩
    obtain ⟨rfl, rfl⟩ := hq
    obtain ⟨⟨p1, p2⟩, p3, -, -, -, p6, p7⟩ := hFF.2.2.2.2 zw.toNat (by omega)
    obtain ⟨-, -, p8⟩ := d5 zw.toNat (by omega)
    generalize wk_alt g zw.toNat (g 129 F.toNat) = a at hw p1 p2 p3 p6 p7 p8 hr1 ⊢
    refine mt_krwF hS1 of od oi ow oo (hw _ rfl) (by intros; exfalso; omega) (by intros; exfalso; omega) ?_
    intro c1 c2
    refine ⟨⟨by omega, by omega⟩, fun h4 r1 r2 => ?_⟩
    have e := me_nil r2
    subst e
    rw [p3]
    refine ww104 (d := d) hWF F0 F1 u0 u1 z0 hz oi ow oo 60 0 (g 126 a.toNat) none none none h4 q1 m sj s2 L A1 o (by decide) (by decide) ?_ (fun v e => by cases e) (fun v e => by cases e) (fun v e => by cases e) hi1 hH1 hr1 hA1
    by_cases c : 0 ≤ g 126 a.toNat
    · have := p8.resolve_left (by omega)
      exact Or.inr ⟨c, this.1, p7 c, this.2⟩
    · exact Or.inl (by omega)
  refine mt_krwA (d := d + 4) hS of od (by intros; exfalso; omega) (by intros; exfalso; omega) (by intros; exfalso; omega) ?_ ?_ (by intros; exfalso; omega)
  · intro b c1 c2 c3 c4 c5
    rw [f3] at c5
    obtain ⟨m, m1, m2⟩ := rn_f0 (by omega) hr
    refine ⟨⟨by omega, by omega⟩, fun h1 g1 g2 => ?_⟩
    have e := me_nil g2
    subst e
    refine mt_krwC hS of od ⟨by decide, by decide⟩ ⟨by decide, by decide⟩ ?_ (by intros; exfalso; omega) (by intros; exfalso; omega)
    intro c6 h2 r1 r2
    have e := me_nil r2
    subst e
    exact go79 0 0 (-1) h2 q m s s' A ⟨by decide, by decide⟩ ⟨by decide, by decide⟩ (by decide) (by omega) hi hH m2 hA
  · intro b c1 c2 c3 c4 c5
    rw [f3] at c5
    obtain ⟨cv, t, m, s2, k1, k2, k3, k4⟩ := rn_f1 c5 hr
    obtain ⟨-, -, p8⟩ := d5 (V (gm_len s)).toNat (by omega)
    obtain ⟨b1, -, B, b3, b4, -⟩ := tpq_it hH.1.1 hH.2.1.2 (vpp_rep hH) (vpp_tF (V := V) hH m) 61 _ m _ _ _ (Nat.le_refl _) (by omega) k3
    obtain ⟨-, -, -, t4, -⟩ := gm_c_t k1
    obtain ⟨-, -, e3, -⟩ := gm_d_e (t := t)
    rw [e3, t4] at b4
    subst k4
    have eA : A = (4 + 10 * ((gm_T s).length : Int), V (gm_len s), gm_D s) :: B := app_cancel x1 (node_T k1 b3)
    subst eA
    obtain ⟨r1, -, r3⟩ := rh_cons b4 x2
    rw [List.length_cons] at x3
    refine ⟨⟨by omega, by omega⟩, fun h1 g1 g2 => ?_⟩
    have e := me_nil g2
    subst e
    have ov : mi_in (V (gm_len s)) := ⟨by omega, by omega⟩
    refine ⟨fun w h' => w = some (.inl (V (gm_len s))) ∧ h' = h1, mt_koch (d := d + 8) hS of (by intros; exfalso; omega) (by intros; exfalso; omega) ?_, fun w h2 hw hq => ?_⟩
    · intro y1 y2 y3
      refine ⟨⟨by omega, by omega⟩, fun h2 v1 v2 => ?_⟩
      have e := me_nil v2
      subst e
      refine ⟨?_, rfl⟩
      rw [h31, Int.toNat_natCast, r1]
    obtain ⟨rfl, rfl⟩ := hq
    refine mt_krwB hS of od ⟨by decide, by decide⟩ ov ?_
    intro h3 v1 v2
    have e := me_nil v2
    subst e
    refine mt_krwC hS of od ⟨by decide, by decide⟩ ov (by intros; exfalso; omega) (by intros; exfalso; omega) ?_
    intro b2 c6 c7 h4 v3 v4
    have e := me_nil v4
    subst e
    refine ⟨fun w h' => w = some (.inl (q : Int)) ∧ ab_Sh sx_sk h' ∧ mi_f h' 13831 = ((q + 1 : Nat) : Int) ∧ ab_Fr [(13831, 13832)] h4 h', mt_koen (d := d + 8) hS ⟨by decide, by decide⟩ ov ?_, fun w h5 hw5 hq => ?_⟩
    · intro b1
      refine ⟨⟨⟨by omega, by omega⟩, by omega, by omega⟩, fun h2 s1 s2 s3 => ⟨congrArg (fun z : Int => some (Sum.inl z : mi_V)) (by omega), s1, by omega, s3⟩⟩
    obtain ⟨rfl, q1, q2, q3⟩ := hq
    obtain ⟨hi5, hl5⟩ := in_fr hi q3 q1 q2
    have F5 : ab_Fr wr_pw h4 h5 := q3.wide (fun c hc => ab_swr_ok (by decide) hc)
    have n5 : mi_f h5 12032 = mi_f h4 12032 := me_f (c := 12032) F5 hS rfl rfl
    have oo : mi_in (q : Int) := ⟨by omega, by omega⟩
    refine mt_krwD q1 of od ⟨by decide, by decide⟩ ov oo ?_
    intro h6 l1 l2
    have e := me_nil l2
    subst e
    refine (go79 1 (V (gm_len s)) _ h6 (q + 1) m (gm_d t) s2 B ⟨by decide, by decide⟩ oo cv.1 cv.2 hi5 (vpp_H_fr hH F5 hS rfl rfl rfl) k3 ⟨b3, rh_fr r3 F5 hS rfl, by omega, x4, by omega, fun x hx => x6 x (List.mem_cons_of_mem _ hx)⟩).imp (fun w h' hv => ?_)
    rw [List.length_cons, show q + (B.length + 1) = q + 1 + B.length from by omega]
    exact vq_step (L0 := []) rfl F5 (by rw [hl5]; show _ ≤ _ + (0 : Int); omega) hv
/-- all depths -/
theorem vpp_F_all : ∀ k : Nat, k ≤ 60 → vpp_F f it g Y kw Lr V (7 + 4 * k) (60 - (k : Int)) := by
  intro k
  induction k with
  | zero =>
    intro _ h s s' u F q n L A o hi hH F0 F1 u0 u1 hz
    have := (hH.1.1.2.2.2 F F0 F1).2.1
    exfalso; omega
  | succ k ih =>
    intro hk
    have e : (60 : Int) - ((k + 1 : Nat) : Int) + 1 = 60 - (k : Int) := by omega
    have := me_wform (d := 4 * k) (f := f) (it := it) (g := g) (Y := Y) (kw := kw) (Lr := Lr) (V := V) (zd := 60 - ((k + 1 : Nat) : Int)) (by
      rw [e, Nat.add_comm]
      exact ih (by omega)) (by omega)
    have e2 : 7 + 4 * (k + 1) = 4 * k + 11 := by omega
    rw [e2]
    exact this
end VW2
