/-! the turns of the reference's walk that prints -/
theorem pf_unit {g : wk_g} {K V : Nat → Int} {w a : Int} {r : List wk_E} {c : Nat} {s' : List wk_E × Nat} (h : wk_pf g K V ((0, w, a) :: r, c) = some s') : (g 122 w.toNat = 1 ∨ g 122 w.toNat = 2) → (0 ≤ V c ∧ V c ≤ 1000000) ∧ c + 1 ≤ s'.2 := by
  intro q
  unfold wk_pf at h
  dsimp only at h
  rw [if_pos rfl] at h
  by_cases c1 : g 122 w.toNat = 1
  · rw [if_pos c1] at h
    split at h
    · rename_i k
      injection h with h
      subst h
      exact ⟨k.2, Nat.le_refl _⟩
    · cases h
  · have c2 : g 122 w.toNat = 2 := by omega
    rw [if_neg c1, if_pos c2] at h
    split at h
    · rename_i k
      refine ⟨k.2, ?_⟩
      split at h
      · exact wk_sg_mono h
      · injection h with h
        subst h
        exact Nat.le_refl _
    · cases h
section ZPT
variable {d : Nat} {h0 : sm_H} {Y : wk_Y} {N : Nat} {sN : gm_S} {R : Option ox} {LN : List (Int × Int)}
theorem zp_u {h h1 : sm_H} {zt w a : Int} (hS0 : ab_Sh sx_sk h0) (hT : wl_T Y h0 2 (tp_I h0)) (hL : wk_L (mi_a h) Y) (hG : zp_G Y h0 N sN LN) (hI : zp_I Y h0 N sN R zt h) (z0 : 0 ≤ zt) (z1 : zt < 40000) (ht : 0 < mi_f h 14029) (g1 : ab_Sh sx_sk h1) (g2 : mi_f h1 14029 = mi_f h 14029 - 1) (g3 : ab_Fr [(14029, 14030)] h h1) (e0 : mi_a h 165 (mi_f h 14029 - 1).toNat = 0) (ew : mi_a h 166 (mi_f h 14029 - 1).toNat = w) (ea : mi_a h 167 (mi_f h 14029 - 1).toNat = a) (ha : a = 0 ∨ a = 1) : me_E (d + 6) 210 0 [some (.inr (.inr 109)), some (.inl w), some (.inl a), none, none] [] h1 (fun v h' => v = none ∧ zp_H Y h0 N sN R (zt + 1) h') := by
  obtain ⟨e1, hg, hn, hag, hK2, hV2, hZ, e30, e32, e16, hlen⟩ := wl_pop hI.1 ht g1 g2 g3
  rw [e0, ew, ea] at e1
  have hSI := hI.1.2.2.1
  rw [e1] at hSI
  have hU : wk_U Y w ((wk_stk h1).length : Int) (mi_f h 14030) (mi_f h 14032) (1 - a) := by
    rcases ha with rfl | rfl
    · exact (wk_unit0 hSI).1
    · exact (wk_unit1 hSI).1
  obtain ⟨u1, u2, u3, u4, u5, u6, u7⟩ := hU
  obtain ⟨⟨a1, -, -, a4, a5⟩, -⟩ := hL.2.2.1 w u1 u2
  have hd := (hL.2.2.2 _ a4 a5).2.1
  obtain ⟨s, o, c1, t1, t2, t3, t4, b0, b1, t5⟩ := zp_turn hS0 hG hI z0 e1
  obtain ⟨s', x1, x2⟩ := hT.1 rfl zt h hI.1 (by rw [e1]; intro z; cases z) z0 z1
  have xm := wk_pf_mono x1
  have ewn : wk_n 2 h = mi_f h 14033 := rfl
  have w0 := hI.1.1.2.2.2.2.2.2.2.2.2.2
  have xm : (wk_n 2 h).toNat ≤ s'.2 := xm
  rw [e1] at x1
  have F01 : ab_Fr wr_WK h0 h1 := hI.1.2.1.trans (g3.wide (fun c hc => ab_swr_ok (by decide) hc))
  have f33 : mi_f h1 14033 = mi_f h 14033 := me_f (c := 14033) g3 hI.1.1.1 rfl rfl
  have f36 : mi_f h1 14036 = mi_f h 14036 := me_f (c := 14036) g3 hI.1.1.1 rfl rfl
  have f30 : mi_f h1 14030 = mi_f h 14030 := e30
  have hg0 : wk_gc (mi_a h0) (mi_a h1) := wk_gc_fr F01 hS0 rfl
  have hgh : wk_gc (mi_a h0) (mi_a h) := wk_gc_fr hI.1.2.1 hS0 rfl
  have yv1 : ∀ c, yv h1 c = yv h0 c := fun c => by unfold yv; rw [me_b (k := 162) F01 hS0 rfl rfl]
  have yev : ∀ (u c : Int) (y : ox), ye h1 u c y = ye h0 u c y := fun u c y => (ye_fr (u := u) (c := c) (y := y) F01 hS0 rfl rfl rfl rfl rfl).1
  have ylv : ∀ (u c : Int), yl h0 u c → yl h1 u c := fun u c => (ye_fr (u := u) (c := c) (y := o) F01 hS0 rfl rfl rfl rfl rfl).2
  have e122 : mi_a h1 122 w.toNat = mi_a h0 122 w.toNat := hg0 122 (by decide) _
  have pu := pf_unit x1
  have eV : wk_V 2 h (wk_n 2 h).toNat = yv h0 (mi_f h 14033) := by
    show (mx_b h 162 (mi_f h 14033).toNat).toInt = (mx_b h0 162 (mi_f h 14033).toNat).toInt
    rw [me_b (k := 162) hI.1.2.1 hS0 rfl rfl]
  rw [dm_st_0] at t3
  have lo : gm_len (gm_op a s) = gm_len s := gm_op_e.2
  have edv : dv (mi_a h0) (yv h0) (0, w, a) s = if mi_a h0 122 w.toNat = 1 then [] else if mi_a h0 122 w.toNat = 2 then (if 0 < yv h0 (gm_len s) then dv_lf (mi_a h0) (yv h0) w (gm_len s + 1) else []) else dv_lf (mi_a h0) (yv h0) w (gm_len s) := by
    unfold dv
    rw [if_pos rfl]
  refine ((wl_u (d := d) hT hL hI.1 z0 z1 ht g1 g2 g3 e0 ew ea ha).and (me_unito (d := d) (o := o) (zp_yo hI.1 ht g1 g2 g3 t1 b0 (by omega) (by omega)) (wl_us hL hg u1 u2) (by omega) ha (fun z => by omega) (fun q => ?_) (fun q1 q2 => ?_) (fun q1 q2 => ?_))).imp (fun v h' hq => ?_)
  · have := pu (by rw [hgh 122 (by decide), ← e122]; exact q)
    rw [eV] at this
    rw [f33, yv1]
    exact ⟨this.1, by omega⟩
  · rw [f33, yv1] at q2
    rw [e122] at q1
    rw [f33]
    unfold dm_u at t3
    rw [if_neg (by omega), if_pos q1] at t3
    obtain ⟨t, k1, k2⟩ := Option.bind_eq_some_iff.mp t3
    rw [lo, t2, if_pos q2] at k2
    obtain ⟨A, -, -, a3, -⟩ := pv_c (by decide) k1
    have ld : gm_len (gm_d t) = gm_len t := gm_d_e.1
    have := zp_leaf hG (show dm_sg 0 (mi_a h0) (yv h0) w ((2, 0, 0) :: wk_stk h1) (gm_d t) = some (c1.1, c1.2) from k2) t4 u1 u2
    rw [ld, a3, lo, t2] at this
    exact ylv _ _ this
  · rw [e122] at q1 q2
    rw [f33]
    unfold dm_u at t3
    rw [if_neg q1, if_neg q2] at t3
    have := zp_leaf hG (show dm_sg 0 (mi_a h0) (yv h0) w (wk_stk h1) (gm_op a s) = some (c1.1, c1.2) from t3) t4 u1 u2
    rw [lo, t2] at this
    exact ylv _ _ this
  · obtain ⟨⟨q1, q2⟩, -, -, q5, q6, q7⟩ := hq
    refine ⟨q1, t5 h' q2 ?_ q6 (by omega)⟩
    have : yu h1 w (mi_f h1 14033) o = zp_f h0 (dv (mi_a h0) (yv h0) (0, w, a) s) (some o) := by
      rw [edv, t2, f33]
      unfold yu
      rw [e122]
      by_cases c1 : mi_a h0 122 w.toNat = 1
      · rw [if_pos c1, if_pos c1]
        rfl
      · rw [if_neg c1, if_neg c1]
        by_cases c2 : mi_a h0 122 w.toNat = 2
        · rw [if_pos c2, if_pos c2, yv1]
          by_cases cv : 0 < yv h0 (mi_f h 14033)
          · rw [if_pos cv, if_pos cv, zp_ye]
            exact yev _ _ _
          · rw [if_neg cv, if_neg cv]
            rfl
        · rw [if_neg c2, if_neg c2, zp_ye]
          exact yev _ _ _
    rw [← this]
    exact q5
theorem zp_a {h h1 : sm_H} {zt w a : Int} (hS0 : ab_Sh sx_sk h0) (hT : wl_T Y h0 2 (tp_I h0)) (hL : wk_L (mi_a h) Y) (hG : zp_G Y h0 N sN LN) (hI : zp_I Y h0 N sN R zt h) (z0 : 0 ≤ zt) (z1 : zt < 40000) (ht : 0 < mi_f h 14029) (g1 : ab_Sh sx_sk h1) (g2 : mi_f h1 14029 = mi_f h 14029 - 1) (g3 : ab_Fr [(14029, 14030)] h h1) (e0 : mi_a h 165 (mi_f h 14029 - 1).toNat = 5) (ew : mi_a h 166 (mi_f h 14029 - 1).toNat = w) (ea : mi_a h 167 (mi_f h 14029 - 1).toNat = a) : me_E (d + 6) 227 0 [some (.inr (.inr 109)), some (.inl w), some (.inl a), none] [] h1 (fun v h' => v = none ∧ zp_H Y h0 N sN R (zt + 1) h') := by
  obtain ⟨e1, hg, hn, hag, hK2, hV2, hZ, e30, e32, e16, hlen⟩ := wl_pop hI.1 ht g1 g2 g3
  rw [e0, ew, ea] at e1
  have oa : mi_in a := by rw [← ea]; exact mi_inT _
  have hSI := hI.1.2.2.1
  rw [e1] at hSI
  obtain ⟨⟨u1, u2, u3, u4, u5, u6, u7⟩, hb⟩ := wk_again hSI
  obtain ⟨⟨a1, -⟩, -⟩ := hL.2.2.1 w u1 u2
  obtain ⟨s, o, c1, t1, t2, t3, t4, b0, b1, t5⟩ := zp_turn hS0 hG hI z0 e1
  obtain ⟨s', x1, x2⟩ := hT.1 rfl zt h hI.1 (by rw [e1]; intro z; cases z) z0 z1
  have xm := wk_pf_mono x1
  have ewn : wk_n 2 h = mi_f h 14033 := rfl
  have w0 := hI.1.1.2.2.2.2.2.2.2.2.2.2
  have xm : (wk_n 2 h).toNat ≤ s'.2 := xm
  have F01 : ab_Fr wr_WK h0 h1 := hI.1.2.1.trans (g3.wide (fun c hc => ab_swr_ok (by decide) hc))
  have f33 : mi_f h1 14033 = mi_f h 14033 := me_f (c := 14033) g3 hI.1.1.1 rfl rfl
  have f36 : mi_f h1 14036 = mi_f h 14036 := me_f (c := 14036) g3 hI.1.1.1 rfl rfl
  have yev : ∀ (u c : Int) (y : ox), ye h1 u c y = ye h0 u c y := fun u c y => (ye_fr (u := u) (c := c) (y := y) F01 hS0 rfl rfl rfl rfl rfl).1
  have ylv : ∀ (u c : Int), yl h0 u c → yl h1 u c := fun u c => (ye_fr (u := u) (c := c) (y := o) F01 hS0 rfl rfl rfl rfl rfl).2
  rw [dm_st_5] at t3
  have edv : dv (mi_a h0) (yv h0) (5, w, a) s = if 0 < a then dv_lf (mi_a h0) (yv h0) w (gm_len s) else [] := by
    unfold dv
    rw [if_neg (show ¬ (5 : Int) = 0 by decide), if_pos rfl]
  refine ((wl_a (d := d) hT hL hI.1 z0 z1 ht g1 g2 g3 e0 ew ea).and (me_againo (d := d) (o := o) (zp_yo hI.1 ht g1 g2 g3 t1 b0 (by omega) (by omega)) (wl_us hL hg u1 u2) oa (fun q => ?_) (by omega))).imp (fun v h' hq => ?_)
  · rw [f33]
    unfold dm_ag at t3
    rw [if_pos q] at t3
    have := zp_leaf hG (show dm_sg 0 (mi_a h0) (yv h0) w ((5, w, a - 1) :: wk_stk h1) s = some (c1.1, c1.2) from t3) t4 u1 u2
    rw [t2] at this
    exact ylv _ _ this
  · obtain ⟨⟨q1, q2⟩, -, -, q5, q6, q7⟩ := hq
    refine ⟨q1, t5 h' q2 ?_ q6 (by omega)⟩
    have : (if 0 < a then ye h1 w (mi_f h1 14033) o else some o) = zp_f h0 (dv (mi_a h0) (yv h0) (5, w, a) s) (some o) := by
      rw [edv, t2, f33]
      by_cases ca : 0 < a
      · rw [if_pos ca, if_pos ca, zp_ye]
        exact yev _ _ _
      · rw [if_neg ca, if_neg ca]
        rfl
    rw [← this]
    exact q5
theorem zp_c {h h1 : sm_H} {zt f a : Int} (hS0 : ab_Sh sx_sk h0) (hT : wl_T Y h0 2 (tp_I h0)) (hL : wk_L (mi_a h) Y) (hG : zp_G Y h0 N sN LN) (hI : zp_I Y h0 N sN R zt h) (z0 : 0 ≤ zt) (z1 : zt < 40000) (ht : 0 < mi_f h 14029) (g1 : ab_Sh sx_sk h1) (g2 : mi_f h1 14029 = mi_f h 14029 - 1) (g3 : ab_Fr [(14029, 14030)] h h1) (e0 : mi_a h 165 (mi_f h 14029 - 1).toNat = 1) (ew : mi_a h 166 (mi_f h 14029 - 1).toNat = f) (ea : mi_a h 167 (mi_f h 14029 - 1).toNat = a) : me_E (d + 6) 223 0 [some (.inr (.inr 109)), some (.inl f), none, none, none, none] [] h1 (fun v h' => v = none ∧ zp_H Y h0 N sN R (zt + 1) h') := by
  obtain ⟨e1, hg, hn, hag, hK2, hV2, hZ, e30, e32, e16, hlen⟩ := wl_pop hI.1 ht g1 g2 g3
  rw [e0, ew, ea] at e1
  have hSI := hI.1.2.2.1
  rw [e1] at hSI
  obtain ⟨hF, hb⟩ := wk_form hSI
  have hL1 : wk_L (mi_a h1) Y := wk_L_g hL hg
  obtain ⟨f1, f2, -⟩ := id hF
  obtain ⟨d1, d2, d3, d4, dB, d5⟩ := hL1.2.2.2 f f1 f2
  have hf80 := hL.2.1
  obtain ⟨s, o, c1, t1, t2, t3, t4, b0, b1, t5⟩ := zp_turn hS0 hG hI z0 e1
  obtain ⟨s', x1, x2⟩ := hT.1 rfl zt h hI.1 (by rw [e1]; intro z; cases z) z0 z1
  have xm := wk_pf_mono x1
  have ewn : wk_n 2 h = mi_f h 14033 := rfl
  have w0 := hI.1.1.2.2.2.2.2.2.2.2.2.2
  have xm : (wk_n 2 h).toNat ≤ s'.2 := xm
  have F01 : ab_Fr wr_WK h0 h1 := hI.1.2.1.trans (g3.wide (fun c hc => ab_swr_ok (by decide) hc))
  have hg0 : wk_gc (mi_a h0) (mi_a h1) := wk_gc_fr F01 hS0 rfl
  have f33 : mi_f h1 14033 = mi_f h 14033 := me_f (c := 14033) g3 hI.1.1.1 rfl rfl
  have f36 : mi_f h1 14036 = mi_f h 14036 := me_f (c := 14036) g3 hI.1.1.1 rfl rfl
  have yv1 : ∀ c, yv h1 c = yv h0 c := fun c => by unfold yv; rw [me_b (k := 162) F01 hS0 rfl rfl]
  rw [dm_st_1] at t3
  have edv : dv (mi_a h0) (yv h0) (1, f, a) s = [] := by
    unfold dv
    rw [if_neg (show ¬ (1 : Int) = 0 by decide), if_neg (show ¬ (1 : Int) = 5 by decide)]
  rw [edv] at t5
  refine ((wl_f (d := d) hT hL hI.1 z0 z1 ht g1 g2 g3 e0 ew ea).and (me_chooseo (d := d) (o := o) (zp_yo hI.1 ht g1 g2 g3 t1 b0 (by omega) (by omega)) f1 (by omega) ⟨d3, d4, fun j hj => ⟨(d5 j hj).1, (d5 j hj).2.1⟩⟩ (wk_L_C hL1) (fun j hj => ?_) (fun j hj => ?_) (fun hc => ?_))).imp (fun v h' hq => ?_)
  · rcases (d5 j hj).2.2 with x | x
    · exact Or.inl x
    · exact Or.inr x.1
  · have := (wl_D hL1 hF hb hj).1
    omega
  · rw [f33, yv1]
    rw [hg0 130 (by decide)] at hc ⊢
    unfold dm_fo at t3
    rw [if_pos hc, t2] at t3
    have gl : gm_len s = ((gm_T s).length : Int) := rfl
    split at t3
    · rename_i k
      obtain ⟨t, k1, k2⟩ := Option.map_eq_some_iff.mp t3
      have := (gm_c_len k1).1
      exact ⟨k.1, k.2, by omega⟩
    · cases t3
  · obtain ⟨⟨q1, q2⟩, -, -, q5, q6, q7⟩ := hq
    exact ⟨q1, t5 h' q2 q5 q6 (by omega)⟩
end ZPT
