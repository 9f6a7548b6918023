/-! the class's printing walk: a unit -/
section VW1
variable {f : Int → Int} {it : Int → Prop} {g : wk_g} {Y : wk_Y} {kw : Int → Bool} {Lr : Nat → Int} {V : Int → Int} {d : Nat}
theorem vq_refl {h : sm_H} {u : Int} {q : Nat} {o : ox} (hi : vpp_in h u q o) : vq Lr g h u q [] (some o) none h := by
  obtain ⟨a1, a2, a3, a4, a5, a6⟩ := hi
  exact ⟨rfl, a1, ab_Fr.refl, a4, a2, a3, ⟨a6, by show _ ≤ _ + (0 : Int); omega⟩, fun _ => a5⟩
theorem in_run {h : sm_H} {u : Int} {q : Nat} {o : ox} (hi : vpp_in h u q o) : mi_f h 13827 = 0 := (oC_len hi.2.1).1
theorem vpp_A_split {h : sm_H} {s s1 s' : gm_S} {q : Nat} {D : Int} {L1 L2 : List (Int × Int)} {A1 A2 : List (Int × Int × Int)} (fA : fo D A1) (fB : fo D A2) (hA : vpp_A g h s s' q (L1 ++ L2) (A1 ++ A2)) (e1 : gm_T s1 = gm_T s ++ A1) (e2 : gm_T s' = gm_T s1 ++ A2) : vpp_A g h s s1 q L1 A1 ∧ ∀ h', ab_Sh sx_sk h → ab_Fr wr_pw h h' → mi_f h' 13832 ≤ mi_f h 13832 + L1.length → vpp_A g h' s1 s' (q + A1.length) L2 A2 := by
  obtain ⟨x1, x2, x3, x4, x5, x6⟩ := hA
  obtain ⟨r1, r2⟩ := rh_app fA fB x2
  rw [List.length_append] at x3 x5
  refine ⟨⟨e1, r1, by omega, fun e he => x4 e (List.mem_append_left _ he), by omega, fun x hx => x6 x (List.mem_append_left _ hx)⟩, fun h' hS hF hl => ⟨e2, rh_fr r2 hF hS rfl, ?_, fun e he => x4 e (List.mem_append_right _ he), by omega, fun x hx => x6 x (List.mem_append_right _ hx)⟩⟩
  rw [me_f (c := 12032) hF hS rfl rfl]
  omega
theorem wy98 {h : sm_H} {p zd zr zo zm zt : Int} {Q : Option mi_V → sm_H → Prop} (hS : ab_Sh sx_sk h) (op : mi_in p) (od : mi_in zd) (or_ : mi_in zr) (oo : mi_in zo) (om : mi_in zm) (ot : mi_in zt) (hq : Q none h) : me_E (d + 10) 131 98 [some (.inr (.inr 108)), some (.inl p), some (.inl zd), some (.inl zr), some (.inl zo), some (.inl zm), some (.inl zt)] [] h Q := by
  refine mt_kryG hS op od or_ oo om ot ?_
  intro h1 g1 g2
  have e := me_nil g2
  subst e
  exact hq
/-- once it has stopped -/
theorem wy60s {h : sm_H} {p zd zr zo zm zt : Int} {Q : Option mi_V → sm_H → Prop} (hS : ab_Sh sx_sk h) (op : mi_in p) (od : mi_in zd) (or_ : mi_in zr) (oo : mi_in zo) (om : mi_in zm) (ot : mi_in zt) (h1 : mi_f h 13827 = 1) (hq : Q none h) : me_E (d + 10) 131 60 [some (.inr (.inr 108)), some (.inl p), some (.inl zd), some (.inl zr), some (.inl zo), some (.inl zm), some (.inl zt)] [] h Q := by
  refine mt_kryE hS op od or_ oo om ot ?_ (by intros; exfalso; omega) (by intros; exfalso; omega) (by intros; exfalso; omega) (by intros; exfalso; omega) (by intros; exfalso; omega) (by intros; exfalso; omega) (by intros; exfalso; omega)
  intro b c h2 g1 g2
  have e := me_nil g2
  subst e
  exact wy98 hS op od or_ oo om ot hq
theorem me_wunit0 {h : sm_H} {zp zd : Int} (hS : ab_Sh sx_sk h) (h1 : mi_f h 13827 = 1) (op : mi_in zp) (od : mi_in zd) : me_E (d + 10) 131 0 [some (.inr (.inr 108)), some (.inl zp), some (.inl zd), none, none, none, none] [] h (fun w h' => w = none ∧ h' = h) := by
  refine mt_kryA hS op od (by intros; exfalso; omega) ?_ (by intros; exfalso; omega) ?_ (by intros; exfalso; omega) (by intros; exfalso; omega) ?_
  · intro b c1 c2 h2 g1 g2
    exact ⟨rfl, me_nil g2⟩
  · intro b c1 c2 c3 h2 g1 g2
    exact ⟨rfl, me_nil g2⟩
  · intro b c1 c2 c3
    exact ⟨⟨by omega, by omega⟩, fun h2 g1 g2 => ⟨rfl, me_nil g2⟩⟩
/-- the turns of a many -/
theorem wy60 {u p zd v : Int} {zo : Nat} (hWF : vpp_F f it g Y kw Lr V (d + 7) (zd + 1)) (p0 : 0 ≤ p) (p1 : p < wk_u Y) (u0 : 1 ≤ u) (u1 : u ≤ 12) (z0 : 0 ≤ zd) (z1 : zd ≤ 5 * (u - 1) + wk_d Y (wk_c Y p)) (z2 : zd ≤ 1000) (v1 : v ≤ 161) (hzo : zo < 100) : ∀ (N : Nat) (zt : Int) (h : sm_H) (q n : Nat) (sj s2 : gm_S) (L : List (Int × Int)) (B : List (Int × Int × Int)) (o : ox), v - zt ≤ N → 0 ≤ zt → zt ≤ 161 → vpp_in h u q o → vpp_H f it g Y kw Lr h → mi_a h 96 zo = v → rn g V n u [(5, p, v - zt)] sj s2 L → vpp_A g h sj s2 q L B → me_E (d + 10) 131 60 [some (.inr (.inr 108)), some (.inl p), some (.inl zd), some (.inl (5 : Int)), some (.inl (zo : Int)), some (.inl (161 : Int)), some (.inl zt)] [] h (vq Lr g h u (q + B.length) L (some o)) := by
  have od : mi_in zd := ⟨by omega, by omega⟩
  have oo : mi_in (zo : Int) := ⟨by omega, by omega⟩
  have et : Int.toNat (zo : Int) = zo := Int.toNat_natCast _
  intro N
  have done : ∀ (zt : Int) (h : sm_H) (q n : Nat) (sj s2 : gm_S) (L : List (Int × Int)) (B : List (Int × Int × Int)) (o : ox), v - zt ≤ 0 → 0 ≤ zt → zt ≤ 161 → vpp_in h u q o → vpp_H f it g Y kw Lr h → mi_a h 96 zo = v → rn g V n u [(5, p, v - zt)] sj s2 L → vpp_A g h sj s2 q L B → me_E (d + 10) 131 60 [some (.inr (.inr 108)), some (.inl p), some (.inl zd), some (.inl (5 : Int)), some (.inl (zo : Int)), some (.inl (161 : Int)), some (.inl zt)] [] h (vq Lr g h u (q + B.length) L (some o)) := by
    intro zt h q n sj s2 L B o hN t0 t1 hi hH hv hr hA
    have hS := hi.1
    have op : mi_in p := by have := hH.1.1.1; exact ⟨by omega, by omega⟩
    have ot : mi_in zt := ⟨by omega, by omega⟩
    have hs := in_run hi
    rcases rn_5 hr with ⟨c, -⟩ | ⟨-, c, cL⟩
    · exfalso; omega
    have hB : B = [] := app_cancel hA.1 (by rw [c, List.append_nil])
    subst hB
    subst cL
    refine mt_kryE hS op od ⟨by decide, by decide⟩ oo ⟨by decide, by decide⟩ ot (by intros; exfalso; omega) ?_ (by intros; exfalso; omega) (by intros; exfalso; omega) (by intros; exfalso; omega) (by intros; exfalso; omega) ?_ ?_
    · intro b c1 c2 h1 g1 g2
      have e := me_nil g2
      subst e
      exact wy98 hS op od ⟨by decide, by decide⟩ oo ⟨by decide, by decide⟩ ot (vq_refl hi)
    · intro b c1 c2 c3 c4 c5
      refine ⟨⟨by omega, by omega⟩, fun h1 g1 g2 => ?_⟩
      have e := me_nil g2
      subst e
      exact wy98 hS op od ⟨by decide, by decide⟩ oo ⟨by decide, by decide⟩ ot (vq_refl hi)
    · intro b c1 c2 c3 c4 c5
      rw [et, hv] at c5
      exfalso; omega
  induction N with
  | zero =>
    intro zt h q n sj s2 L B o hN
    exact done zt h q n sj s2 L B o (by omega)
  | succ N ih =>
    intro zt h q n sj s2 L B o hN t0 t1 hi hH hv hr hA
    by_cases hc : v - zt ≤ 0
    · exact done zt h q n sj s2 L B o hc t0 t1 hi hH hv hr hA
    have hS := hi.1
    have op : mi_in p := by have := hH.1.1.1; exact ⟨by omega, by omega⟩
    have ot : mi_in zt := ⟨by omega, by omega⟩
    have hs := in_run hi
    rcases rn_5 hr with ⟨-, m1, m2, s1, L1, L2, k1, k2, k3, k4, k5⟩ | ⟨c, -⟩
    · obtain ⟨a1, -, B1, a3, a4, -⟩ := tpq_sg hH.1.1 (vpp_tF (V := V) hH (m1 + 1)) (by omega) p0 p1 k3
      obtain ⟨j, b1, -, B2, b3, b4, -⟩ := tpq_5 hH.1.1 (vpp_tF (V := V) hH m2) p0 p1 (v - zt - 1).toNat _ m2 _ _ _ (by omega) (by omega) k4
      rw [a1] at b4
      have eB : B = B1 ++ B2 := app_cancel hA.1 (by rw [b3, a3, List.append_assoc])
      subst eB
      subst k5
      obtain ⟨hA1, hA2⟩ := vpp_A_split a4 b4 hA a3 b3
      refine mt_kryE hS op od ⟨by decide, by decide⟩ oo ⟨by decide, by decide⟩ ot (by intros; exfalso; omega) (by intros; exfalso; omega) (by intros; exfalso; omega) (by intros; exfalso; omega) (by intros; exfalso; omega) (by intros; exfalso; omega) ?_ ?_
      · intro b c1 c2 c3 c4 c5
        rw [et, hv] at c5
        exfalso; omega
      · intro b c1 c2 c3 c4 c5
        refine ⟨⟨by omega, by omega⟩, fun h1 g1 g2 => ?_⟩
        have e := me_nil g2
        subst e
        refine ⟨_, me_wpart (d := d) hWF hi hH p0 p1 u0 u1 z0 z1 k3 hA1, fun w h2 hw hq => ?_⟩
        have e := hq.1
        subst e
        have s2' := hq.2.1
        have F2 := hq.2.2.1
        have l2 := hq.2.2.2.2.2.2.1.2
        refine mt_kryF s2' op od ⟨by decide, by decide⟩ oo ⟨by decide, by decide⟩ ot ?_
        refine ⟨⟨by omega, by omega⟩, fun h3 r1 r2 => ?_⟩
        have e := me_nil r2
        subst e
        cases ho : ofd Lr g L1 (some o) with
        | none =>
          have st := stv_vq hq ho
          refine wy60s s2' op od ⟨by decide, by decide⟩ oo ⟨by decide, by decide⟩ ⟨by omega, by omega⟩ (oC_no st.2.2.2.1).1 (vq_st st (by rw [List.length_append]; omega) ?_)
          rw [ofd_app, ho]
          exact ofd_none _
        | some o1 =>
          have hi3 := in_vq hq ho
          have k4' : rn g V m2 u [(5, p, v - (zt + 1))] s1 s2 L2 := by
            rw [show v - (zt + 1) = v - zt - 1 by omega]
            exact k4
          have := ih (zt + 1) h3 (q + B1.length) m2 s1 s2 L2 B2 o1 (by omega) (by omega) (by omega) hi3 (vpp_H_fr hH F2 g1 rfl rfl rfl) ((me_a (k := 96) F2 g1 rfl rfl).trans hv) k4' (hA2 h3 g1 F2 l2)
          refine this.imp (fun w h' hq' => ?_)
          rw [List.length_append, ← Nat.add_assoc]
          exact vq_step ho F2 l2 hq'
    · exfalso; omega
theorem me_wunit {h : sm_H} {s s' : gm_S} {u p zd po : Int} {q n : Nat} {o : ox} {L : List (Int × Int)} {A : List (Int × Int × Int)} (hWF : vpp_F f it g Y kw Lr V (d + 7) (zd + 1)) (hi : vpp_in h u q o) (hH : vpp_H f it g Y kw Lr h) (p0 : 0 ≤ p) (p1 : p < wk_u Y) (u0 : 1 ≤ u) (u1 : u ≤ 12) (z0 : 0 ≤ zd) (z1 : zd ≤ 5 * (u - 1) + wk_d Y (wk_c Y p)) (hr : rn g V n u [(0, p, po)] s s' L) (hA : vpp_A g h s s' q L A) : me_E (d + 10) 131 0 [some (.inr (.inr 108)), some (.inl p), some (.inl zd), none, none, none, none] [] h (vq Lr g h u (q + A.length) L (some o)) := by
  have hS := hi.1
  have hu60 := hH.1.1.1
  have n1 := hH.2.2
  obtain ⟨e68, -, -, e72, e122, -⟩ := hH.1.2.2.1 p p0 p1
  obtain ⟨⟨-, -, -, w1, w2⟩, -⟩ := hH.1.1.2.2.1 p p0 p1
  have wd := (hH.1.1.2.2.2 _ w1 w2).2.1
  have op : mi_in p := ⟨by omega, by omega⟩
  have od : mi_in zd := ⟨by omega, by omega⟩
  have o72 : mi_in (mi_a h 72 p.toNat) := mi_inT _
  have hs := in_run hi
  have hq31 := hi.2.2.2.2.1
  obtain ⟨x1, x2, x3, x4, x5, x6⟩ := id hA
  have oT : gm_T (gm_op po s) = gm_T s := gm_op_t
  have oD : gm_D (gm_op po s) = gm_D s := gm_op_e.1
  refine mt_kryA hS op od (by intros; exfalso; omega) (by intros; exfalso; omega) (by intros; exfalso; omega) (by intros; exfalso; omega) ?_ ?_ (by intros; exfalso; omega)
  · intro b c1 c2 c3 c4
    have n0 : ¬ g 122 p.toNat = 0 := fun q => by rw [e72, if_pos q] at c4; exact c4 rfl
    rw [if_neg n0] at e72
    refine ⟨⟨by omega, by omega⟩, fun h1 g1 g2 => ?_⟩
    have e := me_nil g2
    subst e
    refine ⟨fun w h' => w = some (.inl (q : Int)) ∧ ab_Sh sx_sk h' ∧ mi_f h' 13831 = ((q + 1 : Nat) : Int) ∧ ab_Fr [(13831, 13832)] h1 h', mt_koen (d := d + 7) g1 o72 ⟨by decide, by decide⟩ ?_, fun w h2 hw hq => ?_⟩
    · intro b1
      refine ⟨⟨⟨by omega, by omega⟩, by omega, by omega⟩, fun h2 s1 s2 s3 => ⟨congrArg (fun z : Int => some (Sum.inl z : mi_V)) (by omega), s1, by omega, s3⟩⟩
    obtain ⟨rfl, q1, q2, q3⟩ := hq
    obtain ⟨hi2, hl2⟩ := in_fr hi q3 q1 q2
    have F2 : ab_Fr wr_pw h1 h2 := q3.wide (fun c hc => ab_swr_ok (by decide) hc)
    have hH2 : vpp_H f it g Y kw Lr h2 := vpp_H_fr hH F2 g1 rfl rfl rfl
    have n2 : mi_f h2 12032 = mi_f h1 12032 := me_f (c := 12032) F2 g1 rfl rfl
    -- what is said of what is in it, is said of all
    have up : ∀ (h' : sm_H) (w : Option mi_V) (m : Nat), q + A.length = q + 1 + m → vq Lr g h2 u (q + 1 + m) L (some o) w h' → vq Lr g h1 u (q + A.length) L (some o) w h' := by
      intro h' w m em hv
      rw [em]
      exact vq_step (L0 := []) rfl F2 (by rw [hl2]; show _ ≤ _ + (0 : Int); omega) hv
    rw [e72]
    by_cases k1 : g 122 p.toNat = 1
    · -- a many
      have e5 : g 122 p.toNat + 4 = 5 := by omega
      rw [e5]
      obtain ⟨t, m, s2, a1, a2, a3, a4⟩ := rn_u1 k1 hr
      obtain ⟨j, b1, -, B, b3, b4, -⟩ := tpq_5 hH.1.1 (vpp_tF (V := V) hH m) p0 p1 (V (gm_len (gm_op po s))).toNat _ m _ _ _ (by omega) (by omega) a3
      obtain ⟨-, -, -, t4, -⟩ := gm_c_t a1
      obtain ⟨-, -, d3, -⟩ := gm_d_e (t := t)
      rw [d3, t4, oD] at b4
      subst a4
      have eA : A = (5 + 10 * ((gm_T s).length : Int), V (gm_len (gm_op po s)), gm_D s) :: B := app_cancel x1 (by rw [node_T a1 b3, oT, oD])
      subst eA
      obtain ⟨r1, -, r3⟩ := rh_cons b4 x2
      have v161 := x6 _ List.mem_cons_self (show (5 + 10 * ((gm_T s).length : Int)) % 10 = 5 by omega)
      dsimp only at v161
      rw [List.length_cons] at x3
      refine mt_kryD q1 op od ⟨by decide, by decide⟩ ⟨by omega, by omega⟩ (by intros; exfalso; omega) ?_
      intro c5 h5 s1 s2'
      have e := me_nil s2'
      subst e
      have a3' : rn g V m u [(5, p, V (gm_len (gm_op po s)) - 0)] (gm_d t) s2 L := by rw [Int.sub_zero]; exact a3
      have key := wy60 (d := d) (zo := q) hWF p0 p1 u0 u1 z0 z1 (by omega) v161 (by omega) (V (gm_len (gm_op po s))).toNat 0 h5 (q + 1) m (gm_d t) s2 L B o (by omega) (by decide) (by decide) hi2 hH2 ((me_a (k := 96) F2 g1 rfl rfl).trans r1) a3' ⟨b3, rh_fr r3 F2 g1 rfl, by omega, x4, by omega, fun x hx => x6 x (List.mem_cons_of_mem _ hx)⟩
      exact key.imp (fun w h' hv => up h' w B.length (by rw [List.length_cons]; omega) hv)
    · -- a maybe
      have k2 : g 122 p.toNat = 2 := by omega
      have e6 : g 122 p.toNat + 4 = 6 := by omega
      rw [e6]
      obtain ⟨t, a1, a2⟩ := rn_u2 k2 hr
      obtain ⟨-, -, -, t4, -⟩ := gm_c_t a1
      obtain ⟨-, -, d3, -⟩ := gm_d_e (t := t)
      refine mt_kryD q1 op od ⟨by decide, by decide⟩ ⟨by omega, by omega⟩ ?_ (by intros; exfalso; omega)
      intro c5 h5 s1 s2'
      have e := me_nil s2'
      subst e
      have hs5 := in_run hi2
      have et : Int.toNat (q : Int) = q := Int.toNat_natCast _
      rcases a2 with ⟨v0, m, s2, a3, a4, a5⟩ | ⟨v0, a4, a5⟩
      · obtain ⟨b1, -, B, b3, b4, -⟩ := tpq_sg hH.1.1 (vpp_tF (V := V) hH (m + 1)) (by omega) p0 p1 a4
        rw [d3, t4, oD] at b4
        subst a5
        have eA : A = (6 + 10 * ((gm_T s).length : Int), V (gm_len (gm_op po s)), gm_D s) :: B := app_cancel x1 (by rw [node_T a1 b3, oT, oD])
        subst eA
        obtain ⟨r1, -, r3⟩ := rh_cons b4 x2
        have r1' : mi_a h5 96 q = V (gm_len (gm_op po s)) := (me_a (k := 96) F2 g1 rfl rfl).trans r1
        rw [List.length_cons] at x3
        refine mt_kryE q1 op od ⟨by decide, by decide⟩ ⟨by omega, by omega⟩ ⟨by decide, by decide⟩ ⟨by decide, by decide⟩ (by intros; exfalso; omega) (by intros; exfalso; omega) (by intros; exfalso; omega) (by intros; exfalso; omega) (by intros; exfalso; omega) (by intros; exfalso; omega) ?_ ?_
        · intro b y1 y2 y3 y4 y5
          rw [et, r1'] at y5
          exfalso; omega
        · intro b y1 y2 y3 y4 y5
          refine ⟨⟨by omega, by omega⟩, fun h6 l1 l2 => ?_⟩
          have e := me_nil l2
          subst e
          refine ⟨_, me_wpart (d := d) hWF hi2 hH2 p0 p1 u0 u1 z0 z1 a4 ⟨b3, rh_fr r3 F2 g1 rfl, by omega, x4, by omega, fun x hx => x6 x (List.mem_cons_of_mem _ hx)⟩, fun w h7 hw hq => ?_⟩
          have e := hq.1
          subst e
          have s7 := hq.2.1
          have fin := up h7 none B.length (by rw [List.length_cons]; omega) hq
          refine mt_kryF s7 op od ⟨by decide, by decide⟩ ⟨by omega, by omega⟩ ⟨by decide, by decide⟩ ⟨by decide, by decide⟩ ?_
          refine ⟨⟨by decide, by decide⟩, fun h8 k1' k2' => ?_⟩
          have e := me_nil k2'
          subst e
          refine mt_kryE s7 op od ⟨by decide, by decide⟩ ⟨by omega, by omega⟩ ⟨by decide, by decide⟩ ⟨by decide, by decide⟩ ?_ ?_ (by intros; exfalso; omega) (by intros; exfalso; omega) (by intros; exfalso; omega) (by intros; exfalso; omega) (by intros; exfalso; omega) (by intros; exfalso; omega)
          · intro b c h9 n1 n2
            have e := me_nil n2
            subst e
            exact wy98 s7 op od ⟨by decide, by decide⟩ ⟨by omega, by omega⟩ ⟨by decide, by decide⟩ ⟨by decide, by decide⟩ fin
          · intro b c c' h9 n1 n2
            have e := me_nil n2
            subst e
            exact wy98 s7 op od ⟨by decide, by decide⟩ ⟨by omega, by omega⟩ ⟨by decide, by decide⟩ ⟨by decide, by decide⟩ fin
      · subst a4
        subst a5
        have eA : A = [(6 + 10 * ((gm_T s).length : Int), V (gm_len (gm_op po s)), gm_D s)] := app_cancel x1 (by rw [node_T (s2 := gm_d t) (A := []) a1 (List.append_nil _).symm, oT, oD])
        subst eA
        obtain ⟨r1, -, r3⟩ := rh_cons fo_nil x2
        have r1' : mi_a h5 96 q = V (gm_len (gm_op po s)) := (me_a (k := 96) F2 g1 rfl rfl).trans r1
        have x3 : (q : Int) + 1 ≤ mi_f h1 12032 := x3
        have fin := up h5 none 0 rfl (vq_refl hi2)
        refine mt_kryE q1 op od ⟨by decide, by decide⟩ ⟨by omega, by omega⟩ ⟨by decide, by decide⟩ ⟨by decide, by decide⟩ (by intros; exfalso; omega) (by intros; exfalso; omega) (by intros; exfalso; omega) (by intros; exfalso; omega) (by intros; exfalso; omega) (by intros; exfalso; omega) ?_ ?_
        · intro b y1 y2 y3 y4 y5
          refine ⟨⟨by omega, by omega⟩, fun h6 l1 l2 => ?_⟩
          have e := me_nil l2
          subst e
          exact wy98 q1 op od ⟨by decide, by decide⟩ ⟨by omega, by omega⟩ ⟨by decide, by decide⟩ ⟨by decide, by decide⟩ fin
        · intro b y1 y2 y3 y4 y5
          rw [et, r1'] at y5
          exfalso; omega
  · intro b c1 c2 c3 c4
    have n0 : g 122 p.toNat = 0 := by
      by_cases q : g 122 p.toNat = 0
      · exact q
      · rw [e72, if_neg q] at c4
        omega
    refine ⟨⟨by omega, by omega⟩, fun h1 g1 g2 => ?_⟩
    have e := me_nil g2
    subst e
    obtain ⟨m, m1, m2⟩ := rn_u0 (by omega) (by omega) hr
    refine ⟨_, me_wpart (d := d) (s := gm_op po s) hWF hi hH p0 p1 u0 u1 z0 z1 m2 ⟨by rw [oT]; exact x1, x2, x3, x4, x5, x6⟩, fun w h2 hw hq => ?_⟩
    have e := hq.1
    subst e
    refine mt_kryB hq.2.1 op od o72 ?_
    intro h3 r1 r2
    have e := me_nil r2
    subst e
    exact hq
end VW1
