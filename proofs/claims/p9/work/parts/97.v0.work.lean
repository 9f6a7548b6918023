/-! the class's Sets: all of it worked out -/
def wx_Q (hb : sm_H) (w : Option mi_V) (h' : sm_H) : Prop := w = none ∧ ab_Sh sx_sk h' ∧ ab_Fr wk_W hb h' ∧ ∃ (j k : Nat) (W0 : sp_F), sp_eq 70 (cX h') (sps_k (GC hb) 70 j) ∧ sp_fix 70 (GC hb) (sps_k (GC hb) 70 j) ∧ (∀ i : Nat, i < 70 → W0 i = if i = 0 then 1 else 0) ∧ (∀ i : Nat, mx_b h' 81 i = sk_k (sps_k (GC hb) 70 j) (GC hb) 70 W0 k i) ∧ sw_sol (sps_k (GC hb) 70 j) 70 (GC hb) (sk_k (sps_k (GC hb) 70 j) (GC hb) 70 W0 k) ∧
  (∀ F : Nat, F < 70 → ∀ u : Nat, cv_of hb F u → pt_ok (cv_p hb) (sps_k (GC hb) 70 j) h' u ∧ mx_b h' 91 u = pf_v hb (sps_k (GC hb) 70 j) (mx_b h' 81 F) u) ∧
  (∀ F : Nat, F < 70 → ∀ a ∈ cv_A hb F, mx_b h' 88 a.toNat = sa_s (sps_k (GC hb) 70 j) ((cv_l hb a).map (cv_p hb)) ||| (if sa_v (sps_k (GC hb) 70 j) ((cv_l hb a).map (cv_p hb)) = 1 then mx_b h' 81 F else 0)) ∧
  (∃ i, sp_eq 70 (cB h') (sps_k (bG (GC hb)) 70 i) ∧ sp_fix 70 (bG (GC hb)) (sps_k (bG (GC hb)) 70 i)) ∧ ∀ F : Nat, F < 70 → ∀ a ∈ cv_A hb F, mi_a h' 87 a.toNat = min 1000 (sa_h (sps_k (GC hb) 70 j) ((cv_l hb a).map (cv_p hb)))
/-- .. and the tops -/
def wx_T (hb : sm_H) (U : Int) (w : Option mi_V) (h' : sm_H) : Prop := wx_Q hb w h' ∧ tc_Q hb h' U
section WRX
variable {d : Nat} {hb : sm_H} {U : Int}
theorem cv_eq.A {h h' : sm_H} (e : cv_eq h h') (F : Nat) : cv_A h' F = cv_A h F := by
  unfold cv_A
  rw [e.n, e.as, e.1]
theorem wx_loop (hSb : ab_Sh sx_sk hb) (hF : cv_F hb U) (hD : cv_D hb) (hE : cv_E hb) (hTP : tc_P hb U) : ∀ (N : Nat) (zf : Int) (h : sm_H), 70 - zf < N → 0 ≤ zf → zf ≤ 70 → ab_Sh sx_sk h → ab_Fr [(10112, 10625)] hb h → (∀ i : Nat, (i : Int) < zf → mi_a h 79 i = 0 ∧ mx_b h 80 i = 0 ∧ mi_a h 82 i = 1000 ∧ mi_a h 83 i = 0 ∧ mx_b h 81 i = if i = 0 then 1 else 0) → me_E (d + 7) 65 2 [some (.inr (.inr 78)), some (.inl zf)] [] h (wx_T hb U) := by
  intro N
  induction N with
  | zero => intro zf h hN z0 z1; exfalso; omega
  | succ N ih =>
    intro zf h hN z0 z1 hS hFr hv
    have of : mi_in zf := ⟨by omega, by omega⟩
    refine mt_wkB hS of ?_ ?_ ?_
    · intro c1 h1 g1 g2
      have e0 := me_nil g2
      subst e0
      have e : cv_eq hb h1 := cv_eq_fr hFr hSb rfl
      have hF1 := e.F hF
      have h70 : sp_eq 70 (cX h1) sp_bot := fun F hF' => by
        obtain ⟨x1, x2, x3, -⟩ := hv F (by omega)
        exact ⟨x1, x2, x3⟩
      refine ⟨_, me_spreadStartsB (d := d) (hb := h1) hS hF1 hS ab_Fr.refl h70 (fun F hF' => (hv F (by omega)).2.2.2.1), fun w h2 oww hq => ?_⟩
      obtain ⟨⟨rfl, s1, s2, j, s3, s4, s5⟩, ⟨j2, x1, x2⟩, jB, x3, x4⟩ := hq
      rw [e.g] at s3 s4 s5 x1 x2 x3 x4
      rw [e.p] at s5
      have F2 : ab_Fr wk_W hb h2 := (hFr.wide (fun c hc => ab_swr_ok (by decide) hc)).trans (s2.wide (fun c hc => ab_swr_ok (by decide) hc))
      have e2 : cv_eq hb h2 := cv_eq_fr F2 hSb rfl
      refine mt_wkC s1 of (fun h3 g1 g2 => ?_)
      have e0 := me_nil g2
      subst e0
      refine ⟨_, me_spreadFollowsF (d := d) (hb := hb) (X := sps_k (GC hb) 70 j) hSb hF hD (sps_k_01 j) s1 e2 (fun F hF' u hu => s5 F hF' u (e.of.mpr hu)), fun w h4 oww hq => ?_⟩
      obtain ⟨rfl, t1, t2, k, t3, t4, t5⟩ := hq
      have F4 : ab_Fr wk_W hb h4 := F2.trans (t2.wide (fun c hc => ab_swr_ok (by decide) hc))
      have eX4 : cX h4 = cX h3 := cX_fr t2 s1 rfl
      have eB4 : cB h4 = cB h3 := cB_fr t2 s1 rfl
      refine mt_wkD t1 of (fun h5 g1 g2 => ?_)
      have e0 := me_nil g2
      subst e0
      refine ⟨_, me_findDirectors (d := d) t1 (e2.trans (cv_eq_fr t2 s1 rfl)) hF hE, fun w h6 oww hq => ?_⟩
      obtain ⟨rfl, u1, u2, u3⟩ := hq
      refine mt_wkE u1 of (fun h7 g1 g2 => ?_)
      have e0 := me_nil g2
      subst e0
      have F6' : ab_Fr wk_W hb h7 := F4.trans (u2.wide (fun c hc => ab_swr_ok (by decide) hc))
      have e7 : cv_eq hb h7 := cv_eq_fr F6' hSb rfl
      refine ⟨_, me_findTops (d := d + 4) (U := U) u1 (tc_P_eq e7 (me_f (c := 7690) F6' hSb rfl rfl) hTP), fun w h8 oww hq => ?_⟩
      obtain ⟨rfl, v1, v2, v3⟩ := hq
      refine mt_wkF v1 of (fun h9 g1 g2 => ?_)
      have e0 := me_nil g2
      subst e0
      have F9 : ab_Fr wk_W hb h9 := (F4.trans (u2.wide (fun c hc => ab_swr_ok (by decide) hc))).trans (v2.wide (fun c hc => ab_swr_ok (by decide) hc))
      have eX9 : cX h9 = cX h3 := ((cX_fr v2 u1 rfl).trans (cX_fr u2 t1 rfl)).trans eX4
      have eB9 : cB h9 = cB h3 := ((cB_fr v2 u1 rfl).trans (cB_fr u2 t1 rfl)).trans eB4
      have f81 : ∀ i, mx_b h9 81 i = mx_b h5 81 i := fun i => (me_b (k := 81) v2 u1 rfl rfl).trans (me_b (k := 81) u2 t1 rfl rfl)
      refine ⟨⟨rfl, v1, F9, j, k, mx_b h3 81, by rw [eX9]; exact s3, s4, fun i hi => ?_, fun i => ?_, t4, fun F hF' u hu => ⟨?_, ?_⟩, fun F hF' a ha => ?_, ⟨jB, by rw [eB9]; exact x3, x4⟩, fun F hF' a ha => ?_⟩, tc_Q_eq (h1 := h7) ⟨e7.1.symm, e7.2.1.symm, e7.2.2.1.symm, e7.2.2.2.1.symm, e7.2.2.2.2.1.symm, e7.2.2.2.2.2.1.symm, e7.2.2.2.2.2.2.1.symm, e7.2.2.2.2.2.2.2.symm⟩ rfl v3⟩
      · rw [me_b (k := 81) s2 hS rfl rfl]
        exact (hv i (by omega)).2.2.2.2
      · rw [f81, t3]
      · obtain ⟨y1, y2⟩ := s5 F hF' u (e.of.mpr hu)
        exact ⟨(me_a (k := 89) v2 u1 rfl rfl).trans ((me_a (k := 89) u2 t1 rfl rfl).trans ((me_a (k := 89) t2 s1 rfl rfl).trans y1)), (me_b (k := 90) v2 u1 rfl rfl).trans ((me_b (k := 90) u2 t1 rfl rfl).trans ((me_b (k := 90) t2 s1 rfl rfl).trans y2))⟩
      · rw [me_b (k := 91) v2 u1 rfl rfl, me_b (k := 91) u2 t1 rfl rfl, t5 F hF' u hu, f81, t3]
      · have a0 := (cv_as_in _ _ (hF.2 F hF') a ha).1.1
        have ez : ((a.toNat : Nat) : Int) = a := Int.toNat_of_nonneg a0
        obtain ⟨y1, y2, -⟩ := x2 F hF' a (by rw [e.A]; exact ha)
        rw [e.l, e.p, ez] at y1 y2
        have E : sp_eq 70 (sps_k (GC hb) 70 j2) (sps_k (GC hb) 70 j) := x1.symm.trans s3
        have ho := (cv_OK hF F hF' _ (List.mem_map.mpr ⟨a, ha, rfl⟩)).1
        have z1 : sa_v (sps_k (GC hb) 70 j2) ((cv_l hb a).map (cv_p hb)) = sa_v (sps_k (GC hb) 70 j) ((cv_l hb a).map (cv_p hb)) := sE_av E.v _ ho
        have z2 : sa_s (sps_k (GC hb) 70 j2) ((cv_l hb a).map (cv_p hb)) = sa_s (sps_k (GC hb) 70 j) ((cv_l hb a).map (cv_p hb)) := tb_ext (fun b => sE_as (E.s b) _ ho)
        rw [me_b (k := 88) v2 u1 rfl rfl, u3 F hF' a ha, f81]
        unfold dr_v
        rw [me_b (k := 85) t2 s1 rfl rfl, me_a (k := 84) t2 s1 rfl rfl, y1, y2, z1, z2]
      · have a0 := (cv_as_in _ _ (hF.2 F hF') a ha).1.1
        have ez : ((a.toNat : Nat) : Int) = a := Int.toNat_of_nonneg a0
        obtain ⟨-, -, y3⟩ := x2 F hF' a (by rw [e.A]; exact ha)
        rw [e.l, e.p, ez] at y3
        have E : sp_eq 70 (sps_k (GC hb) 70 j2) (sps_k (GC hb) 70 j) := x1.symm.trans s3
        have ho := cv_OK hF F hF' _ (List.mem_map.mpr ⟨a, ha, rfl⟩)
        have z3 := sE_ah (E.h 1000) _ ho.1 ho.2
        rw [me_a (k := 87) v2 u1 rfl rfl, me_a (k := 87) u2 t1 rfl rfl, me_a (k := 87) t2 s1 rfl rfl, y3]
        omega
    · intro c1 c2; exfalso; omega
    · intro c1 c2
      refine ⟨by omega, fun h1 s1 s2 s3 s4 => ?_⟩
      have T43 : ∀ h2, ab_Sh sx_sk h2 → (∀ i, mx_b h2 81 i = if i = zf.toNat then (if zf = 0 then 1 else 0) else mx_b h1 81 i) → ab_Fr [(10368, 10369)] h1 h2 → me_E (d + 7) 65 43 [some (.inr (.inr 78)), some (.inl zf)] [] h2 (wx_T hb U) := by
        intro h2 t1 t2 t3
        refine mt_wkB3 t1 of ?_ ?_ ?_
        · intro k1; exfalso; omega
        · intro k1 k2; exfalso; omega
        · intro k1 k2
          refine ⟨by omega, fun h3 u1 u2 u3 u4 => ih (zf + 1) h3 (by omega) (by omega) (by omega) u1 (((hFr.trans (s4.wide (fun c hc => ab_swr_ok (by decide) hc))).trans (t3.wide (fun c hc => ab_swr_ok (by decide) hc))).trans (u4.wide (fun c hc => ab_swr_ok (by decide) hc))) (fun i hi => ?_)⟩
          have a79 : mi_a h3 79 i = mi_a h1 79 i := (me_a (k := 79) u4 t1 rfl rfl).trans (me_a (k := 79) t3 s1 rfl rfl)
          have a80 : mx_b h3 80 i = mx_b h1 80 i := (me_b (k := 80) u4 t1 rfl rfl).trans (me_b (k := 80) t3 s1 rfl rfl)
          have a81 : mx_b h3 81 i = mx_b h2 81 i := me_b (k := 81) u4 t1 rfl rfl
          have b81 : mx_b h1 81 i = mx_b h 81 i := me_b (k := 81) s4 hS rfl rfl
          have b82 : mi_a h2 82 i = mi_a h 82 i := (me_a (k := 82) t3 s1 rfl rfl).trans (me_a (k := 82) s4 hS rfl rfl)
          have b83 : mi_a h2 83 i = mi_a h 83 i := (me_a (k := 83) t3 s1 rfl rfl).trans (me_a (k := 83) s4 hS rfl rfl)
          rw [a79, a80, a81, s2, s3, t2, u2, u3, b81, b82, b83]
          by_cases ci : i = zf.toNat
          · rw [if_pos ci, if_pos ci, if_pos ci, if_pos ci, if_pos ci]
            refine ⟨rfl, rfl, rfl, rfl, ?_⟩
            by_cases z : zf = 0
            · rw [if_pos z, if_pos (by omega)]
            · rw [if_neg z, if_neg (by omega)]
          · rw [if_neg ci, if_neg ci, if_neg ci, if_neg ci, if_neg ci]
            exact hv i (by omega)
      refine mt_wkB2 s1 of ?_ ?_ ?_ ?_ ?_ ?_
      · intro k1 k2; exfalso; omega
      · intro k1 k2 k3; exfalso; omega
      · intro k1 k2 k3
        refine ⟨by omega, fun h2 t1 t2 t3 => T43 h2 t1 (fun i => ?_) t3⟩
        rw [t2 i, if_neg k1]
        all_goals rfl
      · intro k1 k2; exfalso; omega
      · intro k1 k2 k3; exfalso; omega
      · intro k1 k2 k3
        refine ⟨by omega, fun h2 t1 t2 t3 => T43 h2 t1 (fun i => ?_) t3⟩
        rw [t2 i, if_pos k1]
        all_goals rfl
theorem me_setsWorkX (hSb : ab_Sh sx_sk hb) (hF : cv_F hb U) (hD : cv_D hb) (hE : cv_E hb) (hTP : tc_P hb U) : me_E (d + 7) 65 0 [some (.inr (.inr 78)), none] [] hb (wx_T hb U) := by
  refine mt_wkA hSb (fun h1 g1 g2 => ?_)
  have e0 := me_nil g2
  subst e0
  exact wx_loop hSb hF hD hE hTP 71 0 h1 (by decide) (by decide) (by decide) hSb ab_Fr.refl (fun i hi => by omega)
end WRX
