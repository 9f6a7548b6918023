/-! grown, exactly -/
section GX6
/-- what a leaf gives -/
def gm_lf (kw : Int → Bool) (o : Int) (s : gm_S) : Option gm_S :=
  if o = 1 then gm_c 2 (gm_v (gm_x (gm_X s)) 10000) (gm_x (gm_X s), gm_F s, gm_T s, gm_D s, gm_P s)
  else if o = 2 then gm_c 3 (gm_nm kw (gm_X s)).1 ((gm_nm kw (gm_X s)).2, gm_F s, gm_T s, gm_D s, gm_P s)
  else some s
theorem gm_lf_1 {kw : Int → Bool} {o : Int} {s : gm_S} {y : Int64} {z : Int} (ho : o = 1) (hy : gm_x (gm_X s) = y) (hz : gm_v y 10000 = z) : gm_lf kw o s = gm_c 2 z (y, gm_F s, gm_T s, gm_D s, gm_P s) := by
  unfold gm_lf
  rw [if_pos ho, hy, hz]
theorem gm_nm_e {kw : Int → Bool} {x y : Int64} {z : Int} (hy : gm_x x = y) (hz : gm_v y 3 = z) : gm_nm kw x = (gm_zs kw 7 (1 + z).toNat (gm_ls (1 + z).toNat 0 y 0).1, (gm_ls (1 + z).toNat 0 y 0).2) := by
  unfold gm_nm
  rw [hy, hz]
theorem gm_lf_2 {kw : Int → Bool} {o : Int} {s : gm_S} {y : Int64} {z : Int} (ho : o = 2) (hy : gm_x (gm_X s) = y) (hz : gm_v y 3 = z) : gm_lf kw o s = gm_c 3 (gm_zs kw 7 (1 + z).toNat (gm_ls (1 + z).toNat 0 y 0).1) ((gm_ls (1 + z).toNat 0 y 0).2, gm_F s, gm_T s, gm_D s, gm_P s) := by
  unfold gm_lf
  rw [if_neg (by omega), if_pos ho, gm_nm_e hy hz]
theorem gm_lf_o {kw : Int → Bool} {o : Int} {s : gm_S} (h1 : o ≠ 1) (h2 : o ≠ 2) : gm_lf kw o s = some s := by
  unfold gm_lf
  rw [if_neg h1, if_neg h2]
variable {h : sm_H} {d : Nat} {zu : Int} {s : gm_S}
theorem gl_node {kd : Int} {zv : Int64} {h3 h4 h5 : sm_H} {s1 : gm_S} (hS : ab_Sh sx_sk h) (F3 : ab_Fr [(14047, 14048)] h h3) (r1 : ab_Sh sx_sk h3) (t1 : ab_Sh sx_sk h4) (t2 : ab_Fr [(14016, 14017), (14044, 14045), (20224, 20225), (20352, 20353), (20480, 20481), (20864, 20865)] h3 h4) (t3 : (gm_c kd zv.toInt s1 = none ∧ mi_f h4 14044 = 1) ∨ (mi_f h4 14044 = 0 ∧ ∃ t, gm_c kd zv.toInt s1 = some t ∧ gx_R h4 t)) (u1 : ab_Sh sx_sk h5) (u2 : ab_Fr [] h4 h5) : gl_Q h (gm_c kd zv.toInt s1) none h5 := by
  refine ⟨rfl, u1, ((F3.wide (fun c hc => ab_swr_ok (by decide) hc)).trans (t2.wide (fun c hc => ab_swr_ok (by decide) hc))).trans (u2.wide (fun c hc => by cases hc)), ((me_f (c := 14034) u2 t1 rfl rfl).trans (me_f (c := 14034) t2 r1 rfl rfl)).trans (me_f (c := 14034) F3 hS rfl rfl), ((me_f (c := 14033) u2 t1 rfl rfl).trans (me_f (c := 14033) t2 r1 rfl rfl)).trans (me_f (c := 14033) F3 hS rfl rfl), ?_⟩
  have e44 : mi_f h5 14044 = mi_f h4 14044 := me_f (c := 14044) u2 t1 rfl rfl
  rcases t3 with ⟨x1, x2⟩ | ⟨x1, t, x2, x3⟩
  · exact Or.inl ⟨x1, e44.trans x2⟩
  · exact Or.inr ⟨e44.trans x1, t, x2, gx_R_fr0 x3 u2 t1 rfl⟩
theorem me_grownx (hS : ab_Sh sx_sk h) (hm : mi_f h 14028 = 1) (hu0 : 0 ≤ zu) (hu1 : zu < 60) (hp : mi_f h 14044 = 0) (hR : gx_R h s) : me_E (d + 1) 215 0 [some (.inr (.inr 109)), some (.inl zu), none, none, none, none] [] h (gl_Q h (gm_lf (gx_kw (mi_f h 13962) (mx_b h 118)) (mi_a h 119 zu.toNat) s)) := by
  have ok : mi_in zu := ⟨by omega, by omega⟩
  obtain ⟨y, hy⟩ : ∃ y, gm_x (gm_X s) = y := ⟨_, rfl⟩
  refine mt_grA hS ok ?_ ?_ ?_
  · intro c1 c2
    obtain ⟨z, hz⟩ : ∃ z, gm_v y 3 = z := ⟨_, rfl⟩
    rw [gm_lf_2 c2 hy hz]
    have hzb := gm_vbt y 3 (by decide) (by decide)
    rw [hz] at hzb
    refine ⟨by omega, fun h1 g1 g2 => ⟨_, me_drawx g1 (by decide) (by decide), ?_⟩⟩
    intro w h2 hw hq
    obtain ⟨q1, q2, q3, q4⟩ := hq
    have R1 : gx_R h1 s := gx_R_fr0 hR g2 hS rfl
    have R2 := gx_R_x R1 q2 g1 q3
    have ex : mx_l h1 14047 = gm_X s := R1.2.1
    rw [ex, hy, hz] at q4
    rw [hy] at R2
    subst q4
    refine mt_grD q1 ok (hw _ rfl) ⟨by decide, by decide⟩ ?_
    refine ⟨by omega, fun h3 r1 r2 => ?_⟩
    have key := gr_letx (d := d) hS hm hu0 hu1 (zn := 1 + z) (by omega) (by omega) (1 + z).toNat 0 (Int64.ofNat 0) 0 h3 (y, gm_F s, gm_T s, gm_D s, gm_P s) (by omega) (by omega) (by decide) (by decide) r1 (((g2.wide (fun c hc => by cases hc)).trans q2).trans (r2.wide (fun c hc => by cases hc))) (gx_R_fr0 R2 r2 q1 rfl)
    have e0 : (Int.toNat 0) = 0 := rfl
    have e1 : ((0 : Nat) : Int) = 0 := rfl
    rw [gm_X_mk, gm_F_mk, gm_T_mk, gm_D_mk, gm_P_mk, e0, e1] at key
    exact key
  · intro c1 c2
    refine ⟨by omega, fun h1 g1 g2 => ?_⟩
    rw [gm_lf_o c1 c2]
    exact ⟨rfl, g1, g2.wide (fun c hc => by cases hc), me_f (c := 14034) g2 hS rfl rfl, me_f (c := 14033) g2 hS rfl rfl, Or.inr ⟨(me_f (c := 14044) g2 hS rfl rfl).trans hp, s, rfl, gx_R_fr0 hR g2 hS rfl⟩⟩
  · intro c1
    obtain ⟨z, hz⟩ : ∃ z, gm_v y 10000 = z := ⟨_, rfl⟩
    rw [gm_lf_1 c1 hy hz]
    have hzb := gm_vbt y 10000 (by decide) (by decide)
    rw [hz] at hzb
    refine ⟨by omega, fun h1 g1 g2 => ⟨_, me_drawx g1 (by decide) (by decide), ?_⟩⟩
    intro w h2 hw hq
    obtain ⟨q1, q2, q3, q4⟩ := hq
    have R1 : gx_R h1 s := gx_R_fr0 hR g2 hS rfl
    have R2 := gx_R_x R1 q2 g1 q3
    have ex : mx_l h1 14047 = gm_X s := R1.2.1
    rw [ex, hy, hz] at q4
    rw [hy] at R2
    subst q4
    refine mt_grB q1 ok (hw _ rfl) ⟨by decide, by decide⟩ ?_
    intro h3 r1 r2
    have F3 : ab_Fr [(14047, 14048)] h h3 := ((g2.wide (fun c hc => by cases hc)).trans q2).trans (r2.wide (fun c hc => by cases hc))
    have ez : ((Int32.ofInt z).toInt64).toInt = z := by rw [Int32.toInt_toInt64, mi_ti ⟨by omega, by omega⟩]
    refine ⟨_, me_comesx r1 ((me_f (c := 14028) F3 hS rfl rfl).trans hm) ⟨by decide, by decide⟩ (gx_R_fr0 R2 r2 q1 rfl), ?_⟩
    intro w h4 hw4 hq4
    obtain ⟨t1, t2, ⟨z2, rfl⟩, t3⟩ := hq4
    have e119 : mi_a h4 119 zu.toNat = mi_a h 119 zu.toNat := (me_a (k := 119) t2 r1 rfl rfl).trans (me_a (k := 119) F3 hS rfl rfl)
    refine mt_grC t1 ok (hw4 _ rfl) ?_ ?_
    · intro c2
      exfalso; omega
    · intro c2
      refine ⟨by omega, fun h5 u1 u2 => ?_⟩
      have := gl_node hS F3 r1 t1 t2 t3 u1 u2
      rw [ez] at this
      exact this
end GX6
