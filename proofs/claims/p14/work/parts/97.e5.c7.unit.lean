/-! unit of the reference, exactly -/
/-- a unit, once its pair is open -/
def gm_u (g : wk_g) (kw : Int → Bool) (u : Int) (r : List wk_E) (s : gm_S) : Option gm_C :=
  if g 122 u.toNat = 1 then (gm_c 5 (gm_n 3 s) (gm_y s)).map (fun t => ((5, u, gm_n 3 s) :: (2, 0, 0) :: r, gm_d t))
  else if g 122 u.toNat = 2 then (gm_c 6 (gm_n 2 s) (gm_y s)).bind (fun t => if 0 < gm_n 2 s then gm_sg g kw u ((2, 0, 0) :: r) (gm_d t) else some ((2, 0, 0) :: r, gm_d t))
  else gm_sg g kw u r s
theorem gm_n_op {o n : Int} {s : gm_S} : gm_n n (gm_op o s) = gm_n n s := by
  unfold gm_op
  by_cases c : o = 1
  · rw [if_pos c]
    unfold gm_n
    rw [gm_F_mk, gm_X_mk]
  · rw [if_neg c]
theorem gm_st_0 {g : wk_g} {kw : Int → Bool} {u o : Int} {r : List wk_E} {s : gm_S} : gm_st g kw (0, u, o) r s = gm_u g kw u r (gm_op o s) := by
  unfold gm_st gm_u
  rw [if_pos rfl, gm_n_op, gm_n_op]
theorem gm_y_0 {s : gm_S} (hf : gm_F s < 0) : gm_y s = s := by
  unfold gm_y
  rw [if_pos hf]
  rfl
theorem gm_y_1 {s : gm_S} {y : Int64} (hf : ¬ gm_F s < 0) (hy : gm_x (gm_X s) = y) : gm_y s = (y, gm_F s, gm_T s, gm_D s, gm_P s) := by
  unfold gm_y
  rw [if_neg hf, hy]
theorem gm_n_0 {n : Int} {s : gm_S} (hf : gm_F s < 0) : gm_n n s = 0 := by
  unfold gm_n
  rw [if_pos hf]
theorem gm_n_1 {n z : Int} {s : gm_S} {y : Int64} (hf : ¬ gm_F s < 0) (hy : gm_x (gm_X s) = y) (hz : gm_v y n = z) : gm_n n s = z := by
  unfold gm_n
  rw [if_neg hf, hy, hz]
theorem gm_c_t {k v : Int} {s t : gm_S} (h : gm_c k v s = some t) : gm_X t = gm_X s ∧ gm_F t = gm_F s ∧ gm_T t = gm_T s ++ [(k + 10 * ((gm_T s).length : Int), v, gm_D s)] ∧ gm_D t = gm_D s ∧ gm_P t = gm_P s := by
  unfold gm_c at h
  split at h
  · cases h
  · injection h with h
    subst h
    rw [gm_X_mk, gm_F_mk, gm_T_mk, gm_D_mk, gm_P_mk]
    exact ⟨rfl, rfl, rfl, rfl, rfl⟩
section GX8
variable {h : sm_H} {d : Nat} {zu zo : Int} {s : gm_S}
/-- behind the number, of a many -/
theorem un83x {zn : Int} {h1 : sm_H} {s1 : gm_S} (hi : gx_in h s) (hu0 : 0 ≤ zu) (hu1 : zu < 60) (ht : mi_f h 14029 ≤ 2985) (oo : mi_in zo) (on : mi_in zn) (g1 : ab_Sh sx_sk h1) (g2 : ab_Fr [(14047, 14048)] h h1) (hR1 : gx_R h1 s1) (eD : gm_D s1 = gm_D s) : me_E (d + 6) 210 83 [some (.inr (.inr 109)), some (.inl zu), some (.inl zo), none, none] [.inl zn] h1 (gx_Q h ((gm_c 5 zn s1).map (fun t => ((5, zu, zn) :: (2, 0, 0) :: wk_stk h, gm_d t)))) := by
  obtain ⟨i1, i2, i3, i4, i5, i6, i7, i8, i9, i10, i11⟩ := hi
  have ok : mi_in zu := ⟨by omega, by omega⟩
  have ez : ((Int32.ofInt zn).toInt64).toInt = zn := by rw [Int32.toInt_toInt64, mi_ti on]
  refine mt_unD g1 ok oo on ?_
  intro h2 p1 p2
  have e2 := me_nil p2
  subst e2
  refine ⟨_, me_comesx g1 ((me_f (c := 14028) g2 i1 rfl rfl).trans i2) ⟨by decide, by decide⟩ hR1, ?_⟩
  intro w h3 hw3 hq
  obtain ⟨q1, q2, ⟨z, rfl⟩, q3⟩ := hq
  rw [ez] at q3
  have k29 : mi_f h3 14029 = mi_f h 14029 := (me_f (c := 14029) q2 g1 rfl rfl).trans (me_f (c := 14029) g2 i1 rfl rfl)
  have k32 : mi_f h3 14032 = mi_f h 14032 := (me_f (c := 14032) q2 g1 rfl rfl).trans (me_f (c := 14032) g2 i1 rfl rfl)
  have k28 : mi_f h3 14028 = 1 := ((me_f (c := 14028) q2 g1 rfl rfl).trans (me_f (c := 14028) g2 i1 rfl rfl)).trans i2
  have kst : wk_stk h3 = wk_stk h := (wk_stk_fr q2 g1 rfl).trans (wk_stk_fr g2 i1 rfl)
  refine mt_unE q1 ok oo on (hw3 _ rfl) ?_ ?_
  · intro b1 b2 c1
    refine ⟨by omega, fun h4 r1 r2 r3 a5 a6 a7 r4 => ?_⟩
    have hF : ab_Fr wr_W1 h h4 := ((g2.wide (fun c hc => ab_swr_ok (by decide) hc)).trans (q2.wide (fun c hc => ab_swr_ok (by decide) hc))).trans (r4.wide (fun c hc => ab_swr_ok (by decide) hc))
    have l44 : mi_f h4 14044 = mi_f h3 14044 := me_f (c := 14044) r4 q1 rfl rfl
    refine ⟨rfl, r1, hF, ((me_f (c := 14034) r4 q1 rfl rfl).trans (me_f (c := 14034) q2 g1 rfl rfl)).trans (me_f (c := 14034) g2 i1 rfl rfl), ((me_f (c := 14033) r4 q1 rfl rfl).trans (me_f (c := 14033) q2 g1 rfl rfl)).trans (me_f (c := 14033) g2 i1 rfl rfl), ?_⟩
    rcases q3 with ⟨e1, e2⟩ | ⟨e1, t, e2, e3⟩
    · exact Or.inl ⟨by rw [e1]; rfl, l44.trans e2⟩
    · have eT := (gm_c_t e2).2.2.2.1
      refine Or.inr ⟨l44.trans e1, ((5, zu, zn) :: (2, 0, 0) :: wk_stk h, gm_d t), by rw [e2]; rfl, ?_, gx_R_d e3 r4 q1 rfl rfl rfl (by omega) (by omega) r3, ?_⟩
      · have := wk_push2 (by omega) r2 a5 a6 a7
        rw [kst] at this
        exact this
      · rw [me_f (c := 14032) r4 q1 rfl rfl, k32, i5]
        show wk_ul (wk_stk h) = wk_ul ((5, zu, zn) :: (2, 0, 0) :: wk_stk h)
        rw [wk_ul_c (by decide), wk_ul_o, Int.zero_add]
  · intro b1 b2 c1
    exfalso; omega
/-- .. of a maybe -/
theorem un208x {zn : Int} {h1 : sm_H} {s1 : gm_S} (hi : gx_in h s) (hD9 : gm_D s ≤ 990) (hu : wk_us h zu) (ht : mi_f h 14029 ≤ 2985) (oo : mi_in zo) (on : mi_in zn) (g1 : ab_Sh sx_sk h1) (g2 : ab_Fr [(14047, 14048)] h h1) (hR1 : gx_R h1 s1) (eD : gm_D s1 = gm_D s) (eF : gm_F s1 = gm_F s) : me_E (d + 6) 210 208 [some (.inr (.inr 109)), some (.inl zu), some (.inl zo), none, none] [.inl zn] h1 (gx_Q h ((gm_c 6 zn s1).bind (fun t => if 0 < zn then gm_sg (mi_a h) (gx_k h) zu ((2, 0, 0) :: wk_stk h) (gm_d t) else some ((2, 0, 0) :: wk_stk h, gm_d t)))) := by
  obtain ⟨i1, i2, i3, i4, i5, i6, i7, i8, i9, i10, i11⟩ := hi
  have hu0 := hu.1
  have hu1 := hu.2.1
  have ok : mi_in zu := ⟨by omega, by omega⟩
  have ez : ((Int32.ofInt zn).toInt64).toInt = zn := by rw [Int32.toInt_toInt64, mi_ti on]
  refine mt_unH g1 ok oo on ?_
  intro h2 p1 p2
  have e2 := me_nil p2
  subst e2
  refine ⟨_, me_comesx g1 ((me_f (c := 14028) g2 i1 rfl rfl).trans i2) ⟨by decide, by decide⟩ hR1, ?_⟩
  intro w h3 hw3 hq
  obtain ⟨q1, q2, ⟨z, rfl⟩, q3⟩ := hq
  rw [ez] at q3
  have k29 : mi_f h3 14029 = mi_f h 14029 := (me_f (c := 14029) q2 g1 rfl rfl).trans (me_f (c := 14029) g2 i1 rfl rfl)
  have k32 : mi_f h3 14032 = mi_f h 14032 := (me_f (c := 14032) q2 g1 rfl rfl).trans (me_f (c := 14032) g2 i1 rfl rfl)
  have k28 : mi_f h3 14028 = 1 := ((me_f (c := 14028) q2 g1 rfl rfl).trans (me_f (c := 14028) g2 i1 rfl rfl)).trans i2
  have kst : wk_stk h3 = wk_stk h := (wk_stk_fr q2 g1 rfl).trans (wk_stk_fr g2 i1 rfl)
  have eul : wk_ul ((2, 0, 0) :: wk_stk h) = wk_ul (wk_stk h) := by rw [wk_ul_o, Int.zero_add]
  -- the open end is pushed
  have fr : ∀ h4 : sm_H, ab_Fr [(14029, 14030), (14031, 14032), (21120, 21121), (21248, 21249), (21376, 21377)] h3 h4 → ab_Fr wr_W1 h h4 ∧ mi_f h4 14034 = mi_f h 14034 ∧ mi_f h4 14033 = mi_f h 14033 ∧ mi_f h4 14044 = mi_f h3 14044 ∧ mi_f h4 14032 = mi_f h 14032 := fun h4 r4 => ⟨((g2.wide (fun c hc => ab_swr_ok (by decide) hc)).trans (q2.wide (fun c hc => ab_swr_ok (by decide) hc))).trans (r4.wide (fun c hc => ab_swr_ok (by decide) hc)), ((me_f (c := 14034) r4 q1 rfl rfl).trans (me_f (c := 14034) q2 g1 rfl rfl)).trans (me_f (c := 14034) g2 i1 rfl rfl), ((me_f (c := 14033) r4 q1 rfl rfl).trans (me_f (c := 14033) q2 g1 rfl rfl)).trans (me_f (c := 14033) g2 i1 rfl rfl), me_f (c := 14044) r4 q1 rfl rfl, (me_f (c := 14032) r4 q1 rfl rfl).trans k32⟩
  refine mt_unI q1 ok oo on (hw3 _ rfl) ?_ ?_ ?_
  · intro b1 c1
    refine ⟨by omega, fun h4 r1 r2 r3 a5 a6 a7 r4 => ?_⟩
    obtain ⟨f1, f2, f3, f4, f5⟩ := fr h4 r4
    refine ⟨rfl, r1, f1, f2, f3, ?_⟩
    rcases q3 with ⟨e1, e2⟩ | ⟨e1, t, e2, e3⟩
    · exact Or.inl ⟨by rw [e1]; rfl, f4.trans e2⟩
    · have eT := (gm_c_t e2).2.2.2.1
      refine Or.inr ⟨f4.trans e1, ((2, 0, 0) :: wk_stk h, gm_d t), ?_, ?_, gx_R_d e3 r4 q1 rfl rfl rfl (by omega) (by omega) r3, ?_⟩
      · rw [e2, Option.bind_some, if_neg (by omega)]
      · have := wk_push1 (by omega) r2 a5 a6 a7
        rw [kst] at this
        exact this
      · rw [f5, i5]
        exact eul.symm
  · intro b1 b2 c1 c2
    refine ⟨by omega, fun h4 r1 r2 r3 a5 a6 a7 r4 => ?_⟩
    obtain ⟨f1, f2, f3, f4, f5⟩ := fr h4 r4
    rcases q3 with ⟨e1, e2⟩ | ⟨e1, t, e2, e3⟩
    · exact ⟨rfl, r1, f1, f2, f3, Or.inl ⟨by rw [e1]; rfl, f4.trans e2⟩⟩
    · exact absurd e1 c2
  · intro b1 b2 c1 c2
    refine ⟨by omega, fun h4 r1 r2 r3 a5 a6 a7 r4 => ?_⟩
    obtain ⟨f1, f2, f3, f4, f5⟩ := fr h4 r4
    rcases q3 with ⟨e1, e2⟩ | ⟨e1, t, e2, e3⟩
    · exfalso; omega
    · obtain ⟨t1, t2, t3, t4, t5⟩ := gm_c_t e2
      have est := wk_push1 (by omega) r2 a5 a6 a7
      rw [kst] at est
      have hg : wk_gc (mi_a h) (mi_a h4) := wk_gc_fr f1 i1 rfl
      have hk : gx_k h4 = gx_k h := gx_k_fr f1 i1 rfl rfl
      have dD : gm_D (gm_d t) = gm_D t + 1 := by unfold gm_d; rw [gm_D_mk]
      have dF : gm_F (gm_d t) = gm_F t := by unfold gm_d; rw [gm_F_mk]
      rw [e2, Option.bind_some, if_pos c1]
      have hi4 : gx_in h4 (gm_d t) := ⟨r1, (me_f (c := 14028) r4 q1 rfl rfl).trans k28, f4.trans e1, by omega, by rw [est, eul, f5]; exact i5, by omega, by omega, gx_R_d e3 r4 q1 rfl rfl rfl (by omega) (by omega) r3, by omega, by omega, by omega⟩
      refine ⟨_, me_singlex (d := d) hi4 (wk_us_g hg hu) (by omega), ?_⟩
      intro w h5 hw5 hq5
      have e := hq5.1
      subst e
      refine mt_unJ hq5.2.1 ok oo on ?_
      intro h6 u1 u2
      have e6 := me_nil u2
      subst e6
      rw [gm_sg_g hg, hk, est] at hq5
      exact gx_Q_fr i1 f1 f2 f3 hq5
/-- from where pairs have been looked at -/
theorem un24x (hi : gx_in h s) (hD9 : gm_D s ≤ 990) (hu : wk_us h zu) (ht : mi_f h 14029 ≤ 2985) (oo : mi_in zo) : me_E (d + 6) 210 24 [some (.inr (.inr 109)), some (.inl zu), some (.inl zo), none, none] [] h (gx_Q h (gm_u (mi_a h) (gx_k h) zu (wk_stk h) s)) := by
  obtain ⟨i1, i2, i3, i4, i5, i6, i7, i8, i9, i10, i11⟩ := id hi
  have hu0 := hu.1
  have hu1 := hu.2.1
  have ok : mi_in zu := ⟨by omega, by omega⟩
  have e35 : mi_f h 14035 = gm_F s := i8.2.2.1
  obtain ⟨y, hy⟩ : ∃ y, gm_x (gm_X s) = y := ⟨_, rfl⟩
  have Fnil : ∀ {h1 : sm_H}, ab_Fr [] h h1 → ab_Fr [(14047, 14048)] h h1 := fun g => g.wide (fun c hc => by cases hc)
  refine mt_unB i1 ok oo ?_ ?_ ?_ ?_ ?_ ?_ ?_ ?_ ?_
  · intro c1 c2
    refine ⟨by omega, fun h1 g1 g2 => ?_⟩
    have e3 := me_nil g2
    subst e3
    refine ⟨_, me_singlex (d := d) hi hu (by omega), ?_⟩
    intro w h3 hw3 hq
    have e := hq.1
    subst e
    refine mt_unK hq.2.1 ok oo ?_
    intro h6 u1 u2
    have e6 := me_nil u2
    subst e6
    unfold gm_u
    rw [if_neg c1, if_neg c2]
    exact hq
  · intro b c1 c2 c3
    exact absurd i2 c3
  · intro b1 b2 c1 c2 c3
    exact absurd i2 c3
  · intro b1 b2 c1 c2 c3 c4
    obtain ⟨z, hz⟩ : ∃ z, gm_v y 2 = z := ⟨_, rfl⟩
    have nf : ¬ gm_F s < 0 := by omega
    refine ⟨by omega, fun h1 g1 g2 => ?_⟩
    have e3 := me_nil g2
    subst e3
    refine ⟨_, me_drawx g1 (by decide) (by decide), ?_⟩
    intro w h3 hw3 hq
    obtain ⟨q1, q2, q3, q4⟩ := hq
    have R2 := gx_R_x i8 q2 g1 q3
    have ex : mx_l h1 14047 = gm_X s := i8.2.1
    rw [ex, hy, hz] at q4
    rw [hy] at R2
    subst q4
    refine mt_unF q1 ok oo (hw3 _ rfl) ?_
    intro h4 g4 g5
    unfold gm_u
    rw [if_neg c1, if_pos c2, gm_n_1 nf hy hz, gm_y_1 nf hy]
    exact un208x hi hD9 hu ht oo (hw3 _ rfl) g4 (q2.trans (g5.wide (fun c hc => by cases hc))) (gx_R_fr0 R2 g5 q1 rfl) (gm_D_mk _ _ _ _ _) (gm_F_mk _ _ _ _ _)
  · intro b1 b2 c1 c2 c3 c4
    have nf : gm_F s < 0 := by omega
    refine ⟨by omega, fun h1 g1 g2 => ?_⟩
    unfold gm_u
    rw [if_neg c1, if_pos c2, gm_n_0 nf, gm_y_0 nf]
    exact un208x hi hD9 hu ht oo ⟨by decide, by decide⟩ g1 (Fnil g2) (gx_R_fr0 i8 g2 i1 rfl) rfl rfl
  · intro b1 c1 c2
    exact absurd i2 c2
  · intro b1 b2 c1 c2
    exact absurd i2 c2
  · intro b1 b2 c1 c2 c3
    obtain ⟨z, hz⟩ : ∃ z, gm_v y 3 = z := ⟨_, rfl⟩
    have nf : ¬ gm_F s < 0 := by omega
    refine ⟨by omega, fun h1 g1 g2 => ?_⟩
    have e3 := me_nil g2
    subst e3
    refine ⟨_, me_drawx g1 (by decide) (by decide), ?_⟩
    intro w h3 hw3 hq
    obtain ⟨q1, q2, q3, q4⟩ := hq
    have R2 := gx_R_x i8 q2 g1 q3
    have ex : mx_l h1 14047 = gm_X s := i8.2.1
    rw [ex, hy, hz] at q4
    rw [hy] at R2
    subst q4
    refine mt_unC q1 ok oo (hw3 _ rfl) ?_
    intro h4 g4 g5
    unfold gm_u
    rw [if_pos c1, gm_n_1 nf hy hz, gm_y_1 nf hy]
    exact un83x hi hu0 hu1 ht oo (hw3 _ rfl) g4 (q2.trans (g5.wide (fun c hc => by cases hc))) (gx_R_fr0 R2 g5 q1 rfl) (gm_D_mk _ _ _ _ _)
  · intro b1 b2 c1 c2 c3
    have nf : gm_F s < 0 := by omega
    refine ⟨by omega, fun h1 g1 g2 => ?_⟩
    unfold gm_u
    rw [if_pos c1, gm_n_0 nf, gm_y_0 nf]
    exact un83x hi hu0 hu1 ht oo ⟨by decide, by decide⟩ g1 (Fnil g2) (gx_R_fr0 i8 g2 i1 rfl) rfl
/-- with pairs -/
def ux_Q (h : sm_H) (m : Option gm_C) (w : Option mi_V) (h' : sm_H) : Prop := w = none ∧ ab_Sh sx_sk h' ∧ ((m = none ∧ mi_f h' 14044 = 1) ∨ (mi_f h' 14044 = 0 ∧ ∃ c, m = some c ∧ wk_stk h' = c.1 ∧ gx_R h' c.2 ∧ mi_f h' 14032 = wk_ul c.1))
theorem gx_Q_u {h0 h' : sm_H} {m : Option gm_C} {w : Option mi_V} (hq : gx_Q h0 m w h') : ux_Q h m w h' := ⟨hq.1, hq.2.1, hq.2.2.2.2.2⟩
theorem gx_P_lt {h1 : sm_H} {L : Nat} (hlt : ∀ i, i < L → mi_a h1 168 i = mi_a h 168 i ∧ mi_a h1 169 i = mi_a h 169 i) : ∀ q : List (Nat × Nat), q.length ≤ L → gx_P h q → gx_P h1 q := by
  intro q
  induction q with
  | nil => intro _ _; trivial
  | cons p q ih =>
    intro hl hq
    obtain ⟨a, b, c⟩ := hq
    have hl' : q.length + 1 ≤ L := hl
    obtain ⟨e1, e2⟩ := hlt q.length (by omega)
    exact ⟨e1.trans a, b.imp_right (fun b => e2.trans b), ih (by omega) c⟩
theorem gx_op {h1 : sm_H} (hR : gx_R h s) (hS : ab_Sh sx_sk h) (g2 : mi_f h1 14030 = mi_f h 14030 + 1) (g3 : ∀ i, mi_a h1 168 i = if i = Int.toNat (mi_f h 14030) then mi_f h 14016 else mi_a h 168 i) (g4 : ab_Fr [(14030, 14031), (21504, 21505)] h h1) : gx_R h1 (gm_op 1 s) := by
  obtain ⟨r1, r2, r3, r4, r5, r6⟩ := hR
  have el : Int.toNat (mi_f h 14030) = (gm_P s).length := by omega
  unfold gm_op
  rw [if_pos rfl]
  unfold gx_R
  rw [gm_T_mk, gm_X_mk, gm_F_mk, gm_D_mk, gm_P_mk]
  refine ⟨gx_T_fr r1 g4 hS rfl, (me_l (c := 14047) g4 hS rfl rfl).trans r2, (me_f (c := 14035) g4 hS rfl rfl).trans r3, (me_f (c := 14031) g4 hS rfl rfl).trans r4, ?_, ?_, Or.inl rfl, ?_⟩
  · rw [g2, r5, List.length_cons]
    omega
  · rw [g3, if_pos el.symm]
    exact r1.1
  · refine gx_P_lt (L := (gm_P s).length) (fun i hi => ⟨?_, me_a (k := 169) g4 hS rfl rfl⟩) _ (Nat.le_refl _) r6
    rw [g3, if_neg (by omega)]
theorem me_unitx (hi : gx_in h s) (hD9 : gm_D s ≤ 990) (hu : wk_us h zu) (ht : mi_f h 14029 ≤ 2985) (hz : zo = 0 ∨ zo = 1) (hp : zo = 1 → 0 ≤ mi_f h 14030 ∧ mi_f h 14030 < 64) : me_E (d + 6) 210 0 [some (.inr (.inr 109)), some (.inl zu), some (.inl zo), none, none] [] h (ux_Q h (gm_st (mi_a h) (gx_k h) (0, zu, zo) (wk_stk h) s)) := by
  obtain ⟨i1, i2, i3, i4, i5, i6, i7, i8, i9, i10, i11⟩ := id hi
  have hu0 := hu.1
  have hu1 := hu.2.1
  have oo : mi_in zo := ⟨by omega, by omega⟩
  have ou : mi_in zu := ⟨by omega, by omega⟩
  rw [gm_st_0]
  refine mt_unA i1 ou oo ?_ ?_
  · intro c h1 g1 g2
    have e1 := me_nil g2
    subst e1
    have e : gm_op zo s = s := by
      unfold gm_op
      rw [if_neg (by omega)]
    rw [e]
    exact (un24x hi hD9 hu ht oo).imp (fun w h' hq => gx_Q_u hq)
  · intro b1 b2 c
    have z1 : zo = 1 := by omega
    have hp := hp z1
    refine ⟨by omega, fun h1 g1 g2 g3 g4 => ?_⟩
    rw [z1] at oo ⊢
    have est : wk_stk h1 = wk_stk h := wk_stk_fr g4 i1 rfl
    have e29 : mi_f h1 14029 = mi_f h 14029 := me_f (c := 14029) g4 i1 rfl rfl
    have e32 : mi_f h1 14032 = mi_f h 14032 := me_f (c := 14032) g4 i1 rfl rfl
    have hg : wk_gc (mi_a h) (mi_a h1) := wk_gc_fr g4 i1 rfl
    have hk : gx_k h1 = gx_k h := gx_k_fr g4 i1 rfl rfl
    have eF : gm_F (gm_op 1 s) = gm_F s := by unfold gm_op; rw [if_pos rfl, gm_F_mk]
    have eD : gm_D (gm_op 1 s) = gm_D s := by unfold gm_op; rw [if_pos rfl, gm_D_mk]
    have hi1 : gx_in h1 (gm_op 1 s) := ⟨g1, (me_f (c := 14028) g4 i1 rfl rfl).trans i2, (me_f (c := 14044) g4 i1 rfl rfl).trans i3, by omega, by rw [est, e32]; exact i5, by omega, by omega, gx_op i8 i1 g2 g3 g4, by omega, by omega, by omega⟩
    have key := un24x (d := d) (zo := 1) hi1 (by omega) (wk_us_g hg hu) (by omega) oo
    have eu : gm_u (mi_a h1) (gx_k h1) zu (wk_stk h1) (gm_op 1 s) = gm_u (mi_a h) (gx_k h) zu (wk_stk h) (gm_op 1 s) := by
      unfold gm_u
      rw [hk, est, hg 122 (by decide)]
      simp only [gm_sg_g hg]
    rw [eu] at key
    exact key.imp (fun w h' hq => gx_Q_u hq)
end GX8
/-! lowest, choose of the reference, exactly -/
section GX9
theorem gm_lo_s (g : wk_g) (m : Nat) (a n b hi : Int) : gm_lo g (m + 1) a n b hi = gm_lo g m (g 128 a.toNat) (n + 1) (if g 143 a.toNat < hi then n else b) (if g 143 a.toNat < hi then g 143 a.toNat else hi) := by rw [gm_lo]
theorem gm_lo_0 (g : wk_g) (a n b hi : Int) : gm_lo g 0 a n b hi = b := by rw [gm_lo]
theorem gm_lo_b2 (g : wk_g) {B : Int} : ∀ (m : Nat) (a n b hi : Int), 0 ≤ n → n + m ≤ B → 0 ≤ b → b < B → 0 ≤ gm_lo g m a n b hi ∧ gm_lo g m a n b hi < B := by
  intro m
  induction m with
  | zero => intro a n b hi h0 h1 h2 h3; rw [gm_lo_0]; exact ⟨h2, h3⟩
  | succ m ih =>
    intro a n b hi h0 h1 h2 h3
    rw [gm_lo_s]
    refine ih _ _ _ _ (by omega) (by omega) ?_ ?_
    · split <;> omega
    · split <;> omega
variable {d : Nat} {h : sm_H} {zf : Int} {s : gm_S}
theorem me_loBx (hS : ab_Sh sx_sk h) (hf0 : 0 ≤ zf) (hf1 : zf < 80) (hf : wk_fa (mi_a h) zf) : ∀ (N : Nat) (j : Nat) (zb zh : Int), (mi_a h 130 zf.toNat) - j = N → mi_in zb → mi_in zh → me_E d 225 17 [some (.inr (.inr 109)), some (.inl zf), some (.inl (j : Int)), some (.inl zb), some (.inl zh), some (.inl (wk_alt (mi_a h) j (mi_a h 129 zf.toNat)))] [] h (fun w h' => h' = h ∧ w = some (.inl (gm_lo (mi_a h) N (wk_alt (mi_a h) j (mi_a h 129 zf.toNat)) (j : Int) zb zh))) := by
  have of : mi_in zf := ⟨by omega, by omega⟩
  have b130 := me_ab (k := 130) (i := zf.toNat) hS rfl (by decide) (by omega)
  intro N
  induction N with
  | zero =>
    intro j zb zh h1 ob oh
    have hc := wk_fa_at hf (j := j) (by omega)
    generalize ha : wk_alt (mi_a h) j (mi_a h 129 zf.toNat) = a at hc ⊢
    have oj : mi_in (j : Int) := ⟨by omega, by omega⟩
    have oa : mi_in a := by
      rw [← ha]
      cases j with
      | zero => exact mi_inT _
      | succ j => rw [wk_alt_succ]; exact mi_inT _
    refine mt_loB hS of oj ob oh oa ?_ ?_ ?_
    · intro c h3' r1 r2
      exact ⟨me_nil r2, by rw [gm_lo_0]⟩
    · intro c1 c2
      omega
    · intro c1 c2
      omega
  | succ N ih =>
    intro j zb zh h1 ob oh
    have hc := wk_fa_at hf (j := j) (by omega)
    have es := wk_alt_succ (mi_a h) j (mi_a h 129 zf.toNat)
    generalize ha : wk_alt (mi_a h) j (mi_a h 129 zf.toNat) = a at hc es ⊢
    have oj : mi_in (j : Int) := ⟨by omega, by omega⟩
    have oa : mi_in a := by
      rw [← ha]
      cases j with
      | zero => exact mi_inT _
      | succ j => rw [wk_alt_succ]; exact mi_inT _
    rw [gm_lo_s]
    refine mt_loB hS of oj ob oh oa ?_ ?_ ?_
    · intro c h3' r1 r2
      omega
    · intro c1 c2
      refine ⟨by omega, fun h3' r1 r2 => ?_⟩
      have e3 := me_nil r2
      subst e3
      have := ih (j + 1) zb zh (by omega) ob oh
      rw [es] at this
      rw [if_neg (by omega), if_neg (by omega)]
      exact this
    · intro c1 c2
      refine ⟨by omega, fun h3' r1 r2 => ?_⟩
      have e3 := me_nil r2
      subst e3
      have := ih (j + 1) (j : Int) (mi_a h3' 143 a.toNat) (by omega) oj (mi_inT _)
      rw [es] at this
      rw [if_pos c2, if_pos c2]
      exact this
theorem me_lowestx (hS : ab_Sh sx_sk h) (hf0 : 0 ≤ zf) (hf1 : zf < 80) (hf : wk_fa (mi_a h) zf) : me_E d 225 0 [some (.inr (.inr 109)), some (.inl zf), none, none, none, none] [] h (fun w h' => h' = h ∧ w = some (.inl (gm_lo (mi_a h) (mi_a h 130 zf.toNat).toNat (mi_a h 129 zf.toNat) 0 0 1001))) := by
  refine mt_loA hS ⟨by omega, by omega⟩ ?_
  refine ⟨by omega, fun h3 r1 r2 => ?_⟩
  have e3 := me_nil r2
  subst e3
  have := hf.1
  exact me_loBx hS hf0 hf1 hf _ 0 0 1001 (by omega) ⟨by decide, by decide⟩ ⟨by decide, by decide⟩
/-- a form -/
def gm_fo (g : wk_g) (f : Int) (r : List wk_E) (s : gm_S) : Option gm_C :=
  if 1 < g 130 f.toNat then (gm_c 4 (gm_w g f s) (gm_y s)).map (fun t => (wk_it g 61 (g 126 (wk_alt g (gm_w g f s).toNat (g 129 f.toNat)).toNat) ++ (2, 0, 0) :: r, gm_d t))
  else some (wk_it g 61 (g 126 (g 129 f.toNat).toNat) ++ r, s)
theorem gm_w_0 {g : wk_g} {f : Int} (hf : gm_F s < 0) : gm_w g f s = gm_lo g (g 130 f.toNat).toNat (g 129 f.toNat) 0 0 1001 := by
  unfold gm_w
  rw [if_pos hf]
theorem gm_w_1 {g : wk_g} {f z : Int} {y : Int64} (hf : ¬ gm_F s < 0) (hy : gm_x (gm_X s) = y) (hz : gm_v y (g 130 f.toNat) = z) : gm_w g f s = z := by
  unfold gm_w
  rw [if_neg hf, hy, hz]
theorem wk_ul_it2 {g : wk_g} {N : Nat} {u : Int} {r : List wk_E} : wk_ul (wk_it g N u ++ (2, 0, 0) :: r) = wk_ul r := by
  rw [wk_ul_it, wk_ul_o, Int.zero_add]
theorem me_choosex {U : Int} (hi : gx_in h s) (hf0 : 0 ≤ zf) (hf1 : zf < 80) (hf : wk_fa (mi_a h) zf) (hC : wk_C (mi_a h) U) (hfi : ∀ j : Nat, (j : Int) < mi_a h 130 zf.toNat → mi_a h 126 (wk_alt (mi_a h) j (mi_a h 129 zf.toNat)).toNat < 0 ∨ mi_a h 126 (wk_alt (mi_a h) j (mi_a h 129 zf.toNat)).toNat < U) (hlen : ∀ j : Nat, (j : Int) < mi_a h 130 zf.toNat → ((wk_it (mi_a h) 61 (mi_a h 126 (wk_alt (mi_a h) j (mi_a h 129 zf.toNat)).toNat)).length : Int) + mi_f h 14029 + 1 ≤ 2999) : me_E (d + 6) 223 0 [some (.inr (.inr 109)), some (.inl zf), none, none, none, none] [] h (gx_Q h (gm_fo (mi_a h) zf (wk_stk h) s)) := by
  obtain ⟨i1, i2, i3, i4, i5, i6, i7, i8, i9, i10, i11⟩ := hi
  have of : mi_in zf := ⟨by omega, by omega⟩
  have b130 := me_ab (k := 130) (i := zf.toNat) i1 rfl (by decide) (by omega)
  have e35 : mi_f h 14035 = gm_F s := i8.2.2.1
  obtain ⟨y, hy⟩ : ∃ y, gm_x (gm_X s) = y := ⟨_, rfl⟩
  -- behind the choice
  have go80 : ∀ (zz : Int) (h1 : sm_H) (s1 : gm_S), mi_in zz → 0 ≤ zz → zz < mi_a h 130 zf.toNat → ab_Sh sx_sk h1 → ab_Fr [(14047, 14048)] h h1 → gx_R h1 s1 → gm_D s1 = gm_D s → me_E (d + 6) 223 80 [some (.inr (.inr 109)), some (.inl zf), some (.inl (0 : Int)), some (.inl (mi_a h 129 zf.toNat)), none, none] [.inl zz] h1 (gx_Q h ((gm_c 4 zz s1).map (fun t => (wk_it (mi_a h) 61 (mi_a h 126 (wk_alt (mi_a h) zz.toNat (mi_a h 129 zf.toNat)).toNat) ++ (2, 0, 0) :: wk_stk h, gm_d t)))) := by
    intro zz h1 s1 oz hz0 hz1 g1 g2 hR1 eD
    refine mt_chD g1 of ⟨by decide, by decide⟩ (mi_inT _) oz ?_ ?_
    · intro c h2' r1 r2
      have e2 := me_nil r2
      subst e2
      refine mt_chD2 g1 of oz (mi_inT _) ?_
      intro h3 s1' s2
      have e3 := me_nil s2
      subst e3
      have ez : ((Int32.ofInt zz).toInt64).toInt = zz := by rw [Int32.toInt_toInt64, mi_ti oz]
      refine ⟨_, me_comesx (d := d + 5) g1 ((me_f (c := 14028) g2 i1 rfl rfl).trans i2) ⟨by decide, by decide⟩ hR1, ?_⟩
      intro w h4 hw hq
      obtain ⟨q1, q2, ⟨z, rfl⟩, q3⟩ := hq
      rw [ez] at q3
      have n29 : mi_f h4 14029 = mi_f h 14029 := (me_f (c := 14029) q2 g1 rfl rfl).trans (me_f (c := 14029) g2 i1 rfl rfl)
      have n32 : mi_f h4 14032 = mi_f h 14032 := (me_f (c := 14032) q2 g1 rfl rfl).trans (me_f (c := 14032) g2 i1 rfl rfl)
      have nst : wk_stk h4 = wk_stk h := (wk_stk_fr q2 g1 rfl).trans (wk_stk_fr g2 i1 rfl)
      have nF : ab_Fr wr_W1 h h4 := (g2.wide (fun c hc => ab_swr_ok (by decide) hc)).trans (q2.wide (fun c hc => ab_swr_ok (by decide) hc))
      obtain ⟨j, rfl⟩ : ∃ j : Nat, zz = (j : Int) := ⟨zz.toNat, by omega⟩
      have hlj := hlen j hz1
      rw [Int.toNat_natCast]
      refine mt_chE q1 of oz (mi_inT _) (hw _ rfl) ?_
      intro b1
      refine ⟨by clear hlen hfi; omega, fun h5 t1 t2 t3 a5 a6 a7 t4 => ?_⟩
      have est := wk_push1 (by omega) t2 a5 a6 a7
      rw [nst] at est
      have F5 : ab_Fr wr_W1 h h5 := nF.trans (t4.wide (fun c hc => ab_swr_ok (by decide) hc))
      have hg : wk_gc (mi_a h) (mi_a h5) := wk_gc_fr F5 i1 rfl
      have hC5 : wk_C (mi_a h5) U := by
        refine ⟨hC.1, fun u u0 u1 => ?_⟩
        rw [hg 124 (by decide), hg 125 (by decide), hg 124 (by decide)]
        exact hC.2 u u0 u1
      have hf5 : wk_fa (mi_a h5) zf := by
        unfold wk_fa
        rw [hg 130 (by decide), hg 129 (by decide), wk_alt_g hg]
        refine ⟨hf.1, hf.2.1, fun j hj => ?_⟩
        rw [wk_alt_g hg]
        exact hf.2.2 j hj
      have ea : wk_alt (mi_a h5) j (mi_a h5 129 zf.toNat) = wk_alt (mi_a h) j (mi_a h 129 zf.toNat) := by rw [wk_alt_g hg, hg 129 (by decide)]
      have haj := hf.2.2 j hz1
      have hfj := hfi j hz1
      generalize hA : wk_alt (mi_a h) j (mi_a h 129 zf.toNat) = A at ea haj hfj hlj
      have key := ch127 (d := d) (Q := gx_Q h ((gm_c 4 (j : Int) s1).map (fun t => (wk_it (mi_a h) 61 (mi_a h 126 A.toNat) ++ (2, 0, 0) :: wk_stk h, gm_d t)))) t1 of hf0 hf1 hf5 (j := j) (by rw [hg 130 (by decide)]; exact hz1) (fun zj ozj => by
        rw [ea]
        refine (ch146 (U := U) t1 of oz (fun v hv => by cases hv; exact ozj) hC5 haj.1 haj.2 (by rw [hg 126 (by decide)]; exact hfj) (by clear hlen hfi; omega) (by rw [wk_it_g hg, hg 126 (by decide)]; clear hlen hfi; omega)).imp (fun w h' hq => ?_)
        obtain ⟨p1, p2, p3, p4, p5⟩ := hq
        have F6 : ab_Fr wr_W1 h h' := F5.trans (p3.wide (fun c hc => ab_swr_ok (by decide) hc))
        have e44 : mi_f h' 14044 = mi_f h4 14044 := (me_f (c := 14044) p3 t1 rfl rfl).trans (me_f (c := 14044) t4 q1 rfl rfl)
        refine ⟨p1, p2, F6, (((me_f (c := 14034) p3 t1 rfl rfl).trans (me_f (c := 14034) t4 q1 rfl rfl)).trans (me_f (c := 14034) q2 g1 rfl rfl)).trans (me_f (c := 14034) g2 i1 rfl rfl), (((me_f (c := 14033) p3 t1 rfl rfl).trans (me_f (c := 14033) t4 q1 rfl rfl)).trans (me_f (c := 14033) q2 g1 rfl rfl)).trans (me_f (c := 14033) g2 i1 rfl rfl), ?_⟩
        rcases q3 with ⟨e1, e2⟩ | ⟨e1, t, e2, e3⟩
        · exact Or.inl ⟨by rw [e1]; rfl, e44.trans e2⟩
        · have eT := (gm_c_t e2).2.2.2.1
          refine Or.inr ⟨e44.trans e1, (wk_it (mi_a h) 61 (mi_a h 126 A.toNat) ++ (2, 0, 0) :: wk_stk h, gm_d t), by rw [e2]; rfl, ?_, gx_R_fr (gx_R_d e3 t4 q1 rfl rfl rfl (by clear hlen hfi; omega) (by clear hlen hfi; omega) t3) p3 t1 rfl rfl rfl rfl, ?_⟩
          · rw [p5, wk_it_g hg, hg 126 (by decide), est]
          · rw [me_f (c := 14032) p3 t1 rfl rfl, me_f (c := 14032) t4 q1 rfl rfl, n32, i5]
            exact wk_ul_it2.symm) (j + 1) 0 (by clear hlen hfi; omega) (Nat.zero_le _)
      rw [hg 129 (by decide)] at key
      exact key
    · intro b c
      exfalso; clear hlen hfi; omega
  have Fnil : ∀ {h1 : sm_H}, ab_Fr [] h h1 → ab_Fr [(14047, 14048)] h h1 := fun g => g.wide (fun c hc => by cases hc)
  refine mt_chA i1 of ?_ ?_ ?_ ?_ ?_
  · intro c1
    have h1c : (1 : Int) ≤ mi_a h 130 zf.toNat := hf.1
    have h0l : ((0 : Nat) : Int) < mi_a h 130 zf.toNat := by clear hlen hfi; omega
    have hl0 := hlen 0 h0l
    have ha0 := hf.2.2 0 h0l
    have hf0' := hfi 0 h0l
    refine ⟨by clear hlen hfi; omega, fun h1 g1 g2 => ?_⟩
    have e1 := me_nil g2
    subst e1
    unfold gm_fo
    rw [if_neg (by clear hlen hfi; omega)]
    refine (ch146 (U := U) g1 of ⟨by decide, by decide⟩ (fun v hv => by cases hv) hC ha0.1 ha0.2 hf0' i4 (by
      clear hlen hfi
      omega)).imp (fun w h' hq => ?_)
    obtain ⟨p1, p2, p3, p4, p5⟩ := hq
    exact ⟨p1, p2, p3.wide (fun c hc => ab_swr_ok (by decide) hc), me_f (c := 14034) p3 g1 rfl rfl, me_f (c := 14033) p3 g1 rfl rfl, Or.inr ⟨(me_f (c := 14044) p3 g1 rfl rfl).trans i3, _, rfl, p5, gx_R_fr i8 p3 g1 rfl rfl rfl rfl, by rw [me_f (c := 14032) p3 g1 rfl rfl, i5]; exact wk_ul_it.symm⟩⟩
  · intro b1 b2 c1 c2 c3 c4
    have nf : ¬ gm_F s < 0 := by clear hlen hfi; omega
    obtain ⟨z, hz⟩ : ∃ z, gm_v y (mi_a h 130 zf.toNat) = z := ⟨_, rfl⟩
    have hzb := gm_vbt y (mi_a h 130 zf.toNat) (by clear hlen hfi; omega) (by clear hlen hfi; omega)
    rw [hz] at hzb
    refine ⟨by clear hlen hfi; omega, fun h1 g1 g2 => ?_⟩
    have e1 := me_nil g2
    subst e1
    refine ⟨_, me_drawx (d := d + 5) g1 (by clear hlen hfi; omega) (by clear hlen hfi; omega), ?_⟩
    intro w h3 hw hq
    obtain ⟨q1, q2, q3, q4⟩ := hq
    have R2 := gx_R_x i8 q2 g1 q3
    have ex : mx_l h1 14047 = gm_X s := i8.2.1
    rw [ex, hy, hz] at q4
    rw [hy] at R2
    subst q4
    unfold gm_fo
    rw [if_pos c1, gm_w_1 nf hy hz, gm_y_1 nf hy]
    exact go80 z h3 _ (hw _ rfl) hzb.1 hzb.2 q1 q2 R2 (gm_D_mk _ _ _ _ _)
  · intro b1 b2 c1 c2 c3 c4
    have nf : gm_F s < 0 := by clear hlen hfi; omega
    have hl := gm_lo_b2 (mi_a h) (B := mi_a h 130 zf.toNat) (mi_a h 130 zf.toNat).toNat (mi_a h 129 zf.toNat) 0 0 1001 (by decide) (by clear hlen hfi; omega) (by decide) (by clear hlen hfi; omega)
    refine ⟨by clear hlen hfi; omega, fun h1 g1 g2 => ?_⟩
    have e1 := me_nil g2
    subst e1
    refine ⟨_, me_lowestx (d := d + 5) g1 hf0 hf1 hf, ?_⟩
    intro w h3 hw hq
    obtain ⟨rfl, q4⟩ := hq
    subst q4
    unfold gm_fo
    rw [if_pos c1, gm_w_0 nf, gm_y_0 nf]
    generalize gm_lo (mi_a h3) (mi_a h3 130 zf.toNat).toNat (mi_a h3 129 zf.toNat) 0 0 1001 = z at hl hw ⊢
    refine mt_chC g1 of ⟨by decide, by decide⟩ (mi_inT _) (hw _ rfl) ?_
    intro h4 g3 g4
    exact go80 z h4 s (hw _ rfl) hl.1 hl.2 g3 (Fnil g4) (gx_R_fr0 i8 g4 g1 rfl) rfl
  · intro b1 b2 c1 c2 c3
    exfalso; clear hlen hfi; omega
  · intro b1 c1 c2
    exfalso; clear hlen hfi; omega
end GX9
/-! swap of the reference, exactly -/
theorem gm_rot_get {a b : Nat} {T : List (Int × Int × Int)} (hab : a ≤ b) (hb : b ≤ T.length) (k : Nat) : (gm_rot a b T)[k]? = if k < T.length then T[if k < a then k else if k < a + (T.length - b) then k + (b - a) else k - (T.length - b)]? else none := by
  unfold gm_rot
  rw [if_pos ⟨hab, hb⟩]
  by_cases ck : k < T.length
  · rw [if_pos ck]
    by_cases c1 : k < a
    · rw [if_pos c1, List.append_assoc, List.getElem?_append_left (by rw [List.length_take]; omega), List.getElem?_take_of_lt c1]
    · rw [if_neg c1]
      by_cases c2 : k < a + (T.length - b)
      · rw [if_pos c2, List.getElem?_append_left (by rw [List.length_append, List.length_take, List.length_drop]; omega), List.getElem?_append_right (by rw [List.length_take]; omega), List.getElem?_drop, List.length_take]
        exact congrArg (fun i => T[i]?) (by omega)
      · rw [if_neg c2, List.getElem?_append_right (by rw [List.length_append, List.length_take, List.length_drop]; omega), List.getElem?_drop, List.length_append, List.length_take, List.length_drop, List.getElem?_take_of_lt (by omega)]
        exact congrArg (fun i => T[i]?) (by omega)
  · rw [if_neg ck]
    exact List.getElem?_eq_none (by rw [List.length_append, List.length_append, List.length_drop, List.length_drop, List.length_take, List.length_take]; omega)
section GXA
variable {d : Nat} {zb za zn : Int}
/-- the order, behind a swap -/
def sw_o (O : Nat → Int) (a n m : Int) (i : Nat) : Int := if (i : Int) < a then O i else if (i : Int) < m - n then O (i + n.toNat) else if (i : Int) < m then O (i + a.toNat - (m - n).toNat) else O i
theorem sw99x (O : Nat → Int) (m : Int) (ob : mi_in zb) (ha0 : 0 ≤ za) (hn0 : 0 ≤ zn) (han : za + zn ≤ m) (hm : m ≤ 100) : ∀ (N : Nat) (zk : Int) (h : sm_H), zn - zk < N → 0 ≤ zk → zk ≤ zn → mi_f h 14016 = m → ab_Sh sx_sk h → (∀ i : Nat, (i : Int) < zn → mi_a h 145 i = O (i + za.toNat)) → (∀ i : Nat, mi_a h 160 i = if (i : Int) < za then O i else if (i : Int) < m - zn then O (i + zn.toNat) else if (i : Int) < m - zn + zk then O (i + za.toNat - (m - zn).toNat) else O i) → me_E d 226 99 [some (.inr (.inr 109)), some (.inl zb), some (.inl za), some (.inl zn), some (.inl zk)] [] h (fun w h' => w = none ∧ ab_Sh sx_sk h' ∧ ab_Fr wr_sw h h' ∧ mi_f h' 14030 = mi_f h 14030 ∧ ∀ i : Nat, mi_a h' 160 i = sw_o O za zn m i) := by
  have on : mi_in zn := ⟨by omega, by omega⟩
  have oa : mi_in za := ⟨by omega, by omega⟩
  intro N
  induction N with
  | zero => intro zk h h1 h2 h3; omega
  | succ N ih =>
    intro zk h h1 h2 h3 h4 hS hr ho
    have ok : mi_in zk := ⟨by omega, by omega⟩
    refine mt_swD hS ob oa on ok ?_ ?_
    · intro c h3' r1 r2
      have e3 := me_nil r2
      subst e3
      refine ⟨rfl, r1, ab_Fr.refl, rfl, fun i => ?_⟩
      rw [ho]
      unfold sw_o
      have e : m - zn + zk = m := by omega
      rw [e]
    · intro b c
      have br := me_ab (k := 145) (i := zk.toNat) hS rfl (by decide) (by omega)
      refine ⟨by omega, fun h3' r1 r2 r3 => ?_⟩
      have e16 : mi_f h3' 14016 = mi_f h 14016 := me_f (c := 14016) r3 hS rfl rfl
      refine (ih _ h3' (by omega) (by omega) (by omega) (by omega) r1 (fun i hi => (me_a (k := 145) r3 hS rfl rfl).trans (hr i hi)) (fun i => ?_)).imp (fun w h' hq => ⟨hq.1, hq.2.1, (r3.wide (fun c hc => ab_swr_ok (by decide) hc)).trans hq.2.2.1, hq.2.2.2.1.trans (me_f (c := 14030) r3 hS rfl rfl), hq.2.2.2.2⟩)
      rw [r2]
      by_cases ei : i = Int.toNat (mi_f h 14016 - zn + zk)
      · rw [if_pos ei, hr zk.toNat (by omega), if_neg (by omega), if_neg (by omega), if_pos (by omega)]
        exact congrArg O (by omega)
      · rw [if_neg ei, ho]
        by_cases c1 : (i : Int) < za
        · rw [if_pos c1, if_pos c1]
        · rw [if_neg c1, if_neg c1]
          by_cases c2 : (i : Int) < m - zn
          · rw [if_pos c2, if_pos c2]
          · rw [if_neg c2, if_neg c2]
            by_cases c3 : (i : Int) < m - zn + zk
            · rw [if_pos c3, if_pos (by omega)]
            · rw [if_neg c3, if_neg (by omega)]
theorem sw65x (O : Nat → Int) (m : Int) (ha0 : 0 ≤ za) (hn0 : 0 ≤ zn) (hab : zb = za + zn) (hbm : zb ≤ m) (hm : m ≤ 100) : ∀ (N : Nat) (zk : Int) (h : sm_H), 100 - zk < N → zb ≤ zk → zk ≤ m → mi_f h 14016 = m → ab_Sh sx_sk h → (∀ i : Nat, (i : Int) < zn → mi_a h 145 i = O (i + za.toNat)) → (∀ i : Nat, mi_a h 160 i = if (i : Int) < za then O i else if (i : Int) < zk - zn then O (i + zn.toNat) else O i) → me_E d 226 65 [some (.inr (.inr 109)), some (.inl zb), some (.inl za), some (.inl zn), some (.inl zk)] [] h (fun w h' => w = none ∧ ab_Sh sx_sk h' ∧ ab_Fr wr_sw h h' ∧ mi_f h' 14030 = mi_f h 14030 ∧ ∀ i : Nat, mi_a h' 160 i = sw_o O za zn m i) := by
  have on : mi_in zn := ⟨by omega, by omega⟩
  have oa : mi_in za := ⟨by omega, by omega⟩
  have ob : mi_in zb := ⟨by omega, by omega⟩
  intro N
  induction N with
  | zero => intro zk h h1 h2 h3; omega
  | succ N ih =>
    intro zk h h1 h2 h3 h4 hS hr ho
    have ok : mi_in zk := ⟨by omega, by omega⟩
    have b16 := me_fb (c := 14016) hS rfl
    refine mt_swC hS ob oa on ok ?_ ?_
    · intro b c h3' r1 r2
      have e3 := me_nil r2
      subst e3
      refine sw99x O m ob ha0 hn0 (by omega) hm 200 0 h3' (by omega) (by decide) hn0 h4 r1 hr (fun i => ?_)
      have e : zk = m := by omega
      rw [ho, e]
      by_cases c1 : (i : Int) < za
      · rw [if_pos c1, if_pos c1]
      · rw [if_neg c1, if_neg c1]
        by_cases c2 : (i : Int) < m - zn
        · rw [if_pos c2, if_pos c2]
        · rw [if_neg c2, if_neg c2, if_neg (by omega)]
    · intro b c
      have br := me_ab (k := 160) (i := zk.toNat) hS rfl (by decide) (by omega)
      refine ⟨by omega, fun h3' r1 r2 r3 => ?_⟩
      have e16 : mi_f h3' 14016 = mi_f h 14016 := me_f (c := 14016) r3 hS rfl rfl
      refine (ih _ h3' (by omega) (by omega) (by omega) (by omega) r1 (fun i hi => (me_a (k := 145) r3 hS rfl rfl).trans (hr i hi)) (fun i => ?_)).imp (fun w h' hq => ⟨hq.1, hq.2.1, (r3.wide (fun c hc => ab_swr_ok (by decide) hc)).trans hq.2.2.1, hq.2.2.2.1.trans (me_f (c := 14030) r3 hS rfl rfl), hq.2.2.2.2⟩)
      rw [r2]
      by_cases ei : i = Int.toNat (zk - zn)
      · rw [if_pos ei, ho, if_neg (by omega), if_neg (by omega), if_neg (by omega), if_pos (by omega)]
        exact congrArg O (by omega)
      · rw [if_neg ei, ho]
        by_cases c1 : (i : Int) < za
        · rw [if_pos c1, if_pos c1]
        · rw [if_neg c1, if_neg c1]
          by_cases c2 : (i : Int) < zk - zn
          · rw [if_pos c2, if_pos (by omega)]
          · rw [if_neg c2, if_neg (by omega)]
theorem sw34x (m : Int) (ha0 : 0 ≤ za) (hn0 : 0 ≤ zn) (hab : zb = za + zn) (hbm : zb ≤ m) (hm : m ≤ 100) : ∀ (N : Nat) (zk : Int) (h : sm_H), zn - zk < N → 0 ≤ zk → zk ≤ zn → mi_f h 14016 = m → ab_Sh sx_sk h → (∀ i : Nat, (i : Int) < zk → mi_a h 145 i = mi_a h 160 (i + za.toNat)) → me_E d 226 34 [some (.inr (.inr 109)), some (.inl zb), some (.inl za), some (.inl zn), some (.inl zk)] [] h (fun w h' => w = none ∧ ab_Sh sx_sk h' ∧ ab_Fr wr_sw h h' ∧ mi_f h' 14030 = mi_f h 14030 ∧ ∀ i : Nat, mi_a h' 160 i = sw_o (mi_a h 160) za zn m i) := by
  intro N
  induction N with
  | zero => intro zk h h1 h2 h3; omega
  | succ N ih =>
    intro zk h h1 h2 h3 h4 hS hr
    have ok : mi_in zk := ⟨by omega, by omega⟩
    have on : mi_in zn := ⟨by omega, by omega⟩
    have ob : mi_in zb := ⟨by omega, by omega⟩
    have oa : mi_in za := ⟨by omega, by omega⟩
    refine mt_swB hS ob oa on ok ?_ ?_
    · intro c h3' r1 r2
      have e3 := me_nil r2
      subst e3
      have e : zk = zn := by omega
      refine sw65x (mi_a h3' 160) m ha0 hn0 hab hbm hm 200 zb h3' (by omega) (by omega) (by omega) h4 r1 (fun i hi => hr i (by omega)) (fun i => ?_)
      by_cases c1 : (i : Int) < za
      · rw [if_pos c1]
      · rw [if_neg c1, if_neg (by omega)]
    · intro c
      have br := me_ab (k := 160) (i := (za + zk).toNat) hS rfl (by decide) (by omega)
      refine ⟨by omega, fun h3' r1 r2 r3 => ?_⟩
      have e16 : mi_f h3' 14016 = mi_f h 14016 := me_f (c := 14016) r3 hS rfl rfl
      have e160 : mi_a h3' 160 = mi_a h 160 := funext fun i => me_a (k := 160) r3 hS rfl rfl
      have key := ih (zk + 1) h3' (by omega) (by omega) (by omega) (by omega) r1 (fun i hi => by
        rw [r2, e160]
        by_cases ei : i = Int.toNat zk
        · rw [if_pos ei]
          exact congrArg (mi_a h 160) (by omega)
        · rw [if_neg ei]
          exact hr i (by omega))
      rw [e160] at key
      exact key.imp (fun w h' hq => ⟨hq.1, hq.2.1, (r3.wide (fun c hc => ab_swr_ok (by decide) hc)).trans hq.2.2.1, hq.2.2.2.1.trans (me_f (c := 14030) r3 hS rfl rfl), hq.2.2.2.2⟩)
theorem gx_T_sw {h h' : sm_H} {T : List (Int × Int × Int)} {a b : Nat} (hT : gx_T h T) (hab : a ≤ b) (hb : b ≤ T.length) (e16 : mi_f h' 14016 = mi_f h 14016) (e158 : ∀ i, mi_a h' 158 i = mi_a h 158 i) (e159 : ∀ i, mi_a h' 159 i = mi_a h 159 i) (e163 : ∀ i, mx_b h' 163 i = mx_b h 163 i) (eo : ∀ i : Nat, mi_a h' 160 i = sw_o (mi_a h 160) (a : Int) ((b : Int) - a) (T.length : Int) i) : gx_T h' (gm_rot a b T) := by
  obtain ⟨t1, t2, t3⟩ := hT
  have ep : ∀ k : Nat, k < T.length → mi_a h' 160 k = mi_a h 160 (if k < a then k else if k < a + (T.length - b) then k + (b - a) else k - (T.length - b)) := by
    intro k hk
    rw [eo]
    unfold sw_o
    by_cases c1 : k < a
    · rw [if_pos c1, if_pos (by omega)]
    · rw [if_neg c1, if_neg (by omega)]
      by_cases c2 : k < a + (T.length - b)
      · rw [if_pos c2, if_pos (by omega)]
        exact congrArg (mi_a h 160) (by omega)
      · rw [if_neg c2, if_neg (by omega), if_pos (by omega)]
        exact congrArg (mi_a h 160) (by omega)
  have hp : ∀ k : Nat, k < T.length → (if k < a then k else if k < a + (T.length - b) then k + (b - a) else k - (T.length - b)) < T.length := by
    intro k hk
    split
    · omega
    · split <;> omega
  unfold gx_T
  rw [gm_rot_len, e16]
  refine ⟨t1, fun k hk => ?_, fun k j hk hj e => ?_⟩
  · rw [ep k hk, e158, e159, e163, gm_rot_get hab hb, if_pos hk]
    exact t2 _ (hp k hk)
  · rw [ep k hk, ep j hj] at e
    have := t3 _ _ (hp k hk) (hp j hj) e
    split at this
    · split at this
      · exact this
      · split at this <;> omega
    · split at this
      · split at this
        · omega
        · split at this <;> omega
      · split at this
        · omega
        · split at this <;> omega
theorem me_swapx {h : sm_H} {s : gm_S} {p : Nat × Nat} {q : List (Nat × Nat)} (hS : ab_Sh sx_sk h) (hR : gx_R h s) (hP : gm_P s = p :: q) (hq : q.length < 64) (p0 : p.2 ≠ 0) (p1 : p.1 ≤ p.2) (p2 : p.2 ≤ (gm_T s).length) : me_E d 226 0 [some (.inr (.inr 109)), none, none, none, none] [] h (fun w h' => w = none ∧ ab_Sh sx_sk h' ∧ ab_Fr wr_sw h h' ∧ gx_R h' (gm_tu s)) := by
  have b16 := me_fb (c := 14016) hS rfl
  obtain ⟨r1, r2, r3, r4, r5, r6⟩ := hR
  have r16 := r1.1
  rw [hP] at r5 r6
  rw [List.length_cons] at r5
  obtain ⟨a1, a2, a3⟩ := r6
  have a2 := a2.resolve_left p0
  have ei : (mi_f h 14030 - 1).toNat = q.length := by omega
  refine mt_swA hS ?_
  intro b
  rw [ei, a1, a2]
  refine ⟨by omega, fun h1 g1 g2 g3 => ?_⟩
  have e16 : mi_f h1 14016 = mi_f h 14016 := me_f (c := 14016) g3 hS rfl rfl
  refine (sw34x (mi_f h 14016) (by omega) (by omega) (by omega) (by omega) b16.2 200 0 h1 (by omega) (by decide) (by omega) e16 g1 (fun i hi => by omega)).imp (fun w h' hq' => ?_)
  obtain ⟨q1, q2, q3, q4, q5⟩ := hq'
  have e160 : mi_a h1 160 = mi_a h 160 := funext fun i => me_a (k := 160) g3 hS rfl rfl
  rw [e160] at q5
  have F : ab_Fr wr_sw h h' := (g3.wide (fun c hc => ab_swr_ok (by decide) hc)).trans q3
  refine ⟨q1, q2, F, ?_⟩
  have etu : gm_tu s = (gm_X s, gm_F s, gm_rot p.1 p.2 (gm_T s), gm_D s, q) := by
    unfold gm_tu
    rw [hP]
  rw [etu]
  unfold gx_R
  rw [gm_T_mk, gm_X_mk, gm_F_mk, gm_D_mk, gm_P_mk]
  refine ⟨gx_T_sw r1 p1 p2 (me_f (c := 14016) F hS rfl rfl) (fun i => me_a (k := 158) F hS rfl rfl) (fun i => me_a (k := 159) F hS rfl rfl) (fun i => me_b (k := 163) F hS rfl rfl) (fun i => ?_), (me_l (c := 14047) F hS rfl rfl).trans r2, (me_f (c := 14035) F hS rfl rfl).trans r3, (me_f (c := 14031) F hS rfl rfl).trans r4, by rw [q4, g2, r5]; omega, gx_P_fr F hS rfl _ a3⟩
  rw [q5, r16]
end GXA
/-! the growing walk purely: what holds of each of its states -/
/-- pairs whose middle must be known when they are turned -/
def gm_fl : List wk_E → List Bool → Prop
  | [], _ => True
  | e :: r, fl => if e.1 = 0 ∧ e.2.2 = 1 then gm_fl r (false :: fl) else if e.1 = 3 then (match fl with | [] => False | _ :: q => gm_fl r (true :: q)) else if e.1 = 4 then (match fl with | [] => False | b :: q => b = true ∧ gm_fl r q) else gm_fl r fl
def gm_fg (P : List (Nat × Nat)) : List Bool := P.map (fun p => decide (p.2 ≠ 0))
theorem gm_fl_o {r : List wk_E} {fl : List Bool} {a b c : Int} (h0 : ¬ (a = 0 ∧ c = 1)) (h3 : a ≠ 3) (h4 : a ≠ 4) : gm_fl ((a, b, c) :: r) fl = gm_fl r fl := by
  cases fl with
  | nil => rw [gm_fl, if_neg h0, if_neg h3, if_neg h4]
  | cons x q => rw [gm_fl, if_neg h0, if_neg h3, if_neg h4]
theorem gm_fl_1 {r : List wk_E} {fl : List Bool} {b : Int} : gm_fl ((0, b, 1) :: r) fl = gm_fl r (false :: fl) := by
  cases fl with
  | nil => rw [gm_fl, if_pos ⟨rfl, rfl⟩]
  | cons x q => rw [gm_fl, if_pos ⟨rfl, rfl⟩]
theorem gm_fl_3 {r : List wk_E} {q : List Bool} {x : Bool} {b c : Int} : gm_fl ((3, b, c) :: r) (x :: q) = gm_fl r (true :: q) := by
  rw [gm_fl, if_neg (fun e => absurd (show (3 : Int) = 0 from e.1) (by decide)), if_pos rfl]
theorem gm_fl_30 {r : List wk_E} {b c : Int} : ¬ gm_fl ((3, b, c) :: r) [] := by
  rw [gm_fl, if_neg (fun e => absurd (show (3 : Int) = 0 from e.1) (by decide)), if_pos rfl]
  exact id
theorem gm_fl_4 {r : List wk_E} {q : List Bool} {x : Bool} {b c : Int} : gm_fl ((4, b, c) :: r) (x :: q) = (x = true ∧ gm_fl r q) := by
  rw [gm_fl, if_neg (fun e => absurd (show (4 : Int) = 0 from e.1) (by decide)), if_neg (show ¬ (4 : Int) = 3 by decide), if_pos rfl]
theorem gm_fl_40 {r : List wk_E} {b c : Int} : ¬ gm_fl ((4, b, c) :: r) [] := by
  rw [gm_fl, if_neg (fun e => absurd (show (4 : Int) = 0 from e.1) (by decide)), if_neg (show ¬ (4 : Int) = 3 by decide), if_pos rfl]
  exact id
theorem gm_fl_it {g : wk_g} {r : List wk_E} {fl : List Bool} : ∀ (n : Nat) (u : Int), gm_fl (wk_it g n u ++ r) fl = gm_fl r fl := by
  intro n
  induction n with
  | zero => intro u; rfl
  | succ n ih =>
    intro u
    unfold wk_it
    by_cases c : u < 0
    · rw [if_pos c]
      rfl
    · rw [if_neg c]
      by_cases c2 : 0 ≤ g 124 u.toNat
      · rw [if_pos c2]
        show gm_fl ((0, u, 1) :: (3, 0, 0) :: (0, g 124 u.toNat, 0) :: (4, 0, 0) :: (wk_it g n (g 125 u.toNat) ++ r)) fl = _
        rw [gm_fl_1, gm_fl_3, gm_fl_o (by omega) (by decide) (by decide), gm_fl_4, ih]
        exact propext ⟨fun h => h.2, fun h => ⟨rfl, h⟩⟩
      · rw [if_neg c2]
        show gm_fl ((0, u, 0) :: (wk_it g n (g 125 u.toNat) ++ r)) fl = _
        rw [gm_fl_o (by omega) (by decide) (by decide), ih]
def gm_I (c : gm_C) : Prop := gm_D c.2 = gm_outs c.1 ∧ gm_D c.2 ≤ gm_len c.2 ∧ (1 ≤ gm_len c.2 ∧ gm_len c.2 ≤ 100) ∧ (-(gm_len c.2) ≤ gm_F c.2 ∧ gm_F c.2 ≤ 20) ∧ gm_fl c.1 (gm_fg (gm_P c.2))
section GMI
variable {g : wk_g} {kw : Int → Bool} {s : gm_S} {r : List wk_E} {c : gm_C}
theorem gm_outs_o {a b z : Int} (h : a ≠ 2) : gm_outs ((a, b, z) :: r) = gm_outs r := by
  show (if a = 2 then 1 else 0) + gm_outs r = _
  rw [if_neg h, Int.zero_add]
theorem gm_outs_2 {b z : Int} : gm_outs ((2, b, z) :: r) = 1 + gm_outs r := by
  show (if (2 : Int) = 2 then 1 else 0) + gm_outs r = _
  rw [if_pos rfl]
/-- one more node: what a state is then -/
theorem gm_c_e {k v : Int} {t : gm_S} (h : gm_c k v s = some t) : gm_len s < 100 ∧ gm_len t = gm_len s + 1 ∧ gm_F t = gm_F s ∧ gm_D t = gm_D s ∧ gm_P t = gm_P s := by
  obtain ⟨a1, a2⟩ := gm_c_len h
  obtain ⟨-, b2, -, b4, b5⟩ := gm_c_t h
  unfold gm_len
  exact ⟨by omega, by omega, b2, b4, b5⟩
theorem gm_d_e {t : gm_S} : gm_len (gm_d t) = gm_len t ∧ gm_F (gm_d t) = gm_F t ∧ gm_D (gm_d t) = gm_D t + 1 ∧ gm_P (gm_d t) = gm_P t := by
  unfold gm_d gm_len
  rw [gm_T_mk, gm_F_mk, gm_D_mk, gm_P_mk]
  exact ⟨rfl, rfl, rfl, rfl⟩
theorem gm_y_e : gm_len (gm_y s) = gm_len s ∧ gm_F (gm_y s) = gm_F s ∧ gm_D (gm_y s) = gm_D s ∧ gm_P (gm_y s) = gm_P s := by
  unfold gm_y gm_len
  rw [gm_T_mk, gm_F_mk, gm_D_mk, gm_P_mk]
  exact ⟨rfl, rfl, rfl, rfl⟩
/-- what holds, of the rest of the stack -/
def gm_J (r : List wk_E) (s : gm_S) : Prop := gm_D s = gm_outs r ∧ gm_D s ≤ gm_len s ∧ (1 ≤ gm_len s ∧ gm_len s ≤ 100) ∧ (-(gm_len s) ≤ gm_F s ∧ gm_F s ≤ 20) ∧ gm_fl r (gm_fg (gm_P s))
theorem gm_en_I {i : Int} (hJ : gm_J r s) (h : gm_en g i r s = some c) : gm_I c := by
  unfold gm_en at h
  split at h
  · cases h
  · obtain ⟨t, t1, t2⟩ := Option.map_eq_some_iff.mp h
    subst t2
    obtain ⟨a1, a2, a3, a4, a5⟩ := gm_c_e t1
    obtain ⟨d1, d2, d3, d4⟩ := gm_d_e (t := t)
    have el : gm_len (gm_X s, gm_F s - 1, gm_T s, gm_D s, gm_P s) = gm_len s := by unfold gm_len; rw [gm_T_mk]
    rw [el] at a1 a2
    simp only [gm_F_mk] at a3
    simp only [gm_D_mk] at a4
    simp only [gm_P_mk] at a5
    obtain ⟨j1, j2, j3, j4, j5⟩ := hJ
    unfold gm_I
    dsimp only
    rw [d1, d2, d3, d4, a2, a3, a4, a5, gm_outs_o (by decide), gm_outs_2, gm_fl_o (by omega) (by decide) (by decide), gm_fl_o (by omega) (by decide) (by decide)]
    exact ⟨by omega, by omega, by omega, by omega, j5⟩
theorem gm_lf_I {o : Int} {t : gm_S} (hJ : gm_J r s) (h : gm_lf kw o s = some t) : gm_J r t := by
  have fin : ∀ (k v : Int) (x : Int64), gm_c k v (x, gm_F s, gm_T s, gm_D s, gm_P s) = some t → gm_J r t := by
    intro k v x h
    obtain ⟨a1, a2, a3, a4, a5⟩ := gm_c_e h
    have el : gm_len (x, gm_F s, gm_T s, gm_D s, gm_P s) = gm_len s := by unfold gm_len; rw [gm_T_mk]
    rw [el] at a1 a2
    simp only [gm_F_mk] at a3
    simp only [gm_D_mk] at a4
    simp only [gm_P_mk] at a5
    obtain ⟨j1, j2, j3, j4, j5⟩ := hJ
    unfold gm_J
    rw [a2, a3, a4, a5]
    exact ⟨by omega, by omega, by omega, by omega, j5⟩
  unfold gm_lf at h
  split at h
  · exact fin _ _ _ h
  · split at h
    · exact fin _ _ _ h
    · injection h with h
      subst h
      exact hJ
theorem gm_sg_I {u : Int} (hJ : gm_J r s) (h : gm_sg g kw u r s = some c) : gm_I c := by
  by_cases c9 : g 119 u.toNat = 9
  · unfold gm_sg at h
    rw [if_pos c9] at h
    exact gm_en_I hJ h
  · by_cases c10 : g 119 u.toNat = 10
    · unfold gm_sg at h
      rw [if_neg c9, if_pos c10] at h
      injection h with h
      subst h
      obtain ⟨j1, j2, j3, j4, j5⟩ := hJ
      unfold gm_I
      dsimp only
      rw [gm_outs_o (by decide), gm_fl_o (by omega) (by decide) (by decide)]
      exact ⟨j1, j2, j3, j4, j5⟩
    · rw [gm_sg_lf c9 c10] at h
      obtain ⟨t, t1, t2⟩ := Option.map_eq_some_iff.mp h
      subst t2
      exact gm_lf_I hJ t1
theorem gm_op_J {o u : Int} (h : gm_I ((0, u, o) :: r, s)) : gm_J r (gm_op o s) := by
  obtain ⟨j1, j2, j3, j4, j5⟩ := h
  dsimp only at j1 j2 j3 j4 j5
  rw [gm_outs_o (by decide)] at j1
  by_cases c1 : o = 1
  · subst c1
    rw [gm_fl_1] at j5
    unfold gm_op gm_J gm_len
    simp only [if_pos, gm_T_mk, gm_F_mk, gm_D_mk, gm_P_mk]
    exact ⟨j1, j2, j3, j4, j5⟩
  · rw [gm_fl_o (fun e => c1 e.2) (by decide) (by decide)] at j5
    unfold gm_op
    rw [if_neg c1]
    exact ⟨j1, j2, j3, j4, j5⟩
theorem gm_u_I {u : Int} (hJ : gm_J r s) (h : gm_u g kw u r s = some c) : gm_I c := by
  obtain ⟨y1, y2, y3, y4⟩ := gm_y_e (s := s)
  unfold gm_u at h
  split at h
  · obtain ⟨t, t1, t2⟩ := Option.map_eq_some_iff.mp h
    subst t2
    obtain ⟨a1, a2, a3, a4, a5⟩ := gm_c_e t1
    obtain ⟨d1, d2, d3, d4⟩ := gm_d_e (t := t)
    obtain ⟨j1, j2, j3, j4, j5⟩ := hJ
    unfold gm_I
    dsimp only
    rw [d1, d2, d3, d4, a2, a3, a4, a5, y1, y2, y3, y4, gm_outs_o (by decide), gm_outs_2, gm_fl_o (by omega) (by decide) (by decide), gm_fl_o (by omega) (by decide) (by decide)]
    exact ⟨by omega, by omega, by omega, by omega, j5⟩
  · split at h
    · obtain ⟨t, t1, t2⟩ := Option.bind_eq_some_iff.mp h
      obtain ⟨a1, a2, a3, a4, a5⟩ := gm_c_e t1
      obtain ⟨d1, d2, d3, d4⟩ := gm_d_e (t := t)
      have hJ2 : gm_J ((2, 0, 0) :: r) (gm_d t) := by
        obtain ⟨j1, j2, j3, j4, j5⟩ := hJ
        unfold gm_J
        rw [d1, d2, d3, d4, a2, a3, a4, a5, y1, y2, y3, y4, gm_outs_2, gm_fl_o (by omega) (by decide) (by decide)]
        exact ⟨by omega, by omega, by omega, by omega, j5⟩
      split at t2
      · exact gm_sg_I hJ2 t2
      · injection t2 with t2
        subst t2
        exact hJ2
    · exact gm_sg_I hJ h
theorem gm_st_1 {f a : Int} : gm_st g kw (1, f, a) r s = gm_fo g f r s := by
  unfold gm_st gm_fo
  rw [if_neg (show ¬ (1 : Int) = 0 by decide), if_pos rfl]
theorem gm_st_5 {u a : Int} : gm_st g kw (5, u, a) r s = gm_ag g kw u a r s := by
  unfold gm_st gm_ag
  rw [if_neg (show ¬ (5 : Int) = 0 by decide), if_neg (show ¬ (5 : Int) = 1 by decide), if_pos rfl]
theorem gm_st_2 {u a : Int} : gm_st g kw (2, u, a) r s = some (r, (gm_X s, gm_F s, gm_T s, gm_D s - 1, gm_P s)) := by
  unfold gm_st
  rw [if_neg (show ¬ (2 : Int) = 0 by decide), if_neg (show ¬ (2 : Int) = 1 by decide), if_neg (show ¬ (2 : Int) = 5 by decide), if_pos rfl]
theorem gm_st_3 {u a : Int} : gm_st g kw (3, u, a) r s = some (r, gm_mid s) := by
  unfold gm_st
  rw [if_neg (show ¬ (3 : Int) = 0 by decide), if_neg (show ¬ (3 : Int) = 1 by decide), if_neg (show ¬ (3 : Int) = 5 by decide), if_neg (show ¬ (3 : Int) = 2 by decide), if_pos rfl]
theorem gm_st_4 {u a : Int} : gm_st g kw (4, u, a) r s = some (r, gm_tu s) := by
  unfold gm_st
  rw [if_neg (show ¬ (4 : Int) = 0 by decide), if_neg (show ¬ (4 : Int) = 1 by decide), if_neg (show ¬ (4 : Int) = 5 by decide), if_neg (show ¬ (4 : Int) = 2 by decide), if_neg (show ¬ (4 : Int) = 3 by decide)]
theorem gm_fo_I {f : Int} (hJ : gm_J r s) (h : gm_fo g f r s = some c) : gm_I c := by
  obtain ⟨y1, y2, y3, y4⟩ := gm_y_e (s := s)
  unfold gm_fo at h
  split at h
  · obtain ⟨t, t1, t2⟩ := Option.map_eq_some_iff.mp h
    subst t2
    obtain ⟨a1, a2, a3, a4, a5⟩ := gm_c_e t1
    obtain ⟨d1, d2, d3, d4⟩ := gm_d_e (t := t)
    obtain ⟨j1, j2, j3, j4, j5⟩ := hJ
    unfold gm_I
    dsimp only
    rw [d1, d2, d3, d4, a2, a3, a4, a5, y1, y2, y3, y4, gm_outs_a, gm_outs_it, gm_outs_2, gm_fl_it, gm_fl_o (by omega) (by decide) (by decide)]
    exact ⟨by omega, by omega, by omega, by omega, j5⟩
  · injection h with h
    subst h
    obtain ⟨j1, j2, j3, j4, j5⟩ := hJ
    unfold gm_I
    dsimp only
    rw [gm_outs_a, gm_outs_it, gm_fl_it]
    exact ⟨by omega, j2, j3, j4, j5⟩
theorem gm_J_of {e : wk_E} (h : gm_I (e :: r, s)) (h0 : ¬ (e.1 = 0 ∧ e.2.2 = 1)) (h2 : e.1 ≠ 2) (h3 : e.1 ≠ 3) (h4 : e.1 ≠ 4) : gm_J r s := by
  obtain ⟨a, b, z⟩ := e
  obtain ⟨j1, j2, j3, j4, j5⟩ := h
  dsimp only at j1 j2 j3 j4 j5
  rw [gm_outs_o h2] at j1
  rw [gm_fl_o h0 h3 h4] at j5
  exact ⟨j1, j2, j3, j4, j5⟩
/-- all turns keep it, of the entries that there are -/
theorem gm_st_I {e : wk_E} (he : e.1 = 0 ∨ e.1 = 1 ∨ e.1 = 2 ∨ e.1 = 3 ∨ e.1 = 4 ∨ e.1 = 5) (hI : gm_I (e :: r, s)) (h : gm_st g kw e r s = some c) : gm_I c := by
  obtain ⟨a, b, z⟩ := e
  dsimp only at he
  rcases he with rfl | rfl | rfl | rfl | rfl | rfl
  · rw [gm_st_0] at h
    exact gm_u_I (gm_op_J hI) h
  · rw [gm_st_1] at h
    exact gm_fo_I (gm_J_of hI (fun e => absurd (show (1 : Int) = 0 from e.1) (by decide)) (show (1 : Int) ≠ 2 by decide) (show (1 : Int) ≠ 3 by decide) (show (1 : Int) ≠ 4 by decide)) h
  · rw [gm_st_2] at h
    injection h with h
    subst h
    obtain ⟨j1, j2, j3, j4, j5⟩ := hI
    dsimp only at j1 j2 j3 j4 j5
    rw [gm_outs_2] at j1
    rw [gm_fl_o (by omega) (by decide) (by decide)] at j5
    unfold gm_I gm_len
    dsimp only
    simp only [gm_T_mk, gm_F_mk, gm_D_mk, gm_P_mk]
    unfold gm_len at j2 j3 j4
    exact ⟨by omega, by omega, j3, j4, j5⟩
  · rw [gm_st_3] at h
    injection h with h
    subst h
    obtain ⟨j1, j2, j3, j4, j5⟩ := hI
    dsimp only at j1 j2 j3 j4 j5
    rw [gm_outs_o (by decide)] at j1
    unfold gm_mid gm_I gm_len
    dsimp only
    simp only [gm_T_mk, gm_F_mk, gm_D_mk, gm_P_mk]
    unfold gm_len at j2 j3 j4
    refine ⟨j1, j2, j3, j4, ?_⟩
    cases hP : gm_P s with
    | nil =>
      rw [hP] at j5
      exact absurd j5 gm_fl_30
    | cons p q =>
      rw [hP] at j5
      have j5 : gm_fl ((3, b, z) :: r) (decide (p.2 ≠ 0) :: gm_fg q) := j5
      rw [gm_fl_3] at j5
      have et : decide ((gm_T s).length ≠ 0) = true := decide_eq_true (by omega)
      show gm_fl r (decide ((gm_T s).length ≠ 0) :: gm_fg q)
      rw [et]
      exact j5
  · rw [gm_st_4] at h
    injection h with h
    subst h
    obtain ⟨j1, j2, j3, j4, j5⟩ := hI
    dsimp only at j1 j2 j3 j4 j5
    rw [gm_outs_o (by decide)] at j1
    cases hP : gm_P s with
    | nil =>
      rw [hP] at j5
      exact absurd j5 gm_fl_40
    | cons p q =>
      rw [hP] at j5
      have j5 : gm_fl ((4, b, z) :: r) (decide (p.2 ≠ 0) :: gm_fg q) := j5
      rw [gm_fl_4] at j5
      have etu : gm_tu s = (gm_X s, gm_F s, gm_rot p.1 p.2 (gm_T s), gm_D s, q) := by
        unfold gm_tu
        rw [hP]
      rw [etu]
      unfold gm_I gm_len
      dsimp only
      simp only [gm_T_mk, gm_F_mk, gm_D_mk, gm_P_mk, gm_rot_len]
      unfold gm_len at j2 j3 j4
      exact ⟨j1, j2, j3, j4, j5.2⟩
  · rw [gm_st_5] at h
    have hJ := gm_J_of hI (fun e => absurd (show (5 : Int) = 0 from e.1) (by decide)) (show (5 : Int) ≠ 2 by decide) (show (5 : Int) ≠ 3 by decide) (show (5 : Int) ≠ 4 by decide)
    unfold gm_ag at h
    split at h
    · have hJ2 : gm_J ((5, b, z - 1) :: r) s := by
        obtain ⟨j1, j2, j3, j4, j5⟩ := hJ
        unfold gm_J
        rw [gm_outs_o (by decide), gm_fl_o (by omega) (by decide) (by decide)]
        exact ⟨j1, j2, j3, j4, j5⟩
      exact gm_sg_I hJ2 h
    · injection h with h
      subst h
      exact hJ
end GMI
/-! the growing walk of the reference, exactly: the loop -/
section GLP
variable {g g' : wk_g} {kw : Int → Bool} {s : gm_S} {r : List wk_E}
theorem gm_lo_g (hg : wk_gc g g') (h3 : ∀ i, g' 143 i = g 143 i) : ∀ (m : Nat) (a n b hi : Int), gm_lo g' m a n b hi = gm_lo g m a n b hi := by
  intro m
  induction m with
  | zero => intro a n b hi; rw [gm_lo_0, gm_lo_0]
  | succ m ih => intro a n b hi; rw [gm_lo_s, gm_lo_s, hg 128 (by decide), h3, ih]
theorem gm_w_g (hg : wk_gc g g') (h3 : ∀ i, g' 143 i = g 143 i) {f : Int} : gm_w g' f s = gm_w g f s := by
  unfold gm_w
  rw [gm_lo_g hg h3, hg 130 (by decide), hg 129 (by decide)]
theorem gm_fo_g (hg : wk_gc g g') (h3 : ∀ i, g' 143 i = g 143 i) {f : Int} : gm_fo g' f r s = gm_fo g f r s := by
  unfold gm_fo
  rw [gm_w_g hg h3, hg 130 (by decide), hg 129 (by decide), wk_alt_g hg, hg 126 (by decide), wk_it_g hg, hg 126 (by decide), wk_it_g hg]
theorem gm_u_g (hg : wk_gc g g') {u : Int} : gm_u g' kw u r s = gm_u g kw u r s := by
  unfold gm_u
  rw [hg 122 (by decide), gm_sg_g hg]
  simp only [gm_sg_g hg]
theorem gm_ag_g (hg : wk_gc g g') {u a : Int} : gm_ag g' kw u a r s = gm_ag g kw u a r s := by
  unfold gm_ag
  rw [gm_sg_g hg]
end GLP
def gl_TT : Int → sm_H → Prop := fun _ _ => True
def gl_I (Y : wk_Y) (h0 : sm_H) (c0 : gm_C) (zt : Int) (h : sm_H) : Prop := wl_I Y h0 1 gl_TT zt h ∧ ∃ s, gx_R h s ∧ gm_to (mi_a h0) (gx_k h0) zt.toNat c0 (wk_stk h, s) ∧ gm_I (wk_stk h, s)
def gl_H (Y : wk_Y) (h0 : sm_H) (c0 : gm_C) (zt : Int) (h : sm_H) : Prop := (ab_Sh sx_sk h ∧ ab_Fr wr_WK h0 h ∧ mi_f h 14044 = 1 ∧ ∃ n, gm_no (mi_a h0) (gx_k h0) n c0) ∨ gl_I Y h0 c0 zt h
def gl_End (Y : wk_Y) (h0 : sm_H) (c0 : gm_C) (w : Option mi_V) (h' : sm_H) : Prop := w = none ∧ ab_Sh sx_sk h' ∧ ab_Fr wr_WK h0 h' ∧ ((mi_f h' 14044 = 1 ∧ ∃ n, gm_no (mi_a h0) (gx_k h0) n c0) ∨ ∃ zt, 0 ≤ zt ∧ zt ≤ 40000 ∧ (wk_stk h' = [] ∨ zt = 40000) ∧ gl_I Y h0 c0 zt h')
theorem gl_T {Y : wk_Y} {h0 : sm_H} : wl_T Y h0 1 gl_TT := by
  refine ⟨fun e => absurd e (by decide), fun e => absurd e (by decide), ?_, fun e => absurd e (by decide), fun e => absurd e (by decide), fun e => absurd e (by decide)⟩
  intros
  exact trivial
section GLM
variable {d : Nat} {h0 : sm_H} {Y : wk_Y} {c0 : gm_C} {zt : Int}
theorem gl_next {h h1 h' : sm_H} {e : wk_E} {s : gm_S} {v : Option mi_V} {hq : sm_H} (he : e.1 = 0 ∨ e.1 = 1 ∨ e.1 = 2 ∨ e.1 = 3 ∨ e.1 = 4 ∨ e.1 = 5) (z0 : 0 ≤ zt) (hst : wk_stk h = e :: wk_stk h1) (hto : gm_to (mi_a h0) (gx_k h0) zt.toNat c0 (wk_stk h, s)) (hI : gm_I (wk_stk h, s)) (hW : wl_H Y h0 1 gl_TT (zt + 1) h') (hU : ux_Q hq (gm_st (mi_a h0) (gx_k h0) e (wk_stk h1) s) v h') : gl_H Y h0 c0 (zt + 1) h' := by
  rw [hst] at hto hI
  have et : (zt + 1).toNat = zt.toNat + 1 := by omega
  obtain ⟨-, u1, u2⟩ := hU
  rcases hW with ⟨w1, w2, w3⟩ | hI'
  · have w3 : mi_f h' 14044 = 1 := by
      rcases w3 with w3 | ⟨w3, -⟩
      · exact w3
      · exact absurd w3 (by decide)
    rcases u2 with ⟨u2, -⟩ | ⟨u2, -⟩
    · exact Or.inl ⟨w1, w2, w3, _, gm_appn (gm_none u2) _ _ hto⟩
    · exfalso; omega
  · have i4 := hI'.1.2.2.2.1
    rcases u2 with ⟨-, u2⟩ | ⟨-, c, u3, u4, u5, u6⟩
    · exfalso; omega
    · refine Or.inr ⟨hI', c.2, u5, ?_, ?_⟩
      · rw [et, u4]
        exact gm_app (gm_one u3) _ _ hto
      · rw [u4]
        exact gm_st_I he hI u3
theorem gl_in {h h1 : sm_H} {s : gm_S} {e : wk_E} (hi : wk_in 1 h1) (hS : ab_Sh sx_sk h) (g3 : ab_Fr [(14029, 14030)] h h1) (hR : gx_R h s) (hI : gm_I (e :: wk_stk h1, s)) : gx_in h1 s := by
  obtain ⟨i1, i2, i3, i4, i5, i6, i7, i8, i9, i10, i11⟩ := hi
  obtain ⟨j1, j2, j3, j4, -⟩ := hI
  dsimp only at j1 j2 j3 j4
  have := gm_outs_nn (e :: wk_stk h1)
  exact ⟨i1, i2, i4, i7, i10.symm, i8, i9, gx_R_fr hR g3 hS rfl rfl rfl rfl, by omega, by omega, by omega⟩
theorem gl_g {h h1 : sm_H} (hS0 : ab_Sh sx_sk h0) (hS : ab_Sh sx_sk h) (hF : ab_Fr wr_WK h0 h) (g3 : ab_Fr [(14029, 14030)] h h1) : wk_gc (mi_a h0) (mi_a h1) ∧ (∀ i, mi_a h1 143 i = mi_a h0 143 i) ∧ gx_k h1 = gx_k h0 := by
  have F : ab_Fr wr_WK h0 h1 := hF.trans (g3.wide (fun c hc => ab_swr_ok (by decide) hc))
  exact ⟨wk_gc_fr F hS0 rfl, fun i => me_a (k := 143) F hS0 rfl rfl, gx_k_fr F hS0 rfl rfl⟩
/-- a unit on the top -/
theorem gl_u {h h1 : sm_H} {w a : Int} (hS0 : ab_Sh sx_sk h0) (hL : wk_L (mi_a h) Y) (hG : gl_I Y h0 c0 zt h) (z0 : 0 ≤ zt) (z1 : zt < 40000) (ht : 0 < mi_f h 14029) (g1 : ab_Sh sx_sk h1) (g2 : mi_f h1 14029 = mi_f h 14029 - 1) (g3 : ab_Fr [(14029, 14030)] h h1) (e0 : mi_a h 165 (mi_f h 14029 - 1).toNat = 0) (ew : mi_a h 166 (mi_f h 14029 - 1).toNat = w) (ea : mi_a h 167 (mi_f h 14029 - 1).toNat = a) (ha : a = 0 ∨ a = 1) : me_E (d + 6) 210 0 [some (.inr (.inr 109)), some (.inl w), some (.inl a), none, none] [] h1 (fun v h' => v = none ∧ gl_H Y h0 c0 (zt + 1) h') := by
  obtain ⟨hI, s, hR, hto, hJ⟩ := hG
  obtain ⟨e1, hg, hn, hag, hK2, hV2, hZ, e30, e32, e16, hlen⟩ := wl_pop hI ht g1 g2 g3
  rw [e0, ew, ea] at e1
  have hSI := hI.2.2.1
  rw [e1] at hSI
  have hU : wk_U Y w ((wk_stk h1).length : Int) (mi_f h 14030) (mi_f h 14032) (1 - a) := by
    rcases ha with rfl | rfl
    · exact (wk_unit0 hSI).1
    · exact (wk_unit1 hSI).1
  obtain ⟨u1, u2, u3, u4, u5, u6, u7⟩ := hU
  obtain ⟨⟨a1, -, -, a4, a5⟩, -⟩ := hL.2.2.1 w u1 u2
  have hd := (hL.2.2.2 _ a4 a5).2.1
  have hi := wl_in1 hI ht g1 g2 g3 (by omega)
  have hJ' := hJ
  rw [e1] at hJ'
  obtain ⟨k1, k2, k3⟩ := gl_g hS0 hI.1.1 hI.2.1 g3
  refine ((wl_u (d := d) gl_T hL hI z0 z1 ht g1 g2 g3 e0 ew ea ha).and (me_unitx (d := d) (gl_in hi hI.1.1 g3 hR hJ') (by have j2 := hJ'.2.1; have j3 := hJ'.2.2.1.2; dsimp only at j2 j3; omega) (wl_us hL hg u1 u2) (by omega) ha (fun z => by omega))).imp (fun v h' hq => ?_)
  obtain ⟨⟨q1, q2⟩, q3⟩ := hq
  refine ⟨q1, ?_⟩
  rw [gm_st_0, gm_u_g k1, k3, ← gm_st_0] at q3
  exact gl_next (Or.inl rfl) z0 e1 hto hJ q2 q3
theorem gl_f {h h1 : sm_H} {f a : Int} (hS0 : ab_Sh sx_sk h0) (hL : wk_L (mi_a h) Y) (hG : gl_I Y h0 c0 zt h) (z0 : 0 ≤ zt) (z1 : zt < 40000) (ht : 0 < mi_f h 14029) (g1 : ab_Sh sx_sk h1) (g2 : mi_f h1 14029 = mi_f h 14029 - 1) (g3 : ab_Fr [(14029, 14030)] h h1) (e0 : mi_a h 165 (mi_f h 14029 - 1).toNat = 1) (ew : mi_a h 166 (mi_f h 14029 - 1).toNat = f) (ea : mi_a h 167 (mi_f h 14029 - 1).toNat = a) : me_E (d + 6) 223 0 [some (.inr (.inr 109)), some (.inl f), none, none, none, none] [] h1 (fun v h' => v = none ∧ gl_H Y h0 c0 (zt + 1) h') := by
  obtain ⟨hI, s, hR, hto, hJ⟩ := hG
  obtain ⟨e1, hg, hn, hag, hK2, hV2, hZ, e30, e32, e16, hlen⟩ := wl_pop hI ht g1 g2 g3
  rw [e0, ew, ea] at e1
  have hSI := hI.2.2.1
  rw [e1] at hSI
  obtain ⟨hF, hb⟩ := wk_form hSI
  have hL1 : wk_L (mi_a h1) Y := wk_L_g hL hg
  obtain ⟨f1, f2, -⟩ := id hF
  obtain ⟨d1, d2, d3, d4, dB, d5⟩ := hL1.2.2.2 f f1 f2
  have hf80 := hL.2.1
  have hi := wl_in1 hI ht g1 g2 g3 (by omega)
  have hJ' := hJ
  rw [e1] at hJ'
  obtain ⟨k1, k2, k3⟩ := gl_g hS0 hI.1.1 hI.2.1 g3
  refine ((wl_f (d := d) gl_T hL hI z0 z1 ht g1 g2 g3 e0 ew ea).and (me_choosex (d := d) (U := wk_u Y) (gl_in hi hI.1.1 g3 hR hJ') f1 (by omega) ⟨d3, d4, fun j hj => ⟨(d5 j hj).1, (d5 j hj).2.1⟩⟩ (wk_L_C hL1) (fun j hj => ?_) (fun j hj => ?_))).imp (fun v h' hq => ?_)
  · rcases (d5 j hj).2.2 with x | x
    · exact Or.inl x
    · exact Or.inr x.1
  · have := (wl_D hL1 hF hb hj).1
    omega
  · obtain ⟨⟨q1, q2⟩, q3⟩ := hq
    refine ⟨q1, ?_⟩
    have q3 := gx_Q_u (h := h1) q3
    rw [gm_fo_g k1 k2, ← gm_st_1 (kw := gx_k h0) (a := a)] at q3
    exact gl_next (Or.inr (Or.inl rfl)) z0 e1 hto hJ q2 q3
theorem gl_a {h h1 : sm_H} {w a : Int} (hS0 : ab_Sh sx_sk h0) (hL : wk_L (mi_a h) Y) (hG : gl_I Y h0 c0 zt h) (z0 : 0 ≤ zt) (z1 : zt < 40000) (ht : 0 < mi_f h 14029) (g1 : ab_Sh sx_sk h1) (g2 : mi_f h1 14029 = mi_f h 14029 - 1) (g3 : ab_Fr [(14029, 14030)] h h1) (e0 : mi_a h 165 (mi_f h 14029 - 1).toNat = 5) (ew : mi_a h 166 (mi_f h 14029 - 1).toNat = w) (ea : mi_a h 167 (mi_f h 14029 - 1).toNat = a) : me_E (d + 6) 227 0 [some (.inr (.inr 109)), some (.inl w), some (.inl a), none] [] h1 (fun v h' => v = none ∧ gl_H Y h0 c0 (zt + 1) h') := by
  obtain ⟨hI, s, hR, hto, hJ⟩ := hG
  obtain ⟨e1, hg, hn, hag, hK2, hV2, hZ, e30, e32, e16, hlen⟩ := wl_pop hI ht g1 g2 g3
  rw [e0, ew, ea] at e1
  have oa : mi_in a := by rw [← ea]; exact mi_inT _
  have hSI := hI.2.2.1
  rw [e1] at hSI
  obtain ⟨⟨u1, u2, u3, u4, u5, u6, u7⟩, hb⟩ := wk_again hSI
  obtain ⟨⟨a1, -⟩, -⟩ := hL.2.2.1 w u1 u2
  have hi := wl_in1 hI ht g1 g2 g3 (by omega)
  have hJ' := hJ
  rw [e1] at hJ'
  obtain ⟨k1, k2, k3⟩ := gl_g hS0 hI.1.1 hI.2.1 g3
  refine ((wl_a (d := d) gl_T hL hI z0 z1 ht g1 g2 g3 e0 ew ea).and (me_againx (d := d) (gl_in hi hI.1.1 g3 hR hJ') (wl_us hL hg u1 u2) (by omega) oa)).imp (fun v h' hq => ?_)
  obtain ⟨⟨q1, q2⟩, q3⟩ := hq
  refine ⟨q1, ?_⟩
  have q3 := gx_Q_u (h := h1) q3
  rw [gm_ag_g k1, k3, ← gm_st_5] at q3
  exact gl_next (Or.inr (Or.inr (Or.inr (Or.inr (Or.inr rfl))))) z0 e1 hto hJ q2 q3
/-- what only takes the top away -/
theorem gl_ux {h' hq : sm_H} {r : List wk_E} {t : gm_S} (q1 : ab_Sh sx_sk h') (e44 : mi_f h' 14044 = 0) (est : wk_stk h' = r) (hR : gx_R h' t) (e32 : mi_f h' 14032 = wk_ul r) : ux_Q hq (some (r, t)) none h' := ⟨rfl, q1, Or.inr ⟨e44, (r, t), rfl, est, hR, e32⟩⟩
theorem gl_247 {zh : Int} {q3 q4 : Option mi_V} {h : sm_H} (oh : mi_in zh) (ot : mi_in zt) (o3 : ∀ v, q3 = some v → mi_ok v) (o4 : ∀ v, q4 = some v → mi_ok v) (h1 : 0 ≤ zt) (h2 : zt ≤ 40000) (hH : gl_H Y h0 c0 zt h) (he : wl_I Y h0 1 gl_TT zt h → mi_f h 14029 ≤ 0 ∨ zt = 40000) : me_E (d + 7) 206 247 [some (.inr (.inr 109)), some (.inl zh), some (.inl zt), q3, q4] [] h (gl_End Y h0 c0) := by
  have hS : ab_Sh sx_sk h := by
    rcases hH with hH | hH
    · exact hH.1
    · exact hH.1.1.1
  have fin : gl_End Y h0 c0 none h := by
    rcases hH with ⟨k1, k2, k3⟩ | hG
    · exact ⟨rfl, k1, k2, Or.inl k3⟩
    · have hI := hG.1
      refine ⟨rfl, hS, hI.2.1, Or.inr ⟨zt, h1, h2, ?_, hG⟩⟩
      rcases he hI with e | e
      · refine Or.inl ?_
        have := hI.1.2.2.2.2.2.2.1
        have e0 : mi_f h 14029 = 0 := by omega
        unfold wk_stk
        rw [e0]
        rfl
      · exact Or.inr e
  refine mt_waE hS oh ot o3 o4 ?_ ?_ ?_ ?_ ?_
  · intro b c h3 r1 r2
    have e3 := me_nil r2
    subst e3
    exact fin
  · intro b1 b2 c1 c2 h3 r1 r2
    have e3 := me_nil r2
    subst e3
    exact fin
  · intro b1 b2 b3 c1 c2 c3 h3 r1 r2
    have e3 := me_nil r2
    subst e3
    exact fin
  · intro b1 b2 b3 b4 c1 c2 c3
    rcases hH with hH | hG
    · have := hH.2.2.1
      exfalso; omega
    · have := hG.1.1.2.1
      exfalso; omega
  · intro b1 b2 b3 b4 c1 c2 c3
    rcases hH with hH | hG
    · have := hH.2.2.1
      exfalso; omega
    · have := hG.1.1.2.1
      exfalso; omega
theorem gl_loop {zh : Int} (hS0 : ab_Sh sx_sk h0) (hL0 : wk_L (mi_a h0) Y) (oh : mi_in zh) : ∀ (N : Nat) (zt : Int) (q3 q4 : Option mi_V) (h : sm_H), 40000 - zt < N → 0 ≤ zt → zt ≤ 40000 → (∀ v, q3 = some v → mi_ok v) → (∀ v, q4 = some v → mi_ok v) → gl_H Y h0 c0 zt h → me_E (d + 7) 206 52 [some (.inr (.inr 109)), some (.inl zh), some (.inl zt), q3, q4] [] h (gl_End Y h0 c0) := by
  intro N
  induction N with
  | zero => intro zt q3 q4 h hN z0 z1; exfalso; omega
  | succ N ih =>
    intro zt q3 q4 h hN z0 z1 o3 o4 hH
    have ot : mi_in zt := ⟨by omega, by omega⟩
    have hS : ab_Sh sx_sk h := by
      rcases hH with hH | hH
      · exact hH.1
      · exact hH.1.1.1
    have toI : mi_f h 14044 = 0 → gl_I Y h0 c0 zt h := fun b => by
      rcases hH with hH | hH
      · exfalso
        have := hH.2.2.1
        omega
      · exact hH
    have o2 : ∀ x : Int32, ∀ v : mi_V, some (Sum.inl x.toInt : mi_V) = some v → mi_ok v := fun x v e => by
      cases e
      exact mi_inT x
    have nx : ∀ (x y : Int32) (h' : sm_H), zt < 40000 → gl_H Y h0 c0 (zt + 1) h' → ab_Sh sx_sk h' ∧ me_E (d + 7) 206 52 [some (.inr (.inr 109)), some (.inl zh), some (.inl (zt + 1)), some (.inl x.toInt), some (.inl y.toInt)] [] h' (gl_End Y h0 c0) := fun x y h' hlt hq => by
      refine ⟨?_, ih (zt + 1) _ _ h' (by omega) (by omega) (by omega) (o2 x) (o2 y) hq⟩
      rcases hq with hq | hq
      · exact hq.1
      · exact hq.1.1.1
    have nx175 : ∀ (x y : Int32) (h' : sm_H), zt < 40000 → gl_H Y h0 c0 (zt + 1) h' → me_E (d + 7) 206 175 [some (.inr (.inr 109)), some (.inl zh), some (.inl zt), some (.inl x.toInt), some (.inl y.toInt)] [] h' (gl_End Y h0 c0) := fun x y h' hlt hq => mt_wb175 (nx x y h' hlt hq).1 oh ot (mi_inT x) (mi_inT y) ⟨by omega, fun h3 r1 r2 => by
      have e3 := me_nil r2
      subst e3
      exact (nx x y _ hlt hq).2⟩
    have nx183 : ∀ (x y : Int32) (h' : sm_H), zt < 40000 → gl_H Y h0 c0 (zt + 1) h' → me_E (d + 7) 206 183 [some (.inr (.inr 109)), some (.inl zh), some (.inl zt), some (.inl x.toInt), some (.inl y.toInt)] [] h' (gl_End Y h0 c0) := fun x y h' hlt hq => mt_wb183 (nx x y h' hlt hq).1 oh ot (mi_inT x) (mi_inT y) ⟨by omega, fun h3 r1 r2 => by
      have e3 := me_nil r2
      subst e3
      exact (nx x y _ hlt hq).2⟩
    have nx208 : ∀ (x y : Int32) (h' : sm_H), zt < 40000 → gl_H Y h0 c0 (zt + 1) h' → me_E (d + 7) 206 208 [some (.inr (.inr 109)), some (.inl zh), some (.inl zt), some (.inl x.toInt), some (.inl y.toInt)] [] h' (gl_End Y h0 c0) := fun x y h' hlt hq => mt_wb208 (nx x y h' hlt hq).1 oh ot (mi_inT x) (mi_inT y) ⟨by omega, fun h3 r1 r2 => by
      have e3 := me_nil r2
      subst e3
      exact (nx x y _ hlt hq).2⟩
    have nx218 : ∀ (x y : Int32) (h' : sm_H), zt < 40000 → gl_H Y h0 c0 (zt + 1) h' → me_E (d + 7) 206 218 [some (.inr (.inr 109)), some (.inl zh), some (.inl zt), some (.inl x.toInt), some (.inl y.toInt)] [] h' (gl_End Y h0 c0) := fun x y h' hlt hq => mt_wb218 (nx x y h' hlt hq).1 oh ot (mi_inT x) (mi_inT y) ⟨by omega, fun h3 r1 r2 => by
      have e3 := me_nil r2
      subst e3
      exact (nx x y _ hlt hq).2⟩
    have stk1 : ∀ (h1 : sm_H) (wr : List (Nat × Nat)), 0 < mi_f h 14029 → mi_f h1 14029 = mi_f h 14029 - 1 → ab_Fr wr h h1 → (ab_in wr 21120 || ab_in wr 21248 || ab_in wr 21376) = false → wk_stk h1 = wk_st h (mi_f h 14029 - 1).toNat := by
      intro h1 wr c2 g2 g5 hw
      simp only [Bool.or_eq_false_iff] at hw
      unfold wk_stk
      rw [g2]
      exact wk_st_eq _ (fun i _ => ⟨me_a (k := 165) g5 hS rfl hw.1.1, me_a (k := 166) g5 hS rfl hw.1.2, me_a (k := 167) g5 hS rfl hw.2⟩)
    refine mt_waC hS oh ot o3 o4 ?_ ?_ ?_ ?_ ?_ ?_ ?_ ?_ ?_ ?_ ?_ ?_
    · intro c h1 g1 g2
      have e1 := me_nil g2
      subst e1
      exact gl_247 oh ot o3 o4 z0 z1 hH (fun _ => Or.inr (by omega))
    · intro b1 c1 c2 h1 g1 g2
      have e1 := me_nil g2
      subst e1
      exact gl_247 oh ot o3 o4 z0 z1 hH (fun _ => Or.inl c2)
    · intro b1 b2 c1 c2 c3 h1 g1 g2
      have e1 := me_nil g2
      subst e1
      exact gl_247 oh ot o3 o4 z0 z1 hH (fun hI => by have := hI.1.2.2.2.2.1; omega)
    · intro b1 b2 b3 c1 c2 c3 c4 h1 g1 g2
      have e1 := me_nil g2
      subst e1
      exact gl_247 oh ot o3 o4 z0 z1 hH (fun hI => by have := hI.1.2.2.2.1; omega)
    · intro b1 b2 b3 c1 c2 c3 c4 s k
      have hG := toI c4
      have hI := hG.1
      have hL : wk_L (mi_a h) Y := wk_L_g hL0 (wk_gc_fr hI.2.1 hS0 rfl)
      have hb29 := hI.2.2.2.2.1
      have htop := hI.2.2.1
      rw [wk_stk_pop c2] at htop
      have hcs := wk_cases htop
      dsimp only at hcs
      refine ⟨by omega, fun h1 g1 g2 g3 => ⟨_, gl_u (d := d) hS0 hL hG z0 c1 c2 g1 g2 g3 (by omega) rfl (by omega) (by omega), fun v h' ov hq => ?_⟩⟩
      obtain ⟨rfl, hq⟩ := hq
      exact nx175 _ _ h' c1 hq
    · intro b1 b2 b3 c1 c2 c3 c4 s k
      have hG := toI c4
      have hI := hG.1
      have hL : wk_L (mi_a h) Y := wk_L_g hL0 (wk_gc_fr hI.2.1 hS0 rfl)
      have hb29 := hI.2.2.2.2.1
      have htop := hI.2.2.1
      rw [wk_stk_pop c2] at htop
      have hcs := wk_cases htop
      dsimp only at hcs
      refine ⟨by omega, fun h1 g1 g2 g3 => ⟨_, gl_u (d := d) hS0 hL hG z0 c1 c2 g1 g2 g3 (by omega) rfl (by omega) (by omega), fun v h' ov hq => ?_⟩⟩
      obtain ⟨rfl, hq⟩ := hq
      exact nx175 _ _ h' c1 hq
    · intro b1 b2 b3 c1 c2 c3 c4 s
      have hG := toI c4
      have hI := hG.1
      have hL : wk_L (mi_a h) Y := wk_L_g hL0 (wk_gc_fr hI.2.1 hS0 rfl)
      have hb29 := hI.2.2.2.2.1
      refine ⟨by omega, fun h1 g1 g2 g3 => ⟨_, gl_f (d := d) hS0 hL hG z0 c1 c2 g1 g2 g3 (by omega) rfl rfl, fun v h' ov hq => ?_⟩⟩
      obtain ⟨rfl, hq⟩ := hq
      exact nx183 _ _ h' c1 hq
    · intro b1 b2 b3 b4 c1 c2 c3 c4 s
      obtain ⟨hI, gs, hR, hto, hJ⟩ := toI c4
      have hb29 := hI.2.2.2.2.1
      have htop := hI.2.2.1
      have hst := wk_stk_pop c2
      have es : mi_a h 165 (mi_f h 14029 - 1).toNat = 2 := by omega
      rw [es] at hst
      rw [hst] at htop
      obtain ⟨w1, w2, w3, w4, w5⟩ := wk_out htop
      refine ⟨by omega, fun h1 g1 g2 g3 g4 g5 => ?_⟩
      have e30 : mi_f h1 14030 = mi_f h 14030 := me_f (c := 14030) g5 hS rfl rfl
      have e16 : mi_f h1 14016 = mi_f h 14016 := me_f (c := 14016) g5 hS rfl rfl
      have k1 := stk1 h1 _ c2 g2 g5 rfl
      have hW : wl_H Y h0 1 gl_TT (zt + 1) h1 := Or.inr (wl_rest gl_T hI z0 c1 c2 g2 hst (Or.inl rfl) g1 g5 (by decide) (by
        rw [e30, g4]
        exact wk_SI_Z _ _ _ _ w5 (fun i _ => ⟨me_a (k := 168) g5 hS rfl rfl, me_a (k := 169) g5 hS rfl rfl⟩) (by show mi_f h 14016 ≤ mi_f h1 14016; omega)) (by omega) (by have := hI.2.2.2.2.2; omega))
      refine (nx _ _ h1 c1 (gl_next (hq := h) (v := none) (h1 := h1) (Or.inr (Or.inr (Or.inl rfl))) z0 (by rw [k1]; exact hst) hto hJ hW ?_)).2
      rw [gm_st_2]
      have jd := hJ.1
      have jl := hJ.2.1
      have jn := hJ.2.2.1
      dsimp only at jd jl jn
      rw [hst, gm_outs_2] at jd
      have := gm_outs_nn (wk_st h (mi_f h 14029 - 1).toNat)
      obtain ⟨r1, r2, r3, r4, r5, r6⟩ := hR
      refine gl_ux g1 ((me_f (c := 14044) g5 hS rfl rfl).trans c4) rfl ?_ ?_
      · unfold gx_R
        simp only [gm_T_mk, gm_X_mk, gm_F_mk, gm_D_mk, gm_P_mk]
        refine ⟨gx_T_fr r1 g5 hS rfl, (me_l (c := 14047) g5 hS rfl rfl).trans r2, (me_f (c := 14035) g5 hS rfl rfl).trans r3, ?_, e30.trans r5, gx_P_fr g5 hS rfl _ r6⟩
        rw [g3, r4]
        exact (gx_wrap (by omega) (by omega)).1
      · have i10 := hI.1.2.2.2.2.2.2.2.2.2.1
        rw [hst, wk_ul_o] at i10
        rw [g4, k1]
        omega
    · intro b1 b2 b3 b4 b5 c1 c2 c3 c4 s
      obtain ⟨hI, gs, hR, hto, hJ⟩ := toI c4
      have hb29 := hI.2.2.2.2.1
      have hp60 := hI.2.2.2.2.2
      have htop := hI.2.2.1
      have hst := wk_stk_pop c2
      have es : mi_a h 165 (mi_f h 14029 - 1).toNat = 3 := by omega
      rw [es] at hst
      rw [hst] at htop
      obtain ⟨w1, w2, w3⟩ := wk_mid htop
      refine ⟨by omega, fun h1 g1 g2 g4 g5 => ?_⟩
      have e30 : mi_f h1 14030 = mi_f h 14030 := me_f (c := 14030) g5 hS rfl rfl
      have e32 : mi_f h1 14032 = mi_f h 14032 := me_f (c := 14032) g5 hS rfl rfl
      have e16 : mi_f h1 14016 = mi_f h 14016 := me_f (c := 14016) g5 hS rfl rfl
      have k1 := stk1 h1 _ c2 g2 g5 rfl
      have hW : wl_H Y h0 1 gl_TT (zt + 1) h1 := Or.inr (wl_rest gl_T hI z0 c1 c2 g2 hst (Or.inr (Or.inl rfl)) g1 g5 (by decide) (by
        rw [e30, e32]
        refine wk_middle (wk_SI_Z (Z' := wl_Z h1) _ _ _ _ w3 (fun i hi => ⟨me_a (k := 168) g5 hS rfl rfl, ?_⟩) (by show mi_f h 14016 ≤ mi_f h1 14016; omega)) ?_
        · rw [if_neg (by decide)] at hi
          show mi_a h1 169 i = mi_a h 169 i
          rw [g4, if_neg (by omega)]
        · have w2 : 0 ≤ mi_a h 168 (mi_f h 14030 - 1).toNat ∧ mi_a h 168 (mi_f h 14030 - 1).toNat ≤ mi_f h 14016 := w2
          show 0 ≤ mi_a h1 168 (mi_f h 14030 - 1).toNat ∧ mi_a h1 168 (mi_f h 14030 - 1).toNat ≤ mi_a h1 169 (mi_f h 14030 - 1).toNat ∧ mi_a h1 169 (mi_f h 14030 - 1).toNat ≤ mi_f h1 14016
          rw [g4, if_pos rfl, me_a (k := 168) g5 hS rfl rfl, e16]
          exact ⟨w2.1, w2.2, Int.le_refl _⟩) (by rw [e32]; exact hI.1.2.2.2.2.2.2.2.2.1) (by omega))
      refine (nx _ _ h1 c1 (gl_next (hq := h) (v := none) (h1 := h1) (Or.inr (Or.inr (Or.inr (Or.inl rfl)))) z0 (by rw [k1]; exact hst) hto hJ hW ?_)).2
      rw [gm_st_3]
      obtain ⟨r1, r2, r3, r4, r5, r6⟩ := hR
      refine gl_ux g1 ((me_f (c := 14044) g5 hS rfl rfl).trans c4) rfl ?_ ?_
      · unfold gx_R gm_mid
        simp only [gm_T_mk, gm_X_mk, gm_F_mk, gm_D_mk, gm_P_mk]
        refine ⟨gx_T_fr r1 g5 hS rfl, (me_l (c := 14047) g5 hS rfl rfl).trans r2, (me_f (c := 14035) g5 hS rfl rfl).trans r3, (me_f (c := 14031) g5 hS rfl rfl).trans r4, ?_, ?_⟩
        · rw [e30, r5]
          cases gm_P gs with
          | nil => rfl
          | cons p q => rfl
        · cases hP : gm_P gs with
          | nil => exact trivial
          | cons p q =>
            rw [hP] at r5 r6
            rw [List.length_cons] at r5
            obtain ⟨x1, x2, x3⟩ := r6
            have ei : (mi_f h 14030 - 1).toNat = q.length := by omega
            refine ⟨(me_a (k := 168) g5 hS rfl rfl).trans x1, Or.inr ?_, gx_P_lt (L := q.length) (fun i hi => ⟨me_a (k := 168) g5 hS rfl rfl, ?_⟩) _ (Nat.le_refl _) x3⟩
            · rw [g4, if_pos ei.symm]
              exact r1.1
            · rw [g4, if_neg (by omega)]
      · have i10 := hI.1.2.2.2.2.2.2.2.2.2.1
        rw [hst, wk_ul_c (by decide)] at i10
        rw [e32, k1]
        exact i10.symm
    · intro b1 b2 b3 c1 c2 c3 c4 s
      obtain ⟨hI, gs, hR, hto, hJ⟩ := toI c4
      have hb29 := hI.2.2.2.2.1
      have hp60 := hI.2.2.2.2.2
      have htop := hI.2.2.1
      have hst := wk_stk_pop c2
      have es : mi_a h 165 (mi_f h 14029 - 1).toNat = 4 := by omega
      rw [es] at hst
      rw [hst] at htop
      obtain ⟨w1, w2, w3⟩ := wk_turn htop
      have w2 : 0 ≤ mi_a h 168 (mi_f h 14030 - 1).toNat ∧ mi_a h 168 (mi_f h 14030 - 1).toNat ≤ mi_a h 169 (mi_f h 14030 - 1).toNat ∧ mi_a h 169 (mi_f h 14030 - 1).toNat ≤ mi_f h 14016 := w2
      refine ⟨by omega, fun h1 g1 g2 g3 => ?_⟩
      have e30 : mi_f h1 14030 = mi_f h 14030 := me_f (c := 14030) g3 hS rfl rfl
      have e16 : mi_f h1 14016 = mi_f h 14016 := me_f (c := 14016) g3 hS rfl rfl
      have e168 : mi_a h1 168 (mi_f h 14030 - 1).toNat = mi_a h 168 (mi_f h 14030 - 1).toNat := me_a (k := 168) g3 hS rfl rfl
      have e169 : mi_a h1 169 (mi_f h 14030 - 1).toNat = mi_a h 169 (mi_f h 14030 - 1).toNat := me_a (k := 169) g3 hS rfl rfl
      -- the pair on the top
      obtain ⟨p, q, hP, hp0⟩ : ∃ p q, gm_P gs = p :: q ∧ p.2 ≠ 0 := by
        have j5 := hJ.2.2.2.2
        dsimp only at j5
        rw [hst] at j5
        cases hP : gm_P gs with
        | nil =>
          rw [hP] at j5
          exact absurd j5 gm_fl_40
        | cons p q =>
          rw [hP] at j5
          have j5 : gm_fl ((4, mi_a h 166 (mi_f h 14029 - 1).toNat, mi_a h 167 (mi_f h 14029 - 1).toNat) :: wk_st h (mi_f h 14029 - 1).toNat) (decide (p.2 ≠ 0) :: gm_fg q) := j5
          rw [gm_fl_4] at j5
          exact ⟨p, q, rfl, of_decide_eq_true j5.1⟩
      obtain ⟨r1, r2, r3, r4, r5, r6⟩ := id hR
      have r16 := r1.1
      rw [hP] at r5 r6
      rw [List.length_cons] at r5
      obtain ⟨x1, x2, x3⟩ := r6
      have x2 := x2.resolve_left hp0
      have ei : (mi_f h 14030 - 1).toNat = q.length := by omega
      rw [ei, x1, x2, r16] at w2
      refine ⟨_, (me_swap (d := d + 6) g1 (by omega) (by omega) (by rw [e30, e168, ei, x1]; omega) (by rw [e30, e168, e169, ei, x1, x2]; omega) (by rw [e30, e169, e16, ei, x2]; omega)).and (me_swapx (d := d + 6) g1 (gx_R_fr hR g3 hS rfl rfl rfl rfl) hP (by omega) hp0 (by omega) (by omega)), fun v h' ov hq => ?_⟩
      obtain ⟨⟨rfl, q1, q2, q3⟩, ⟨-, -, -, q4⟩⟩ := hq
      have hF : ab_Fr ([(14029, 14031), (18560, 18561), (20480, 20481)]) h h' := (g3.wide (fun c hc => ab_swr_ok (by decide) hc)).trans (q2.wide (fun c hc => ab_swr_ok (by decide) hc))
      have f29 : mi_f h' 14029 = mi_f h 14029 - 1 := (me_f (c := 14029) q2 g1 rfl rfl).trans g2
      have f16 : mi_f h' 14016 = mi_f h 14016 := me_f (c := 14016) hF hS rfl rfl
      have f32 : mi_f h' 14032 = mi_f h 14032 := me_f (c := 14032) hF hS rfl rfl
      have f30 : mi_f h' 14030 = mi_f h 14030 - 1 := by omega
      have k1 := stk1 h' _ c2 f29 hF rfl
      have hW : wl_H Y h0 1 gl_TT (zt + 1) h' := Or.inr (wl_rest gl_T hI z0 c1 c2 f29 hst (Or.inr (Or.inr rfl)) q1 hF (by decide) (by
        rw [f30, f32]
        exact wk_SI_Z _ _ _ _ w3 (fun i _ => ⟨me_a (k := 168) hF hS rfl rfl, me_a (k := 169) hF hS rfl rfl⟩) (by show mi_f h 14016 ≤ mi_f h' 14016; omega)) (by rw [f32]; exact hI.1.2.2.2.2.2.2.2.2.1) (by omega))
      refine nx208 _ _ h' c1 (gl_next (hq := h) (v := none) (h1 := h') (Or.inr (Or.inr (Or.inr (Or.inr (Or.inl rfl))))) z0 (by rw [k1]; exact hst) hto hJ hW ?_)
      rw [gm_st_4]
      refine gl_ux q1 ((me_f (c := 14044) hF hS rfl rfl).trans c4) rfl q4 ?_
      have i10 := hI.1.2.2.2.2.2.2.2.2.2.1
      rw [hst, wk_ul_c (by decide)] at i10
      rw [f32, k1]
      exact i10.symm
    · intro b1 b2 b3 c1 c2 c3 c4 s
      have hG := toI c4
      have hI := hG.1
      have hL : wk_L (mi_a h) Y := wk_L_g hL0 (wk_gc_fr hI.2.1 hS0 rfl)
      have hb29 := hI.2.2.2.2.1
      refine ⟨by omega, fun h1 g1 g2 g3 => ⟨_, gl_a (d := d) hS0 hL hG z0 c1 c2 g1 g2 g3 (by omega) rfl rfl, fun v h' ov hq => ?_⟩⟩
      obtain ⟨rfl, hq⟩ := hq
      exact nx218 _ _ h' c1 hq
    · intro b1 b2 b3 b4 c1 c2 c3 c4 s
      exfalso
      have hI := (toI c4).1
      have htop := hI.2.2.1
      rw [wk_stk_pop c2] at htop
      have hcs := wk_cases htop
      dsimp only at hcs
      omega
/-- from the begin -/
theorem me_walkx {h : sm_H} (hS : ab_Sh sx_sk h) (hL : wk_L (mi_a h) Y) (hr : wk_Lrule Y (mi_a h 114 0)) (hf0 : 0 ≤ mi_f h 14035) (hf1 : mi_f h 14035 ≤ 20) : me_E (d + 7) 206 0 [some (.inr (.inr 109)), some (.inl (1 : Int)), none, none, none] [] h (gl_End Y h ([(1, mi_a h 114 0, 0), (2, 1, 0)], (mx_l h 14047, mi_f h 14035 - 1, [(1, 0, 0)], 1, []))) := by
  have oh : mi_in 1 := ⟨by decide, by decide⟩
  refine mt_waA hS oh ?_
  intro h1 g1 f16 f28 f29 f30 f31 f32 f33 f34 f44 g2
  have est : wk_stk h1 = [] := by unfold wk_stk; rw [f29]; rfl
  have e14 : mi_a h1 114 (Int.toNat 0) = mi_a h 114 0 := me_a (k := 114) g2 hS rfl rfl
  have hR1 : gx_R h1 (mx_l h 14047, mi_f h 14035, [], 0, []) := by
    unfold gx_R
    simp only [gm_T_mk, gm_X_mk, gm_F_mk, gm_D_mk, gm_P_mk]
    exact ⟨⟨f16, fun k hk => absurd hk (Nat.not_lt_zero _), fun k j hk => absurd hk (Nat.not_lt_zero _)⟩, me_l (c := 14047) g2 hS rfl rfl, me_f (c := 14035) g2 hS rfl rfl, f31, f30, trivial⟩
  refine ⟨_, (me_enter (d := d + 4) 1 g1 f28 (by decide) (by decide) (by omega) (by omega) (by omega) (by omega) (fun _ => by omega)).and (me_enterx (d := d + 4) g1 f28 (by omega) (by omega) (by rw [est, f32]; rfl) (by omega) (by omega) (by decide) (by decide) hR1 (by rw [gm_F_mk]; omega) (by rw [gm_F_mk]; omega) (by rw [gm_D_mk]; decide) (by rw [gm_D_mk]; decide)), fun v h2 ov hq => ?_⟩
  obtain ⟨⟨rfl, q1, q2, q3, q4⟩, qx⟩ := hq
  have hF : ab_Fr wr_WK h h2 := (g2.wide (fun c hc => ab_swr_ok (by decide) hc)).trans (q2.wide (fun c hc => ab_swr_ok (by decide) hc))
  have een : gm_en (mi_a h1) 0 (wk_stk h1) (mx_l h 14047, mi_f h 14035, [], 0, []) = some ([(1, mi_a h 114 0, 0), (2, 1, 0)], (mx_l h 14047, mi_f h 14035 - 1, [(1, 0, 0)], 1, [])) := by
    unfold gm_en gm_c
    rw [est, if_neg (show ¬ (12 : Int) ≤ wk_ul [] by decide), gm_X_mk, gm_F_mk, gm_T_mk, gm_D_mk, gm_P_mk, gm_X_mk, gm_F_mk, gm_T_mk, gm_D_mk, gm_P_mk, if_neg (show ¬ 100 ≤ ([] : List (Int × Int × Int)).length by decide), e14]
    rfl
  rw [een] at qx
  obtain ⟨-, -, -, -, -, q5⟩ := qx
  refine mt_waB q1 oh ?_
  intro h3 r1 r2
  have e3 := me_nil r2
  subst e3
  refine gl_loop hS hL oh 40001 0 none none _ (by decide) (by decide) (by decide) (fun v e => by cases e) (fun v e => by cases e) ?_
  rcases q5 with ⟨q5, -⟩ | ⟨q5, c, q6, q7, q8, q9⟩
  · cases q5
  · injection q6 with q6
    subst q6
    dsimp only at q7 q8 q9
    rcases q4 with q4 | ⟨-, p5, p6, p7, p8, p9⟩
    · exfalso; omega
    · obtain ⟨v1, v2, v3, v4⟩ := p9
      have p30 : mi_f h3 14030 = 0 := (me_f (c := 14030) q2 g1 rfl rfl).trans f30
      have p28 : mi_f h3 14028 = 1 := (me_f (c := 14028) q2 g1 rfl rfl).trans f28
      have ul : wk_ul [(1, mi_a h 114 0, 0), (2, 1, 0)] = 1 := by
        rw [wk_ul_c (by decide)]
        rfl
      have en : wk_n 1 h1 = 0 := by unfold wk_n; rw [if_neg (by decide)]; exact f16
      refine Or.inr ⟨⟨⟨q1, p28, Or.inr (Or.inl rfl), q5, by omega, fun e => absurd e (by decide), by omega, by omega, by omega, by rw [q7, ul]; omega, by omega⟩, hF, ?_, trivial, by omega, by omega⟩, _, q8, ?_, ?_⟩
      · obtain ⟨l1, l2, l3⟩ := hr
        have hd := (hL.2.2.2 _ l1 l2).1
        rw [q7, p30, p6, f32]
        refine wk_pform ⟨l1, l2, ?_, by decide, by omega, by decide, by decide⟩ (wk_pout (Or.inr rfl) (by decide) (by decide) (by decide) ?_)
        · show (1 : Int) + _ - 4 ≤ _
          omega
        · unfold wk_SI
          exact ⟨rfl, rfl, by decide⟩
      · rw [q7]
        rfl
      · rw [q7]
        unfold gm_I gm_len
        dsimp only
        simp only [gm_T_mk, gm_F_mk, gm_D_mk, gm_P_mk]
        exact ⟨rfl, by decide, by decide, by show -(1 : Int) ≤ _ ∧ _; omega, trivial⟩
end GLM
/-! segments of the class: Growing -/
set_option maxRecDepth 20000 in
theorem mp_kgen_0 (h : sm_H) (d : Nat) (zk zv : Int) : mj_path [(116, (4, 1, sb_116)), (16, (3, 0, sb_16)), (49, (2, 1, sb_49)), (117, (3, 1, sb_117)), (114, (1, 0, sb_114))] sx_sk h 52 [1, 1, 1, 1, 8, 8, 1] (d + 2, 116, 0, [some (.inr (.inr 107)), some (.inl (zk)), some (.inl (zv)), none], [], [], []) = some ((d + 2, 116, 20, [some (.inr (.inr 107)), some (.inl (zk)), some (.inl (zv)), some (.inl (((mi_f h 13056) + ((1 : Int))) - ((1 : Int))))], [.inl (((mi_f h 13056) + ((1 : Int))) - ((1 : Int)))], [.inl (13056, (mi_f h 13056) + ((1 : Int)))], []), [(mi_f h 13056) < ((100 : Int)), (mi_f h 13056) < ((0 : Int)), (mi_f h 13056) < ((0 : Int)), (mi_f h 13056) < ((0 : Int)), -2147483648 ≤ (mi_f h 13056) + ((1 : Int)) ∧ (mi_f h 13056) + ((1 : Int)) ≤ 2147483647, -2147483648 ≤ ((mi_f h 13056) + ((1 : Int))) - ((1 : Int)) ∧ ((mi_f h 13056) + ((1 : Int))) - ((1 : Int)) ≤ 2147483647, (((mi_f h 13056) + ((1 : Int))) - ((1 : Int))) ≠ ((-1 : Int))]) := rfl
theorem mi_tab_kgen_0 : ∀ e ∈ ([(116, (4, 1, sb_116)), (16, (3, 0, sb_16)), (49, (2, 1, sb_49)), (117, (3, 1, sb_117)), (114, (1, 0, sb_114))] : mi_T), sc_P e.1 = some e.2 := mi_tb mi_P116 (mi_tb mi_P16 (mi_tb mi_P49 (mi_tb mi_P117 (mi_tb mi_P114 (mi_tb_e)))))
set_option maxRecDepth 20000 in
theorem ms_kgen_0 {h : sm_H} {d : Nat} {Q : Option mi_V → sm_H → Prop} {zk zv : Int} (hS : ab_Sh sx_sk h) (ok_zk : mi_in zk) (ok_zv : mi_in zv) (ho : ((mi_f h 13056) < ((100 : Int))) ∧ ((mi_f h 13056) < ((0 : Int))) ∧ ((mi_f h 13056) < ((0 : Int))) ∧ ((mi_f h 13056) < ((0 : Int))) ∧ (-2147483648 ≤ (mi_f h 13056) + ((1 : Int)) ∧ (mi_f h 13056) + ((1 : Int)) ≤ 2147483647) ∧ (-2147483648 ≤ ((mi_f h 13056) + ((1 : Int))) - ((1 : Int)) ∧ ((mi_f h 13056) + ((1 : Int))) - ((1 : Int)) ≤ 2147483647) ∧ ((((mi_f h 13056) + ((1 : Int))) - ((1 : Int))) ≠ ((-1 : Int)))) (kon : ∀ h1, me_W [.inl (13056, (mi_f h 13056) + ((1 : Int)))] h h1 → Q (some (.inl (((mi_f h 13056) + ((1 : Int))) - ((1 : Int))))) h1) : me_E (d + 2) 116 0 [some (.inr (.inr 107)), some (.inl (zk)), some (.inl (zv)), none] [] h Q := mf_seg (mp_kgen_0 h d zk zv) (mi_tab_kgen_0) hS (mi_okL_c (trivial) (mi_okL_c (ok_zk) (mi_okL_c (ok_zv) (mi_okL_n (mi_okL_e))))) (mi_okS_e) (mi_al (ho.1) (mi_al (ho.2.1) (mi_al (ho.2.2.1) (mi_al (ho.2.2.2.1) (mi_al (ho.2.2.2.2.1) (mi_al (ho.2.2.2.2.2.1) (mi_al (ho.2.2.2.2.2.2) (mi_al_e)))))))) (fun h1 W _ hst => mf_ret (M := (4, 1, sb_116)) rfl rfl rfl hst (mi_al_e) (kon h1 W))
set_option maxRecDepth 20000 in
theorem mp_kgen_1 (h : sm_H) (d : Nat) (zk zv : Int) : mj_path [(116, (4, 1, sb_116)), (16, (3, 0, sb_16)), (49, (2, 1, sb_49)), (117, (3, 1, sb_117)), (114, (1, 0, sb_114))] sx_sk h 61 [1, 1, 1, 1, 8, 8, 0] (d + 2, 116, 0, [some (.inr (.inr 107)), some (.inl (zk)), some (.inl (zv)), none], [], [], []) = some ((d + 2, 116, 20, [some (.inr (.inr 107)), some (.inl (zk)), some (.inl (zv)), some (.inl (((mi_f h 13056) + ((1 : Int))) - ((1 : Int))))], [.inl (((mi_f h 13056) + ((1 : Int))) - ((1 : Int)))], [.inl (13699, (1 : Int)), .inl (13700, (1 : Int)), .inl (13056, (mi_f h 13056) + ((1 : Int)))], []), [(mi_f h 13056) < ((100 : Int)), (mi_f h 13056) < ((0 : Int)), (mi_f h 13056) < ((0 : Int)), (mi_f h 13056) < ((0 : Int)), -2147483648 ≤ (mi_f h 13056) + ((1 : Int)) ∧ (mi_f h 13056) + ((1 : Int)) ≤ 2147483647, -2147483648 ≤ ((mi_f h 13056) + ((1 : Int))) - ((1 : Int)) ∧ ((mi_f h 13056) + ((1 : Int))) - ((1 : Int)) ≤ 2147483647, (((mi_f h 13056) + ((1 : Int))) - ((1 : Int))) = ((-1 : Int)), 0 ≤ ((1 : Int)) ∧ ((1 : Int)) ≤ 1, 0 ≤ ((1 : Int)) ∧ ((1 : Int)) ≤ 1, 0 ≤ ((1 : Int)) ∧ ((1 : Int)) ≤ 1, 0 ≤ ((1 : Int)) ∧ ((1 : Int)) ≤ 1]) := rfl
theorem mi_tab_kgen_1 : ∀ e ∈ ([(116, (4, 1, sb_116)), (16, (3, 0, sb_16)), (49, (2, 1, sb_49)), (117, (3, 1, sb_117)), (114, (1, 0, sb_114))] : mi_T), sc_P e.1 = some e.2 := mi_tb mi_P116 (mi_tb mi_P16 (mi_tb mi_P49 (mi_tb mi_P117 (mi_tb mi_P114 (mi_tb_e)))))
set_option maxRecDepth 20000 in
theorem ms_kgen_1 {h : sm_H} {d : Nat} {Q : Option mi_V → sm_H → Prop} {zk zv : Int} (hS : ab_Sh sx_sk h) (ok_zk : mi_in zk) (ok_zv : mi_in zv) (ho : ((mi_f h 13056) < ((100 : Int))) ∧ ((mi_f h 13056) < ((0 : Int))) ∧ ((mi_f h 13056) < ((0 : Int))) ∧ ((mi_f h 13056) < ((0 : Int))) ∧ (-2147483648 ≤ (mi_f h 13056) + ((1 : Int)) ∧ (mi_f h 13056) + ((1 : Int)) ≤ 2147483647) ∧ (-2147483648 ≤ ((mi_f h 13056) + ((1 : Int))) - ((1 : Int)) ∧ ((mi_f h 13056) + ((1 : Int))) - ((1 : Int)) ≤ 2147483647) ∧ ((((mi_f h 13056) + ((1 : Int))) - ((1 : Int))) = ((-1 : Int))) ∧ (0 ≤ ((1 : Int)) ∧ ((1 : Int)) ≤ 1) ∧ (0 ≤ ((1 : Int)) ∧ ((1 : Int)) ≤ 1) ∧ (0 ≤ ((1 : Int)) ∧ ((1 : Int)) ≤ 1) ∧ (0 ≤ ((1 : Int)) ∧ ((1 : Int)) ≤ 1)) (kon : ∀ h1, me_W [.inl (13699, (1 : Int)), .inl (13700, (1 : Int)), .inl (13056, (mi_f h 13056) + ((1 : Int)))] h h1 → Q (some (.inl (((mi_f h 13056) + ((1 : Int))) - ((1 : Int))))) h1) : me_E (d + 2) 116 0 [some (.inr (.inr 107)), some (.inl (zk)), some (.inl (zv)), none] [] h Q := mf_seg (mp_kgen_1 h d zk zv) (mi_tab_kgen_1) hS (mi_okL_c (trivial) (mi_okL_c (ok_zk) (mi_okL_c (ok_zv) (mi_okL_n (mi_okL_e))))) (mi_okS_e) (mi_al (ho.1) (mi_al (ho.2.1) (mi_al (ho.2.2.1) (mi_al (ho.2.2.2.1) (mi_al (ho.2.2.2.2.1) (mi_al (ho.2.2.2.2.2.1) (mi_al (ho.2.2.2.2.2.2.1) (mi_al (ho.2.2.2.2.2.2.2.1) (mi_al (ho.2.2.2.2.2.2.2.2.1) (mi_al (ho.2.2.2.2.2.2.2.2.2.1) (mi_al (ho.2.2.2.2.2.2.2.2.2.2) (mi_al_e)))))))))))) (fun h1 W _ hst => mf_ret (M := (4, 1, sb_116)) rfl rfl rfl hst (mi_al_e) (kon h1 W))
set_option maxRecDepth 20000 in
theorem mp_kgen_2 (h : sm_H) (d : Nat) (zk zv : Int) : mj_path [(116, (4, 1, sb_116)), (16, (3, 0, sb_16)), (49, (2, 1, sb_49)), (117, (3, 1, sb_117)), (114, (1, 0, sb_114))] sx_sk h 76 [1, 0, 0, 0, 0, 0, 0, 8, 8, 1] (d + 2, 116, 0, [some (.inr (.inr 107)), some (.inl (zk)), some (.inl (zv)), none], [], [], []) = some ((d + 2, 116, 20, [some (.inr (.inr 107)), some (.inl (zk)), some (.inl (zv)), some (.inl (((mi_f h 13056) + ((1 : Int))) - ((1 : Int))))], [.inl (((mi_f h 13056) + ((1 : Int))) - ((1 : Int)))], [.inl (13056, (mi_f h 13056) + ((1 : Int))), .inr (.inr (.inl (105, Int.toNat (mi_f h 13056), (0 : Int)))), .inr (.inr (.inl (104, Int.toNat (mi_f h 13056), zv))), .inr (.inr (.inl (103, Int.toNat (mi_f h 13056), zk)))], []), [(mi_f h 13056) < ((100 : Int)), ((0 : Int)) ≤ (mi_f h 13056), (mi_f h 13056) < ((100 : Int)), 0 ≤ (mi_f h 13056) ∧ (mi_f h 13056) < 100, ((0 : Int)) ≤ (mi_f h 13056), (mi_f h 13056) < ((100 : Int)), 0 ≤ (mi_f h 13056) ∧ (mi_f h 13056) < 100, ((0 : Int)) ≤ (mi_f h 13056), (mi_f h 13056) < ((100 : Int)), 0 ≤ (mi_f h 13056) ∧ (mi_f h 13056) < 100, -2147483648 ≤ (mi_f h 13056) + ((1 : Int)) ∧ (mi_f h 13056) + ((1 : Int)) ≤ 2147483647, -2147483648 ≤ ((mi_f h 13056) + ((1 : Int))) - ((1 : Int)) ∧ ((mi_f h 13056) + ((1 : Int))) - ((1 : Int)) ≤ 2147483647, (((mi_f h 13056) + ((1 : Int))) - ((1 : Int))) ≠ ((-1 : Int))]) := rfl
theorem mi_tab_kgen_2 : ∀ e ∈ ([(116, (4, 1, sb_116)), (16, (3, 0, sb_16)), (49, (2, 1, sb_49)), (117, (3, 1, sb_117)), (114, (1, 0, sb_114))] : mi_T), sc_P e.1 = some e.2 := mi_tb mi_P116 (mi_tb mi_P16 (mi_tb mi_P49 (mi_tb mi_P117 (mi_tb mi_P114 (mi_tb_e)))))
set_option maxRecDepth 20000 in
theorem ms_kgen_2 {h : sm_H} {d : Nat} {Q : Option mi_V → sm_H → Prop} {zk zv : Int} (hS : ab_Sh sx_sk h) (ok_zk : mi_in zk) (ok_zv : mi_in zv) (ho : ((mi_f h 13056) < ((100 : Int))) ∧ (((0 : Int)) ≤ (mi_f h 13056)) ∧ ((mi_f h 13056) < ((100 : Int))) ∧ (0 ≤ (mi_f h 13056) ∧ (mi_f h 13056) < 100) ∧ (((0 : Int)) ≤ (mi_f h 13056)) ∧ ((mi_f h 13056) < ((100 : Int))) ∧ (0 ≤ (mi_f h 13056) ∧ (mi_f h 13056) < 100) ∧ (((0 : Int)) ≤ (mi_f h 13056)) ∧ ((mi_f h 13056) < ((100 : Int))) ∧ (0 ≤ (mi_f h 13056) ∧ (mi_f h 13056) < 100) ∧ (-2147483648 ≤ (mi_f h 13056) + ((1 : Int)) ∧ (mi_f h 13056) + ((1 : Int)) ≤ 2147483647) ∧ (-2147483648 ≤ ((mi_f h 13056) + ((1 : Int))) - ((1 : Int)) ∧ ((mi_f h 13056) + ((1 : Int))) - ((1 : Int)) ≤ 2147483647) ∧ ((((mi_f h 13056) + ((1 : Int))) - ((1 : Int))) ≠ ((-1 : Int)))) (kon : ∀ h1, me_W [.inl (13056, (mi_f h 13056) + ((1 : Int))), .inr (.inr (.inl (105, Int.toNat (mi_f h 13056), (0 : Int)))), .inr (.inr (.inl (104, Int.toNat (mi_f h 13056), zv))), .inr (.inr (.inl (103, Int.toNat (mi_f h 13056), zk)))] h h1 → Q (some (.inl (((mi_f h 13056) + ((1 : Int))) - ((1 : Int))))) h1) : me_E (d + 2) 116 0 [some (.inr (.inr 107)), some (.inl (zk)), some (.inl (zv)), none] [] h Q := mf_seg (mp_kgen_2 h d zk zv) (mi_tab_kgen_2) hS (mi_okL_c (trivial) (mi_okL_c (ok_zk) (mi_okL_c (ok_zv) (mi_okL_n (mi_okL_e))))) (mi_okS_e) (mi_al (ho.1) (mi_al (ho.2.1) (mi_al (ho.2.2.1) (mi_al (ho.2.2.2.1) (mi_al (ho.2.2.2.2.1) (mi_al (ho.2.2.2.2.2.1) (mi_al (ho.2.2.2.2.2.2.1) (mi_al (ho.2.2.2.2.2.2.2.1) (mi_al (ho.2.2.2.2.2.2.2.2.1) (mi_al (ho.2.2.2.2.2.2.2.2.2.1) (mi_al (ho.2.2.2.2.2.2.2.2.2.2.1) (mi_al (ho.2.2.2.2.2.2.2.2.2.2.2.1) (mi_al (ho.2.2.2.2.2.2.2.2.2.2.2.2) (mi_al_e)))))))))))))) (fun h1 W _ hst => mf_ret (M := (4, 1, sb_116)) rfl rfl rfl hst (mi_al_e) (kon h1 W))
set_option maxRecDepth 20000 in
theorem mp_kgen_3 (h : sm_H) (d : Nat) (zk zv : Int) : mj_path [(116, (4, 1, sb_116)), (16, (3, 0, sb_16)), (49, (2, 1, sb_49)), (117, (3, 1, sb_117)), (114, (1, 0, sb_114))] sx_sk h 85 [1, 0, 0, 0, 0, 0, 0, 8, 8, 0] (d + 2, 116, 0, [some (.inr (.inr 107)), some (.inl (zk)), some (.inl (zv)), none], [], [], []) = some ((d + 2, 116, 20, [some (.inr (.inr 107)), some (.inl (zk)), some (.inl (zv)), some (.inl (((mi_f h 13056) + ((1 : Int))) - ((1 : Int))))], [.inl (((mi_f h 13056) + ((1 : Int))) - ((1 : Int)))], [.inl (13699, (1 : Int)), .inl (13700, (1 : Int)), .inl (13056, (mi_f h 13056) + ((1 : Int))), .inr (.inr (.inl (105, Int.toNat (mi_f h 13056), (0 : Int)))), .inr (.inr (.inl (104, Int.toNat (mi_f h 13056), zv))), .inr (.inr (.inl (103, Int.toNat (mi_f h 13056), zk)))], []), [(mi_f h 13056) < ((100 : Int)), ((0 : Int)) ≤ (mi_f h 13056), (mi_f h 13056) < ((100 : Int)), 0 ≤ (mi_f h 13056) ∧ (mi_f h 13056) < 100, ((0 : Int)) ≤ (mi_f h 13056), (mi_f h 13056) < ((100 : Int)), 0 ≤ (mi_f h 13056) ∧ (mi_f h 13056) < 100, ((0 : Int)) ≤ (mi_f h 13056), (mi_f h 13056) < ((100 : Int)), 0 ≤ (mi_f h 13056) ∧ (mi_f h 13056) < 100, -2147483648 ≤ (mi_f h 13056) + ((1 : Int)) ∧ (mi_f h 13056) + ((1 : Int)) ≤ 2147483647, -2147483648 ≤ ((mi_f h 13056) + ((1 : Int))) - ((1 : Int)) ∧ ((mi_f h 13056) + ((1 : Int))) - ((1 : Int)) ≤ 2147483647, (((mi_f h 13056) + ((1 : Int))) - ((1 : Int))) = ((-1 : Int)), 0 ≤ ((1 : Int)) ∧ ((1 : Int)) ≤ 1, 0 ≤ ((1 : Int)) ∧ ((1 : Int)) ≤ 1, 0 ≤ ((1 : Int)) ∧ ((1 : Int)) ≤ 1, 0 ≤ ((1 : Int)) ∧ ((1 : Int)) ≤ 1]) := rfl
theorem mi_tab_kgen_3 : ∀ e ∈ ([(116, (4, 1, sb_116)), (16, (3, 0, sb_16)), (49, (2, 1, sb_49)), (117, (3, 1, sb_117)), (114, (1, 0, sb_114))] : mi_T), sc_P e.1 = some e.2 := mi_tb mi_P116 (mi_tb mi_P16 (mi_tb mi_P49 (mi_tb mi_P117 (mi_tb mi_P114 (mi_tb_e)))))
set_option maxRecDepth 20000 in
theorem ms_kgen_3 {h : sm_H} {d : Nat} {Q : Option mi_V → sm_H → Prop} {zk zv : Int} (hS : ab_Sh sx_sk h) (ok_zk : mi_in zk) (ok_zv : mi_in zv) (ho : ((mi_f h 13056) < ((100 : Int))) ∧ (((0 : Int)) ≤ (mi_f h 13056)) ∧ ((mi_f h 13056) < ((100 : Int))) ∧ (0 ≤ (mi_f h 13056) ∧ (mi_f h 13056) < 100) ∧ (((0 : Int)) ≤ (mi_f h 13056)) ∧ ((mi_f h 13056) < ((100 : Int))) ∧ (0 ≤ (mi_f h 13056) ∧ (mi_f h 13056) < 100) ∧ (((0 : Int)) ≤ (mi_f h 13056)) ∧ ((mi_f h 13056) < ((100 : Int))) ∧ (0 ≤ (mi_f h 13056) ∧ (mi_f h 13056) < 100) ∧ (-2147483648 ≤ (mi_f h 13056) + ((1 : Int)) ∧ (mi_f h 13056) + ((1 : Int)) ≤ 2147483647) ∧ (-2147483648 ≤ ((mi_f h 13056) + ((1 : Int))) - ((1 : Int)) ∧ ((mi_f h 13056) + ((1 : Int))) - ((1 : Int)) ≤ 2147483647) ∧ ((((mi_f h 13056) + ((1 : Int))) - ((1 : Int))) = ((-1 : Int))) ∧ (0 ≤ ((1 : Int)) ∧ ((1 : Int)) ≤ 1) ∧ (0 ≤ ((1 : Int)) ∧ ((1 : Int)) ≤ 1) ∧ (0 ≤ ((1 : Int)) ∧ ((1 : Int)) ≤ 1) ∧ (0 ≤ ((1 : Int)) ∧ ((1 : Int)) ≤ 1)) (kon : ∀ h1, me_W [.inl (13699, (1 : Int)), .inl (13700, (1 : Int)), .inl (13056, (mi_f h 13056) + ((1 : Int))), .inr (.inr (.inl (105, Int.toNat (mi_f h 13056), (0 : Int)))), .inr (.inr (.inl (104, Int.toNat (mi_f h 13056), zv))), .inr (.inr (.inl (103, Int.toNat (mi_f h 13056), zk)))] h h1 → Q (some (.inl (((mi_f h 13056) + ((1 : Int))) - ((1 : Int))))) h1) : me_E (d + 2) 116 0 [some (.inr (.inr 107)), some (.inl (zk)), some (.inl (zv)), none] [] h Q := mf_seg (mp_kgen_3 h d zk zv) (mi_tab_kgen_3) hS (mi_okL_c (trivial) (mi_okL_c (ok_zk) (mi_okL_c (ok_zv) (mi_okL_n (mi_okL_e))))) (mi_okS_e) (mi_al (ho.1) (mi_al (ho.2.1) (mi_al (ho.2.2.1) (mi_al (ho.2.2.2.1) (mi_al (ho.2.2.2.2.1) (mi_al (ho.2.2.2.2.2.1) (mi_al (ho.2.2.2.2.2.2.1) (mi_al (ho.2.2.2.2.2.2.2.1) (mi_al (ho.2.2.2.2.2.2.2.2.1) (mi_al (ho.2.2.2.2.2.2.2.2.2.1) (mi_al (ho.2.2.2.2.2.2.2.2.2.2.1) (mi_al (ho.2.2.2.2.2.2.2.2.2.2.2.1) (mi_al (ho.2.2.2.2.2.2.2.2.2.2.2.2.1) (mi_al (ho.2.2.2.2.2.2.2.2.2.2.2.2.2.1) (mi_al (ho.2.2.2.2.2.2.2.2.2.2.2.2.2.2.1) (mi_al (ho.2.2.2.2.2.2.2.2.2.2.2.2.2.2.2.1) (mi_al (ho.2.2.2.2.2.2.2.2.2.2.2.2.2.2.2.2) (mi_al_e)))))))))))))))))) (fun h1 W _ hst => mf_ret (M := (4, 1, sb_116)) rfl rfl rfl hst (mi_al_e) (kon h1 W))
set_option maxRecDepth 20000 in
theorem mp_kgen_4 (h : sm_H) (d : Nat) (zk zv : Int) : mj_path [(116, (4, 1, sb_116)), (16, (3, 0, sb_16)), (49, (2, 1, sb_49)), (117, (3, 1, sb_117)), (114, (1, 0, sb_114))] sx_sk h 25 [0, 0] (d + 2, 116, 0, [some (.inr (.inr 107)), some (.inl (zk)), some (.inl (zv)), none], [], [], []) = some ((d + 2, 116, 20, [some (.inr (.inr 107)), some (.inl (zk)), some (.inl (zv)), some (.inl ((-1 : Int)))], [.inl ((-1 : Int))], [.inl (13699, (1 : Int)), .inl (13700, (1 : Int))], []), [((100 : Int)) ≤ (mi_f h 13056), ((-1 : Int)) = ((-1 : Int)), 0 ≤ ((1 : Int)) ∧ ((1 : Int)) ≤ 1, 0 ≤ ((1 : Int)) ∧ ((1 : Int)) ≤ 1, 0 ≤ ((1 : Int)) ∧ ((1 : Int)) ≤ 1, 0 ≤ ((1 : Int)) ∧ ((1 : Int)) ≤ 1]) := rfl
theorem mi_tab_kgen_4 : ∀ e ∈ ([(116, (4, 1, sb_116)), (16, (3, 0, sb_16)), (49, (2, 1, sb_49)), (117, (3, 1, sb_117)), (114, (1, 0, sb_114))] : mi_T), sc_P e.1 = some e.2 := mi_tb mi_P116 (mi_tb mi_P16 (mi_tb mi_P49 (mi_tb mi_P117 (mi_tb mi_P114 (mi_tb_e)))))
set_option maxRecDepth 20000 in
theorem ms_kgen_4 {h : sm_H} {d : Nat} {Q : Option mi_V → sm_H → Prop} {zk zv : Int} (hS : ab_Sh sx_sk h) (ok_zk : mi_in zk) (ok_zv : mi_in zv) (ho : (((100 : Int)) ≤ (mi_f h 13056)) ∧ (((-1 : Int)) = ((-1 : Int))) ∧ (0 ≤ ((1 : Int)) ∧ ((1 : Int)) ≤ 1) ∧ (0 ≤ ((1 : Int)) ∧ ((1 : Int)) ≤ 1) ∧ (0 ≤ ((1 : Int)) ∧ ((1 : Int)) ≤ 1) ∧ (0 ≤ ((1 : Int)) ∧ ((1 : Int)) ≤ 1)) (kon : ∀ h1, me_W [.inl (13699, (1 : Int)), .inl (13700, (1 : Int))] h h1 → Q (some (.inl ((-1 : Int)))) h1) : me_E (d + 2) 116 0 [some (.inr (.inr 107)), some (.inl (zk)), some (.inl (zv)), none] [] h Q := mf_seg (mp_kgen_4 h d zk zv) (mi_tab_kgen_4) hS (mi_okL_c (trivial) (mi_okL_c (ok_zk) (mi_okL_c (ok_zv) (mi_okL_n (mi_okL_e))))) (mi_okS_e) (mi_al (ho.1) (mi_al (ho.2.1) (mi_al (ho.2.2.1) (mi_al (ho.2.2.2.1) (mi_al (ho.2.2.2.2.1) (mi_al (ho.2.2.2.2.2) (mi_al_e))))))) (fun h1 W _ hst => mf_ret (M := (4, 1, sb_116)) rfl rfl rfl hst (mi_al_e) (kon h1 W))
set_option maxRecDepth 20000 in
theorem mt_kgen {h : sm_H} {d : Nat} {Q : Option mi_V → sm_H → Prop} {zk zv : Int} (hS : ab_Sh sx_sk h) (ok_zk : mi_in zk) (ok_zv : mi_in zv) (k0 : ((-2147483648) ≤ mi_f h 13056 ∧ mi_f h 13056 ≤ 2147483647) → ((mi_f h 13056) < ((100 : Int))) → ((mi_f h 13056) < ((0 : Int))) → ((((mi_f h 13056) + ((1 : Int))) - ((1 : Int))) ≠ ((-1 : Int))) → ((-2147483648 ≤ (mi_f h 13056) + ((1 : Int)) ∧ (mi_f h 13056) + ((1 : Int)) ≤ 2147483647) ∧ (-2147483648 ≤ ((mi_f h 13056) + ((1 : Int))) - ((1 : Int)) ∧ ((mi_f h 13056) + ((1 : Int))) - ((1 : Int)) ≤ 2147483647)) ∧ (∀ h1, ab_Sh sx_sk h1 → mi_f h1 13056 = (mi_f h 13056) + ((1 : Int)) → ab_Fr [(13056, 13057)] h h1 → Q (some (.inl (((mi_f h 13056) + ((1 : Int))) - ((1 : Int))))) h1)) (k1 : ((-2147483648) ≤ mi_f h 13056 ∧ mi_f h 13056 ≤ 2147483647) → ((mi_f h 13056) < ((100 : Int))) → ((mi_f h 13056) < ((0 : Int))) → ((((mi_f h 13056) + ((1 : Int))) - ((1 : Int))) = ((-1 : Int))) → ((-2147483648 ≤ (mi_f h 13056) + ((1 : Int)) ∧ (mi_f h 13056) + ((1 : Int)) ≤ 2147483647) ∧ (-2147483648 ≤ ((mi_f h 13056) + ((1 : Int))) - ((1 : Int)) ∧ ((mi_f h 13056) + ((1 : Int))) - ((1 : Int)) ≤ 2147483647)) ∧ (∀ h1, ab_Sh sx_sk h1 → mi_f h1 13056 = (mi_f h 13056) + ((1 : Int)) → mi_f h1 13699 = (1 : Int) → mi_f h1 13700 = (1 : Int) → ab_Fr [(13056, 13057), (13699, 13701)] h h1 → Q (some (.inl (((mi_f h 13056) + ((1 : Int))) - ((1 : Int))))) h1)) (k2 : ((-2147483648) ≤ mi_f h 13056 ∧ mi_f h 13056 ≤ 2147483647) → ((mi_f h 13056) < ((100 : Int))) → (((0 : Int)) ≤ (mi_f h 13056)) → ((((mi_f h 13056) + ((1 : Int))) - ((1 : Int))) ≠ ((-1 : Int))) → ((0 ≤ (mi_f h 13056) ∧ (mi_f h 13056) < 100) ∧ (-2147483648 ≤ (mi_f h 13056) + ((1 : Int)) ∧ (mi_f h 13056) + ((1 : Int)) ≤ 2147483647) ∧ (-2147483648 ≤ ((mi_f h 13056) + ((1 : Int))) - ((1 : Int)) ∧ ((mi_f h 13056) + ((1 : Int))) - ((1 : Int)) ≤ 2147483647)) ∧ (∀ h1, ab_Sh sx_sk h1 → mi_f h1 13056 = (mi_f h 13056) + ((1 : Int)) → (∀ i, mi_a h1 103 i = if i = Int.toNat (mi_f h 13056) then zk else (mi_a h 103 i)) → (∀ i, mi_a h1 104 i = if i = Int.toNat (mi_f h 13056) then zv else (mi_a h 104 i)) → (∀ i, mi_a h1 105 i = if i = Int.toNat (mi_f h 13056) then (0 : Int) else (mi_a h 105 i)) → ab_Fr [(13056, 13057), (13184, 13185), (13312, 13313), (13440, 13441)] h h1 → Q (some (.inl (((mi_f h 13056) + ((1 : Int))) - ((1 : Int))))) h1)) (k3 : ((-2147483648) ≤ mi_f h 13056 ∧ mi_f h 13056 ≤ 2147483647) → ((mi_f h 13056) < ((100 : Int))) → (((0 : Int)) ≤ (mi_f h 13056)) → ((((mi_f h 13056) + ((1 : Int))) - ((1 : Int))) = ((-1 : Int))) → ((0 ≤ (mi_f h 13056) ∧ (mi_f h 13056) < 100) ∧ (-2147483648 ≤ (mi_f h 13056) + ((1 : Int)) ∧ (mi_f h 13056) + ((1 : Int)) ≤ 2147483647) ∧ (-2147483648 ≤ ((mi_f h 13056) + ((1 : Int))) - ((1 : Int)) ∧ ((mi_f h 13056) + ((1 : Int))) - ((1 : Int)) ≤ 2147483647)) ∧ (∀ h1, ab_Sh sx_sk h1 → mi_f h1 13056 = (mi_f h 13056) + ((1 : Int)) → mi_f h1 13699 = (1 : Int) → mi_f h1 13700 = (1 : Int) → (∀ i, mi_a h1 103 i = if i = Int.toNat (mi_f h 13056) then zk else (mi_a h 103 i)) → (∀ i, mi_a h1 104 i = if i = Int.toNat (mi_f h 13056) then zv else (mi_a h 104 i)) → (∀ i, mi_a h1 105 i = if i = Int.toNat (mi_f h 13056) then (0 : Int) else (mi_a h 105 i)) → ab_Fr [(13056, 13057), (13184, 13185), (13312, 13313), (13440, 13441), (13699, 13701)] h h1 → Q (some (.inl (((mi_f h 13056) + ((1 : Int))) - ((1 : Int))))) h1)) (k4 : ((-2147483648) ≤ mi_f h 13056 ∧ mi_f h 13056 ≤ 2147483647) → (((100 : Int)) ≤ (mi_f h 13056)) → (∀ h1, ab_Sh sx_sk h1 → mi_f h1 13699 = (1 : Int) → mi_f h1 13700 = (1 : Int) → ab_Fr [(13699, 13701)] h h1 → Q (some (.inl ((-1 : Int)))) h1)) : me_E (d + 2) 116 0 [some (.inr (.inr 107)), some (.inl (zk)), some (.inl (zv)), none] [] h Q := Or.elim (mi_em .lt ((mi_f h 13056)) (((100 : Int)))) (fun c0 => Or.elim (mi_em .lt ((mi_f h 13056)) (((0 : Int)))) (fun c1 => Or.elim (mi_em .ne ((((mi_f h 13056) + ((1 : Int))) - ((1 : Int)))) (((-1 : Int)))) (fun c2 => ms_kgen_0 hS ok_zk ok_zv ⟨c0, c1, c1, c1, (k0 (me_fb hS rfl) c0 c1 c2).1.1, (k0 (me_fb hS rfl) c0 c1 c2).1.2, c2⟩ (fun h1 W => (k0 (me_fb hS rfl) c0 c1 c2).2 h1 W.1 (W.2.1 13056) (W.2.2.2.2.2 _ rfl))) (fun c2 => ms_kgen_1 hS ok_zk ok_zv ⟨c0, c1, c1, c1, (k1 (me_fb hS rfl) c0 c1 c2).1.1, (k1 (me_fb hS rfl) c0 c1 c2).1.2, c2, (by decide), (by decide), (by decide), (by decide)⟩ (fun h1 W => (k1 (me_fb hS rfl) c0 c1 c2).2 h1 W.1 (W.2.1 13056) (W.2.1 13699) (W.2.1 13700) (W.2.2.2.2.2 _ rfl)))) (fun c1 => Or.elim (mi_em .ne ((((mi_f h 13056) + ((1 : Int))) - ((1 : Int)))) (((-1 : Int)))) (fun c2 => ms_kgen_2 hS ok_zk ok_zv ⟨c0, c1, c0, (k2 (me_fb hS rfl) c0 c1 c2).1.1, c1, c0, (k2 (me_fb hS rfl) c0 c1 c2).1.1, c1, c0, (k2 (me_fb hS rfl) c0 c1 c2).1.1, (k2 (me_fb hS rfl) c0 c1 c2).1.2.1, (k2 (me_fb hS rfl) c0 c1 c2).1.2.2, c2⟩ (fun h1 W => (k2 (me_fb hS rfl) c0 c1 c2).2 h1 W.1 (W.2.1 13056) (fun i => W.2.2.1 103 i) (fun i => W.2.2.1 104 i) (fun i => W.2.2.1 105 i) (W.2.2.2.2.2 _ rfl))) (fun c2 => ms_kgen_3 hS ok_zk ok_zv ⟨c0, c1, c0, (k3 (me_fb hS rfl) c0 c1 c2).1.1, c1, c0, (k3 (me_fb hS rfl) c0 c1 c2).1.1, c1, c0, (k3 (me_fb hS rfl) c0 c1 c2).1.1, (k3 (me_fb hS rfl) c0 c1 c2).1.2.1, (k3 (me_fb hS rfl) c0 c1 c2).1.2.2, c2, (by decide), (by decide), (by decide), (by decide)⟩ (fun h1 W => (k3 (me_fb hS rfl) c0 c1 c2).2 h1 W.1 (W.2.1 13056) (W.2.1 13699) (W.2.1 13700) (fun i => W.2.2.1 103 i) (fun i => W.2.2.1 104 i) (fun i => W.2.2.1 105 i) (W.2.2.2.2.2 _ rfl))))) (fun c0 => ms_kgen_4 hS ok_zk ok_zv ⟨c0, (by decide), (by decide), (by decide), (by decide), (by decide)⟩ (fun h1 W => (k4 (me_fb hS rfl) c0) h1 W.1 (W.2.1 13699) (W.2.1 13700) (W.2.2.2.2.2 _ rfl)))
/-! segments of the class: Growing -/
set_option maxRecDepth 20000 in
theorem mp_kgta_0 (h : sm_H) (d : Nat) (zr : Int) : mj_path [(142, (2, 1, sb_142))] sx_sk h 8 [1, 1] (d + 2, 142, 0, [some (.inr (.inr 107)), some (.inl (zr))], [], [], []) = some ((d + 2, 142, 22, [some (.inr (.inr 107)), some (.inl (zr))], [.inl ((2 : Int)), .inr (.inr 107)], [], []), [((0 : Int)) ≤ (mi_f h 13703), zr ≠ ((5 : Int))]) := rfl
theorem mi_tab_kgta_0 : ∀ e ∈ ([(142, (2, 1, sb_142))] : mi_T), sc_P e.1 = some e.2 := mi_tb mi_P142 (mi_tb_e)
set_option maxRecDepth 20000 in
theorem ms_kgta_0 {h : sm_H} {d : Nat} {Q : Option mi_V → sm_H → Prop} {zr : Int} (hS : ab_Sh sx_sk h) (ok_zr : mi_in zr) (ho : (((0 : Int)) ≤ (mi_f h 13703)) ∧ (zr ≠ ((5 : Int)))) (kon : ∀ h1, me_W [] h h1 → ∃ Q1, me_E (d + 1) 123 0 (mi_entry 2 [.inr (.inr 107), .inl ((2 : Int))]) [] h1 Q1 ∧ ∀ w h2, (∀ x, w = some x → mi_ok x) → Q1 w h2 → me_E (d + 2) 142 25 [some (.inr (.inr 107)), some (.inl (zr))] (mi_back w []) h2 Q) : me_E (d + 2) 142 0 [some (.inr (.inr 107)), some (.inl (zr))] [] h Q := mf_seg (mp_kgta_0 h d zr) (mi_tab_kgta_0) hS (mi_okL_c (trivial) (mi_okL_c (ok_zr) (mi_okL_e))) (mi_okS_e) (mi_al (ho.1) (mi_al (ho.2) (mi_al_e))) (fun h1 W _ hst => let ⟨_, k1, k2⟩ := kon h1 W; mf_call (M := (2, 1, sb_142)) (M' := (2, 1, sb_123)) rfl rfl rfl rfl (Nat.le_of_ble_eq_true rfl) (Nat.le_of_ble_eq_true rfl) W.1 k1 k2)
set_option maxRecDepth 20000 in
theorem mp_kgta_1 (h : sm_H) (d : Nat) (zr : Int) : mj_path [(142, (2, 1, sb_142))] sx_sk h 9 [1, 0] (d + 2, 142, 0, [some (.inr (.inr 107)), some (.inl (zr))], [], [], []) = some ((d + 2, 142, 22, [some (.inr (.inr 107)), some (.inl (zr))], [.inl ((3 : Int)), .inr (.inr 107)], [], []), [((0 : Int)) ≤ (mi_f h 13703), zr = ((5 : Int))]) := rfl
theorem mi_tab_kgta_1 : ∀ e ∈ ([(142, (2, 1, sb_142))] : mi_T), sc_P e.1 = some e.2 := mi_tb mi_P142 (mi_tb_e)
set_option maxRecDepth 20000 in
theorem ms_kgta_1 {h : sm_H} {d : Nat} {Q : Option mi_V → sm_H → Prop} {zr : Int} (hS : ab_Sh sx_sk h) (ok_zr : mi_in zr) (ho : (((0 : Int)) ≤ (mi_f h 13703)) ∧ (zr = ((5 : Int)))) (kon : ∀ h1, me_W [] h h1 → ∃ Q1, me_E (d + 1) 123 0 (mi_entry 2 [.inr (.inr 107), .inl ((3 : Int))]) [] h1 Q1 ∧ ∀ w h2, (∀ x, w = some x → mi_ok x) → Q1 w h2 → me_E (d + 2) 142 25 [some (.inr (.inr 107)), some (.inl (zr))] (mi_back w []) h2 Q) : me_E (d + 2) 142 0 [some (.inr (.inr 107)), some (.inl (zr))] [] h Q := mf_seg (mp_kgta_1 h d zr) (mi_tab_kgta_1) hS (mi_okL_c (trivial) (mi_okL_c (ok_zr) (mi_okL_e))) (mi_okS_e) (mi_al (ho.1) (mi_al (ho.2) (mi_al_e))) (fun h1 W _ hst => let ⟨_, k1, k2⟩ := kon h1 W; mf_call (M := (2, 1, sb_142)) (M' := (2, 1, sb_123)) rfl rfl rfl rfl (Nat.le_of_ble_eq_true rfl) (Nat.le_of_ble_eq_true rfl) W.1 k1 k2)
set_option maxRecDepth 20000 in
theorem mp_kgta_2 (h : sm_H) (d : Nat) (zr : Int) : mj_path [(142, (2, 1, sb_142))] sx_sk h 5 [0] (d + 2, 142, 0, [some (.inr (.inr 107)), some (.inl (zr))], [], [], []) = some ((d + 2, 142, 25, [some (.inr (.inr 107)), some (.inl (zr))], [.inl ((0 : Int))], [], []), [(mi_f h 13703) < ((0 : Int))]) := rfl
theorem mi_tab_kgta_2 : ∀ e ∈ ([(142, (2, 1, sb_142))] : mi_T), sc_P e.1 = some e.2 := mi_tb mi_P142 (mi_tb_e)
set_option maxRecDepth 20000 in
theorem ms_kgta_2 {h : sm_H} {d : Nat} {Q : Option mi_V → sm_H → Prop} {zr : Int} (hS : ab_Sh sx_sk h) (ok_zr : mi_in zr) (ho : ((mi_f h 13703) < ((0 : Int)))) (kon : ∀ h1, me_W [] h h1 → Q (some (.inl ((0 : Int)))) h1) : me_E (d + 2) 142 0 [some (.inr (.inr 107)), some (.inl (zr))] [] h Q := mf_seg (mp_kgta_2 h d zr) (mi_tab_kgta_2) hS (mi_okL_c (trivial) (mi_okL_c (ok_zr) (mi_okL_e))) (mi_okS_e) (mi_al (ho) (mi_al_e)) (fun h1 W _ hst => mf_ret (M := (2, 1, sb_142)) rfl rfl rfl hst (mi_al_e) (kon h1 W))
set_option maxRecDepth 20000 in
theorem mt_kgta {h : sm_H} {d : Nat} {Q : Option mi_V → sm_H → Prop} {zr : Int} (hS : ab_Sh sx_sk h) (ok_zr : mi_in zr) (k0 : ((-2147483648) ≤ mi_f h 13703 ∧ mi_f h 13703 ≤ 2147483647) → (((0 : Int)) ≤ (mi_f h 13703)) → (zr ≠ ((5 : Int))) → (∀ h1, ab_Sh sx_sk h1 → ab_Fr [] h h1 → ∃ Q1, me_E (d + 1) 123 0 (mi_entry 2 [.inr (.inr 107), .inl ((2 : Int))]) [] h1 Q1 ∧ ∀ w h2, (∀ x, w = some x → mi_ok x) → Q1 w h2 → me_E (d + 2) 142 25 [some (.inr (.inr 107)), some (.inl (zr))] (mi_back w []) h2 Q)) (k1 : ((-2147483648) ≤ mi_f h 13703 ∧ mi_f h 13703 ≤ 2147483647) → (((0 : Int)) ≤ (mi_f h 13703)) → (zr = ((5 : Int))) → (∀ h1, ab_Sh sx_sk h1 → ab_Fr [] h h1 → ∃ Q1, me_E (d + 1) 123 0 (mi_entry 2 [.inr (.inr 107), .inl ((3 : Int))]) [] h1 Q1 ∧ ∀ w h2, (∀ x, w = some x → mi_ok x) → Q1 w h2 → me_E (d + 2) 142 25 [some (.inr (.inr 107)), some (.inl (zr))] (mi_back w []) h2 Q)) (k2 : ((-2147483648) ≤ mi_f h 13703 ∧ mi_f h 13703 ≤ 2147483647) → ((mi_f h 13703) < ((0 : Int))) → (∀ h1, ab_Sh sx_sk h1 → ab_Fr [] h h1 → Q (some (.inl ((0 : Int)))) h1)) : me_E (d + 2) 142 0 [some (.inr (.inr 107)), some (.inl (zr))] [] h Q := Or.elim (mi_em .ge ((mi_f h 13703)) (((0 : Int)))) (fun c0 => Or.elim (mi_em .ne (zr) (((5 : Int)))) (fun c1 => ms_kgta_0 hS ok_zr ⟨c0, c1⟩ (fun h1 W => (k0 (me_fb hS rfl) c0 c1) h1 W.1 (W.2.2.2.2.2 _ rfl))) (fun c1 => ms_kgta_1 hS ok_zr ⟨c0, c1⟩ (fun h1 W => (k1 (me_fb hS rfl) c0 c1) h1 W.1 (W.2.2.2.2.2 _ rfl)))) (fun c0 => ms_kgta_2 hS ok_zr (c0) (fun h1 W => (k2 (me_fb hS rfl) c0) h1 W.1 (W.2.2.2.2.2 _ rfl)))
set_option maxRecDepth 20000 in
theorem mp_kgtb_0 (h : sm_H) (d : Nat) (zr zz : Int) : mj_path [(142, (2, 1, sb_142))] sx_sk h 0 [] (d + 2, 142, 25, [some (.inr (.inr 107)), some (.inl (zr))], [.inl (zz)], [], []) = some ((d + 2, 142, 25, [some (.inr (.inr 107)), some (.inl (zr))], [.inl (zz)], [], []), []) := rfl
theorem mi_tab_kgtb_0 : ∀ e ∈ ([(142, (2, 1, sb_142))] : mi_T), sc_P e.1 = some e.2 := mi_tb mi_P142 (mi_tb_e)
set_option maxRecDepth 20000 in
theorem ms_kgtb_0 {h : sm_H} {d : Nat} {Q : Option mi_V → sm_H → Prop} {zr zz : Int} (hS : ab_Sh sx_sk h) (ok_zr : mi_in zr) (ok_zz : mi_in zz) (kon : ∀ h1, me_W [] h h1 → Q (some (.inl (zz))) h1) : me_E (d + 2) 142 25 [some (.inr (.inr 107)), some (.inl (zr))] [.inl (zz)] h Q := mf_seg (mp_kgtb_0 h d zr zz) (mi_tab_kgtb_0) hS (mi_okL_c (trivial) (mi_okL_c (ok_zr) (mi_okL_e))) (mi_okS_cons (ok_zz) (mi_okS_e)) (mi_al_e) (fun h1 W _ hst => mf_ret (M := (2, 1, sb_142)) rfl rfl rfl hst (mi_al_e) (kon h1 W))
set_option maxRecDepth 20000 in
theorem mt_kgtb {h : sm_H} {d : Nat} {Q : Option mi_V → sm_H → Prop} {zr zz : Int} (hS : ab_Sh sx_sk h) (ok_zr : mi_in zr) (ok_zz : mi_in zz) (k0 : (∀ h1, ab_Sh sx_sk h1 → ab_Fr [] h h1 → Q (some (.inl (zz))) h1)) : me_E (d + 2) 142 25 [some (.inr (.inr 107)), some (.inl (zr))] [.inl (zz)] h Q := ms_kgtb_0 hS ok_zr ok_zz (fun h1 W => (k0) h1 W.1 (W.2.2.2.2.2 _ rfl))
set_option maxRecDepth 20000 in
theorem mp_kgca_0 (h : sm_H) (d : Nat) (zf : Int) : mj_path [(121, (2, 1, sb_121)), (16, (3, 0, sb_16)), (49, (2, 1, sb_49))] sx_sk h 13 [1, 1] (d + 2, 121, 0, [some (.inr (.inr 107)), some (.inl (zf))], [], [], []) = some ((d + 2, 121, 27, [some (.inr (.inr 107)), some (.inl (zf))], [.inl ((0 : Int)), .inr (.inr 107)], [], []), [((0 : Int)) ≤ (mi_f h 13703), zf < ((0 : Int))]) := rfl
theorem mi_tab_kgca_0 : ∀ e ∈ ([(121, (2, 1, sb_121)), (16, (3, 0, sb_16)), (49, (2, 1, sb_49))] : mi_T), sc_P e.1 = some e.2 := mi_tb mi_P121 (mi_tb mi_P16 (mi_tb mi_P49 (mi_tb_e)))
set_option maxRecDepth 20000 in
theorem ms_kgca_0 {h : sm_H} {d : Nat} {Q : Option mi_V → sm_H → Prop} {zf : Int} (hS : ab_Sh sx_sk h) (ok_zf : mi_in zf) (ho : (((0 : Int)) ≤ (mi_f h 13703)) ∧ (zf < ((0 : Int)))) (kon : ∀ h1, me_W [] h h1 → ∃ Q1, me_E (d + 1) 123 0 (mi_entry 2 [.inr (.inr 107), .inl ((0 : Int))]) [] h1 Q1 ∧ ∀ w h2, (∀ x, w = some x → mi_ok x) → Q1 w h2 → me_E (d + 2) 121 30 [some (.inr (.inr 107)), some (.inl (zf))] (mi_back w []) h2 Q) : me_E (d + 2) 121 0 [some (.inr (.inr 107)), some (.inl (zf))] [] h Q := mf_seg (mp_kgca_0 h d zf) (mi_tab_kgca_0) hS (mi_okL_c (trivial) (mi_okL_c (ok_zf) (mi_okL_e))) (mi_okS_e) (mi_al (ho.1) (mi_al (ho.2) (mi_al_e))) (fun h1 W _ hst => let ⟨_, k1, k2⟩ := kon h1 W; mf_call (M := (2, 1, sb_121)) (M' := (2, 1, sb_123)) rfl rfl rfl rfl (Nat.le_of_ble_eq_true rfl) (Nat.le_of_ble_eq_true rfl) W.1 k1 k2)
set_option maxRecDepth 20000 in
theorem mp_kgca_1 (h : sm_H) (d : Nat) (zf : Int) : mj_path [(121, (2, 1, sb_121)), (16, (3, 0, sb_16)), (49, (2, 1, sb_49))] sx_sk h 17 [1, 0, 1] (d + 2, 121, 0, [some (.inr (.inr 107)), some (.inl (zf))], [], [], []) = some ((d + 2, 121, 27, [some (.inr (.inr 107)), some (.inl (zf))], [.inl ((0 : Int)), .inr (.inr 107)], [], []), [((0 : Int)) ≤ (mi_f h 13703), ((0 : Int)) ≤ zf, ((70 : Int)) ≤ zf]) := rfl
theorem mi_tab_kgca_1 : ∀ e ∈ ([(121, (2, 1, sb_121)), (16, (3, 0, sb_16)), (49, (2, 1, sb_49))] : mi_T), sc_P e.1 = some e.2 := mi_tb mi_P121 (mi_tb mi_P16 (mi_tb mi_P49 (mi_tb_e)))
set_option maxRecDepth 20000 in
theorem ms_kgca_1 {h : sm_H} {d : Nat} {Q : Option mi_V → sm_H → Prop} {zf : Int} (hS : ab_Sh sx_sk h) (ok_zf : mi_in zf) (ho : (((0 : Int)) ≤ (mi_f h 13703)) ∧ (((0 : Int)) ≤ zf) ∧ (((70 : Int)) ≤ zf)) (kon : ∀ h1, me_W [] h h1 → ∃ Q1, me_E (d + 1) 123 0 (mi_entry 2 [.inr (.inr 107), .inl ((0 : Int))]) [] h1 Q1 ∧ ∀ w h2, (∀ x, w = some x → mi_ok x) → Q1 w h2 → me_E (d + 2) 121 30 [some (.inr (.inr 107)), some (.inl (zf))] (mi_back w []) h2 Q) : me_E (d + 2) 121 0 [some (.inr (.inr 107)), some (.inl (zf))] [] h Q := mf_seg (mp_kgca_1 h d zf) (mi_tab_kgca_1) hS (mi_okL_c (trivial) (mi_okL_c (ok_zf) (mi_okL_e))) (mi_okS_e) (mi_al (ho.1) (mi_al (ho.2.1) (mi_al (ho.2.2) (mi_al_e)))) (fun h1 W _ hst => let ⟨_, k1, k2⟩ := kon h1 W; mf_call (M := (2, 1, sb_121)) (M' := (2, 1, sb_123)) rfl rfl rfl rfl (Nat.le_of_ble_eq_true rfl) (Nat.le_of_ble_eq_true rfl) W.1 k1 k2)
set_option maxRecDepth 20000 in
theorem mp_kgca_2 (h : sm_H) (d : Nat) (zf : Int) : mj_path [(121, (2, 1, sb_121)), (16, (3, 0, sb_16)), (49, (2, 1, sb_49))] sx_sk h 20 [1, 0, 0] (d + 2, 121, 0, [some (.inr (.inr 107)), some (.inl (zf))], [], [], []) = some ((d + 2, 121, 27, [some (.inr (.inr 107)), some (.inl (zf))], [.inl (mi_a h 64 (Int.toNat zf)), .inr (.inr 107)], [], []), [((0 : Int)) ≤ (mi_f h 13703), ((0 : Int)) ≤ zf, zf < ((70 : Int)), 0 ≤ zf ∧ zf < 70]) := rfl
theorem mi_tab_kgca_2 : ∀ e ∈ ([(121, (2, 1, sb_121)), (16, (3, 0, sb_16)), (49, (2, 1, sb_49))] : mi_T), sc_P e.1 = some e.2 := mi_tb mi_P121 (mi_tb mi_P16 (mi_tb mi_P49 (mi_tb_e)))
set_option maxRecDepth 20000 in
theorem ms_kgca_2 {h : sm_H} {d : Nat} {Q : Option mi_V → sm_H → Prop} {zf : Int} (hS : ab_Sh sx_sk h) (ok_zf : mi_in zf) (ho : (((0 : Int)) ≤ (mi_f h 13703)) ∧ (((0 : Int)) ≤ zf) ∧ (zf < ((70 : Int))) ∧ (0 ≤ zf ∧ zf < 70)) (kon : ∀ h1, me_W [] h h1 → ∃ Q1, me_E (d + 1) 123 0 (mi_entry 2 [.inr (.inr 107), .inl (mi_a h 64 (Int.toNat zf))]) [] h1 Q1 ∧ ∀ w h2, (∀ x, w = some x → mi_ok x) → Q1 w h2 → me_E (d + 2) 121 30 [some (.inr (.inr 107)), some (.inl (zf))] (mi_back w []) h2 Q) : me_E (d + 2) 121 0 [some (.inr (.inr 107)), some (.inl (zf))] [] h Q := mf_seg (mp_kgca_2 h d zf) (mi_tab_kgca_2) hS (mi_okL_c (trivial) (mi_okL_c (ok_zf) (mi_okL_e))) (mi_okS_e) (mi_al (ho.1) (mi_al (ho.2.1) (mi_al (ho.2.2.1) (mi_al (ho.2.2.2) (mi_al_e))))) (fun h1 W _ hst => let ⟨_, k1, k2⟩ := kon h1 W; mf_call (M := (2, 1, sb_121)) (M' := (2, 1, sb_123)) rfl rfl rfl rfl (Nat.le_of_ble_eq_true rfl) (Nat.le_of_ble_eq_true rfl) W.1 k1 k2)
set_option maxRecDepth 20000 in
theorem mp_kgca_3 (h : sm_H) (d : Nat) (zf : Int) : mj_path [(121, (2, 1, sb_121)), (16, (3, 0, sb_16)), (49, (2, 1, sb_49))] sx_sk h 5 [0] (d + 2, 121, 0, [some (.inr (.inr 107)), some (.inl (zf))], [], [], []) = some ((d + 2, 121, 9, [some (.inr (.inr 107)), some (.inl (zf))], [.inl (zf), .inr (.inr 107)], [], []), [(mi_f h 13703) < ((0 : Int))]) := rfl
theorem mi_tab_kgca_3 : ∀ e ∈ ([(121, (2, 1, sb_121)), (16, (3, 0, sb_16)), (49, (2, 1, sb_49))] : mi_T), sc_P e.1 = some e.2 := mi_tb mi_P121 (mi_tb mi_P16 (mi_tb mi_P49 (mi_tb_e)))
set_option maxRecDepth 20000 in
theorem ms_kgca_3 {h : sm_H} {d : Nat} {Q : Option mi_V → sm_H → Prop} {zf : Int} (hS : ab_Sh sx_sk h) (ok_zf : mi_in zf) (ho : ((mi_f h 13703) < ((0 : Int)))) (kon : ∀ h1, me_W [] h h1 → ∃ Q1, me_E (d + 1) 122 0 (mi_entry 6 [.inr (.inr 107), .inl (zf)]) [] h1 Q1 ∧ ∀ w h2, (∀ x, w = some x → mi_ok x) → Q1 w h2 → me_E (d + 2) 121 12 [some (.inr (.inr 107)), some (.inl (zf))] (mi_back w []) h2 Q) : me_E (d + 2) 121 0 [some (.inr (.inr 107)), some (.inl (zf))] [] h Q := mf_seg (mp_kgca_3 h d zf) (mi_tab_kgca_3) hS (mi_okL_c (trivial) (mi_okL_c (ok_zf) (mi_okL_e))) (mi_okS_e) (mi_al (ho) (mi_al_e)) (fun h1 W _ hst => let ⟨_, k1, k2⟩ := kon h1 W; mf_call (M := (2, 1, sb_121)) (M' := (6, 1, sb_122)) rfl rfl rfl rfl (Nat.le_of_ble_eq_true rfl) (Nat.le_of_ble_eq_true rfl) W.1 k1 k2)
set_option maxRecDepth 20000 in
theorem mt_kgca {h : sm_H} {d : Nat} {Q : Option mi_V → sm_H → Prop} {zf : Int} (hS : ab_Sh sx_sk h) (ok_zf : mi_in zf) (k0 : ((-2147483648) ≤ mi_f h 13703 ∧ mi_f h 13703 ≤ 2147483647) → (((0 : Int)) ≤ (mi_f h 13703)) → (zf < ((0 : Int))) → (∀ h1, ab_Sh sx_sk h1 → ab_Fr [] h h1 → ∃ Q1, me_E (d + 1) 123 0 (mi_entry 2 [.inr (.inr 107), .inl ((0 : Int))]) [] h1 Q1 ∧ ∀ w h2, (∀ x, w = some x → mi_ok x) → Q1 w h2 → me_E (d + 2) 121 30 [some (.inr (.inr 107)), some (.inl (zf))] (mi_back w []) h2 Q)) (k1 : ((-2147483648) ≤ mi_f h 13703 ∧ mi_f h 13703 ≤ 2147483647) → (((0 : Int)) ≤ (mi_f h 13703)) → (((0 : Int)) ≤ zf) → (((70 : Int)) ≤ zf) → (∀ h1, ab_Sh sx_sk h1 → ab_Fr [] h h1 → ∃ Q1, me_E (d + 1) 123 0 (mi_entry 2 [.inr (.inr 107), .inl ((0 : Int))]) [] h1 Q1 ∧ ∀ w h2, (∀ x, w = some x → mi_ok x) → Q1 w h2 → me_E (d + 2) 121 30 [some (.inr (.inr 107)), some (.inl (zf))] (mi_back w []) h2 Q)) (k2 : ((-2147483648) ≤ mi_f h 13703 ∧ mi_f h 13703 ≤ 2147483647) → (((0 : Int)) ≤ (mi_f h 13703)) → (((0 : Int)) ≤ zf) → (zf < ((70 : Int))) → ((0 ≤ zf ∧ zf < 70)) ∧ (∀ h1, ab_Sh sx_sk h1 → ab_Fr [] h h1 → ∃ Q1, me_E (d + 1) 123 0 (mi_entry 2 [.inr (.inr 107), .inl (mi_a h 64 (Int.toNat zf))]) [] h1 Q1 ∧ ∀ w h2, (∀ x, w = some x → mi_ok x) → Q1 w h2 → me_E (d + 2) 121 30 [some (.inr (.inr 107)), some (.inl (zf))] (mi_back w []) h2 Q)) (k3 : ((-2147483648) ≤ mi_f h 13703 ∧ mi_f h 13703 ≤ 2147483647) → ((mi_f h 13703) < ((0 : Int))) → (∀ h1, ab_Sh sx_sk h1 → ab_Fr [] h h1 → ∃ Q1, me_E (d + 1) 122 0 (mi_entry 6 [.inr (.inr 107), .inl (zf)]) [] h1 Q1 ∧ ∀ w h2, (∀ x, w = some x → mi_ok x) → Q1 w h2 → me_E (d + 2) 121 12 [some (.inr (.inr 107)), some (.inl (zf))] (mi_back w []) h2 Q)) : me_E (d + 2) 121 0 [some (.inr (.inr 107)), some (.inl (zf))] [] h Q := Or.elim (mi_em .ge ((mi_f h 13703)) (((0 : Int)))) (fun c0 => Or.elim (mi_em .lt (zf) (((0 : Int)))) (fun c1 => ms_kgca_0 hS ok_zf ⟨c0, c1⟩ (fun h1 W => (k0 (me_fb hS rfl) c0 c1) h1 W.1 (W.2.2.2.2.2 _ rfl))) (fun c1 => Or.elim (mi_em .ge (zf) (((70 : Int)))) (fun c2 => ms_kgca_1 hS ok_zf ⟨c0, c1, c2⟩ (fun h1 W => (k1 (me_fb hS rfl) c0 c1 c2) h1 W.1 (W.2.2.2.2.2 _ rfl))) (fun c2 => ms_kgca_2 hS ok_zf ⟨c0, c1, c2, (k2 (me_fb hS rfl) c0 c1 c2).1⟩ (fun h1 W => (k2 (me_fb hS rfl) c0 c1 c2).2 h1 W.1 (W.2.2.2.2.2 _ rfl))))) (fun c0 => ms_kgca_3 hS ok_zf (c0) (fun h1 W => (k3 (me_fb hS rfl) c0) h1 W.1 (W.2.2.2.2.2 _ rfl)))
set_option maxRecDepth 20000 in
theorem mp_kgcb_0 (h : sm_H) (d : Nat) (zf zz : Int) : mj_path [(121, (2, 1, sb_121))] sx_sk h 1 [] (d + 2, 121, 12, [some (.inr (.inr 107)), some (.inl (zf))], [.inl (zz)], [], []) = some ((d + 2, 121, 30, [some (.inr (.inr 107)), some (.inl (zf))], [.inl (zz)], [], []), []) := rfl
theorem mi_tab_kgcb_0 : ∀ e ∈ ([(121, (2, 1, sb_121))] : mi_T), sc_P e.1 = some e.2 := mi_tb mi_P121 (mi_tb_e)
set_option maxRecDepth 20000 in
theorem ms_kgcb_0 {h : sm_H} {d : Nat} {Q : Option mi_V → sm_H → Prop} {zf zz : Int} (hS : ab_Sh sx_sk h) (ok_zf : mi_in zf) (ok_zz : mi_in zz) (kon : ∀ h1, me_W [] h h1 → Q (some (.inl (zz))) h1) : me_E (d + 2) 121 12 [some (.inr (.inr 107)), some (.inl (zf))] [.inl (zz)] h Q := mf_seg (mp_kgcb_0 h d zf zz) (mi_tab_kgcb_0) hS (mi_okL_c (trivial) (mi_okL_c (ok_zf) (mi_okL_e))) (mi_okS_cons (ok_zz) (mi_okS_e)) (mi_al_e) (fun h1 W _ hst => mf_ret (M := (2, 1, sb_121)) rfl rfl rfl hst (mi_al_e) (kon h1 W))
set_option maxRecDepth 20000 in
theorem mt_kgcb {h : sm_H} {d : Nat} {Q : Option mi_V → sm_H → Prop} {zf zz : Int} (hS : ab_Sh sx_sk h) (ok_zf : mi_in zf) (ok_zz : mi_in zz) (k0 : (∀ h1, ab_Sh sx_sk h1 → ab_Fr [] h h1 → Q (some (.inl (zz))) h1)) : me_E (d + 2) 121 12 [some (.inr (.inr 107)), some (.inl (zf))] [.inl (zz)] h Q := ms_kgcb_0 hS ok_zf ok_zz (fun h1 W => (k0) h1 W.1 (W.2.2.2.2.2 _ rfl))
set_option maxRecDepth 20000 in
theorem mp_kgcc_0 (h : sm_H) (d : Nat) (zf zz : Int) : mj_path [(121, (2, 1, sb_121))] sx_sk h 0 [] (d + 2, 121, 30, [some (.inr (.inr 107)), some (.inl (zf))], [.inl (zz)], [], []) = some ((d + 2, 121, 30, [some (.inr (.inr 107)), some (.inl (zf))], [.inl (zz)], [], []), []) := rfl
theorem mi_tab_kgcc_0 : ∀ e ∈ ([(121, (2, 1, sb_121))] : mi_T), sc_P e.1 = some e.2 := mi_tb mi_P121 (mi_tb_e)
set_option maxRecDepth 20000 in
theorem ms_kgcc_0 {h : sm_H} {d : Nat} {Q : Option mi_V → sm_H → Prop} {zf zz : Int} (hS : ab_Sh sx_sk h) (ok_zf : mi_in zf) (ok_zz : mi_in zz) (kon : ∀ h1, me_W [] h h1 → Q (some (.inl (zz))) h1) : me_E (d + 2) 121 30 [some (.inr (.inr 107)), some (.inl (zf))] [.inl (zz)] h Q := mf_seg (mp_kgcc_0 h d zf zz) (mi_tab_kgcc_0) hS (mi_okL_c (trivial) (mi_okL_c (ok_zf) (mi_okL_e))) (mi_okS_cons (ok_zz) (mi_okS_e)) (mi_al_e) (fun h1 W _ hst => mf_ret (M := (2, 1, sb_121)) rfl rfl rfl hst (mi_al_e) (kon h1 W))
set_option maxRecDepth 20000 in
theorem mt_kgcc {h : sm_H} {d : Nat} {Q : Option mi_V → sm_H → Prop} {zf zz : Int} (hS : ab_Sh sx_sk h) (ok_zf : mi_in zf) (ok_zz : mi_in zz) (k0 : (∀ h1, ab_Sh sx_sk h1 → ab_Fr [] h h1 → Q (some (.inl (zz))) h1)) : me_E (d + 2) 121 30 [some (.inr (.inr 107)), some (.inl (zf))] [.inl (zz)] h Q := ms_kgcc_0 hS ok_zf ok_zz (fun h1 W => (k0) h1 W.1 (W.2.2.2.2.2 _ rfl))
/-! segments of the class: Growing -/
set_option maxRecDepth 20000 in
theorem mp_kglA_0 (h : sm_H) (d : Nat) (zf : Int) : mj_path [(122, (6, 1, sb_122)), (16, (3, 0, sb_16)), (49, (2, 1, sb_49))] sx_sk h 16 [1] (d + 1, 122, 0, [some (.inr (.inr 107)), some (.inl (zf)), none, none, none, none], [], [], []) = some ((d + 1, 122, 22, [some (.inr (.inr 107)), some (.inl (zf)), some (.inl ((0 : Int))), some (.inl ((1000 : Int))), some (.inl ((0 : Int))), some (.inl ((0 : Int)))], [], [], []), [zf < ((0 : Int))]) := rfl
theorem mi_tab_kglA_0 : ∀ e ∈ ([(122, (6, 1, sb_122)), (16, (3, 0, sb_16)), (49, (2, 1, sb_49))] : mi_T), sc_P e.1 = some e.2 := mi_tb mi_P122 (mi_tb mi_P16 (mi_tb mi_P49 (mi_tb_e)))
set_option maxRecDepth 20000 in
theorem ms_kglA_0 {h : sm_H} {d : Nat} {Q : Option mi_V → sm_H → Prop} {zf : Int} (hS : ab_Sh sx_sk h) (ok_zf : mi_in zf) (ho : (zf < ((0 : Int)))) (kon : ∀ h1, me_W [] h h1 → me_E (d + 1) 122 22 [some (.inr (.inr 107)), some (.inl (zf)), some (.inl ((0 : Int))), some (.inl ((1000 : Int))), some (.inl ((0 : Int))), some (.inl ((0 : Int)))] [] h1 Q) : me_E (d + 1) 122 0 [some (.inr (.inr 107)), some (.inl (zf)), none, none, none, none] [] h Q := mf_seg (mp_kglA_0 h d zf) (mi_tab_kglA_0) hS (mi_okL_c (trivial) (mi_okL_c (ok_zf) (mi_okL_n (mi_okL_n (mi_okL_n (mi_okL_n (mi_okL_e))))))) (mi_okS_e) (mi_al (ho) (mi_al_e)) (fun h1 W _ hst => kon h1 W)
set_option maxRecDepth 20000 in
theorem mp_kglA_1 (h : sm_H) (d : Nat) (zf : Int) : mj_path [(122, (6, 1, sb_122)), (16, (3, 0, sb_16)), (49, (2, 1, sb_49))] sx_sk h 20 [0, 1] (d + 1, 122, 0, [some (.inr (.inr 107)), some (.inl (zf)), none, none, none, none], [], [], []) = some ((d + 1, 122, 22, [some (.inr (.inr 107)), some (.inl (zf)), some (.inl ((0 : Int))), some (.inl ((1000 : Int))), some (.inl ((0 : Int))), some (.inl ((0 : Int)))], [], [], []), [((0 : Int)) ≤ zf, ((70 : Int)) ≤ zf]) := rfl
theorem mi_tab_kglA_1 : ∀ e ∈ ([(122, (6, 1, sb_122)), (16, (3, 0, sb_16)), (49, (2, 1, sb_49))] : mi_T), sc_P e.1 = some e.2 := mi_tb mi_P122 (mi_tb mi_P16 (mi_tb mi_P49 (mi_tb_e)))
set_option maxRecDepth 20000 in
theorem ms_kglA_1 {h : sm_H} {d : Nat} {Q : Option mi_V → sm_H → Prop} {zf : Int} (hS : ab_Sh sx_sk h) (ok_zf : mi_in zf) (ho : (((0 : Int)) ≤ zf) ∧ (((70 : Int)) ≤ zf)) (kon : ∀ h1, me_W [] h h1 → me_E (d + 1) 122 22 [some (.inr (.inr 107)), some (.inl (zf)), some (.inl ((0 : Int))), some (.inl ((1000 : Int))), some (.inl ((0 : Int))), some (.inl ((0 : Int)))] [] h1 Q) : me_E (d + 1) 122 0 [some (.inr (.inr 107)), some (.inl (zf)), none, none, none, none] [] h Q := mf_seg (mp_kglA_1 h d zf) (mi_tab_kglA_1) hS (mi_okL_c (trivial) (mi_okL_c (ok_zf) (mi_okL_n (mi_okL_n (mi_okL_n (mi_okL_n (mi_okL_e))))))) (mi_okS_e) (mi_al (ho.1) (mi_al (ho.2) (mi_al_e))) (fun h1 W _ hst => kon h1 W)
set_option maxRecDepth 20000 in
theorem mp_kglA_2 (h : sm_H) (d : Nat) (zf : Int) : mj_path [(122, (6, 1, sb_122)), (16, (3, 0, sb_16)), (49, (2, 1, sb_49))] sx_sk h 23 [0, 0] (d + 1, 122, 0, [some (.inr (.inr 107)), some (.inl (zf)), none, none, none, none], [], [], []) = some ((d + 1, 122, 22, [some (.inr (.inr 107)), some (.inl (zf)), some (.inl ((0 : Int))), some (.inl ((1000 : Int))), some (.inl (mi_a h 63 (Int.toNat zf))), some (.inl ((0 : Int)))], [], [], []), [((0 : Int)) ≤ zf, zf < ((70 : Int)), 0 ≤ zf ∧ zf < 70]) := rfl
theorem mi_tab_kglA_2 : ∀ e ∈ ([(122, (6, 1, sb_122)), (16, (3, 0, sb_16)), (49, (2, 1, sb_49))] : mi_T), sc_P e.1 = some e.2 := mi_tb mi_P122 (mi_tb mi_P16 (mi_tb mi_P49 (mi_tb_e)))
set_option maxRecDepth 20000 in
theorem ms_kglA_2 {h : sm_H} {d : Nat} {Q : Option mi_V → sm_H → Prop} {zf : Int} (hS : ab_Sh sx_sk h) (ok_zf : mi_in zf) (ho : (((0 : Int)) ≤ zf) ∧ (zf < ((70 : Int))) ∧ (0 ≤ zf ∧ zf < 70)) (kon : ∀ h1, me_W [] h h1 → me_E (d + 1) 122 22 [some (.inr (.inr 107)), some (.inl (zf)), some (.inl ((0 : Int))), some (.inl ((1000 : Int))), some (.inl (mi_a h 63 (Int.toNat zf))), some (.inl ((0 : Int)))] [] h1 Q) : me_E (d + 1) 122 0 [some (.inr (.inr 107)), some (.inl (zf)), none, none, none, none] [] h Q := mf_seg (mp_kglA_2 h d zf) (mi_tab_kglA_2) hS (mi_okL_c (trivial) (mi_okL_c (ok_zf) (mi_okL_n (mi_okL_n (mi_okL_n (mi_okL_n (mi_okL_e))))))) (mi_okS_e) (mi_al (ho.1) (mi_al (ho.2.1) (mi_al (ho.2.2) (mi_al_e)))) (fun h1 W _ hst => kon h1 W)
set_option maxRecDepth 20000 in
theorem mt_kglA {h : sm_H} {d : Nat} {Q : Option mi_V → sm_H → Prop} {zf : Int} (hS : ab_Sh sx_sk h) (ok_zf : mi_in zf) (k0 : (zf < ((0 : Int))) → (∀ h1, ab_Sh sx_sk h1 → ab_Fr [] h h1 → me_E (d + 1) 122 22 [some (.inr (.inr 107)), some (.inl (zf)), some (.inl ((0 : Int))), some (.inl ((1000 : Int))), some (.inl ((0 : Int))), some (.inl ((0 : Int)))] [] h1 Q)) (k1 : (((0 : Int)) ≤ zf) → (((70 : Int)) ≤ zf) → (∀ h1, ab_Sh sx_sk h1 → ab_Fr [] h h1 → me_E (d + 1) 122 22 [some (.inr (.inr 107)), some (.inl (zf)), some (.inl ((0 : Int))), some (.inl ((1000 : Int))), some (.inl ((0 : Int))), some (.inl ((0 : Int)))] [] h1 Q)) (k2 : (((0 : Int)) ≤ zf) → (zf < ((70 : Int))) → ((0 ≤ zf ∧ zf < 70)) ∧ (∀ h1, ab_Sh sx_sk h1 → ab_Fr [] h h1 → me_E (d + 1) 122 22 [some (.inr (.inr 107)), some (.inl (zf)), some (.inl ((0 : Int))), some (.inl ((1000 : Int))), some (.inl (mi_a h 63 (Int.toNat zf))), some (.inl ((0 : Int)))] [] h1 Q)) : me_E (d + 1) 122 0 [some (.inr (.inr 107)), some (.inl (zf)), none, none, none, none] [] h Q := Or.elim (mi_em .lt (zf) (((0 : Int)))) (fun c0 => ms_kglA_0 hS ok_zf (c0) (fun h1 W => (k0 c0) h1 W.1 (W.2.2.2.2.2 _ rfl))) (fun c0 => Or.elim (mi_em .ge (zf) (((70 : Int)))) (fun c1 => ms_kglA_1 hS ok_zf ⟨c0, c1⟩ (fun h1 W => (k1 c0 c1) h1 W.1 (W.2.2.2.2.2 _ rfl))) (fun c1 => ms_kglA_2 hS ok_zf ⟨c0, c1, (k2 c0 c1).1⟩ (fun h1 W => (k2 c0 c1).2 h1 W.1 (W.2.2.2.2.2 _ rfl))))
/-! segments of the class: lowest -/
set_option maxRecDepth 20000 in
theorem mp_kglB_0 (h : sm_H) (d : Nat) (zf zw zl za zn : Int) : mj_path [(122, (6, 1, sb_122)), (16, (3, 0, sb_16)), (49, (2, 1, sb_49))] sx_sk h 11 [1, 1] (d + 1, 122, 22, [some (.inr (.inr 107)), some (.inl (zf)), some (.inl (zw)), some (.inl (zl)), some (.inl (za)), some (.inl (zn))], [], [], []) = some ((d + 1, 122, 97, [some (.inr (.inr 107)), some (.inl (zf)), some (.inl (zw)), some (.inl (zl)), some (.inl (za)), some (.inl (zn))], [], [], []), [zf < ((0 : Int)), ((0 : Int)) ≤ zn]) := rfl
theorem mi_tab_kglB_0 : ∀ e ∈ ([(122, (6, 1, sb_122)), (16, (3, 0, sb_16)), (49, (2, 1, sb_49))] : mi_T), sc_P e.1 = some e.2 := mi_tb mi_P122 (mi_tb mi_P16 (mi_tb mi_P49 (mi_tb_e)))
set_option maxRecDepth 20000 in
theorem ms_kglB_0 {h : sm_H} {d : Nat} {Q : Option mi_V → sm_H → Prop} {zf zw zl za zn : Int} (hS : ab_Sh sx_sk h) (ok_zf : mi_in zf) (ok_zw : mi_in zw) (ok_zl : mi_in zl) (ok_za : mi_in za) (ok_zn : mi_in zn) (ho : (zf < ((0 : Int))) ∧ (((0 : Int)) ≤ zn)) (kon : ∀ h1, me_W [] h h1 → me_E (d + 1) 122 97 [some (.inr (.inr 107)), some (.inl (zf)), some (.inl (zw)), some (.inl (zl)), some (.inl (za)), some (.inl (zn))] [] h1 Q) : me_E (d + 1) 122 22 [some (.inr (.inr 107)), some (.inl (zf)), some (.inl (zw)), some (.inl (zl)), some (.inl (za)), some (.inl (zn))] [] h Q := mf_seg (mp_kglB_0 h d zf zw zl za zn) (mi_tab_kglB_0) hS (mi_okL_c (trivial) (mi_okL_c (ok_zf) (mi_okL_c (ok_zw) (mi_okL_c (ok_zl) (mi_okL_c (ok_za) (mi_okL_c (ok_zn) (mi_okL_e))))))) (mi_okS_e) (mi_al (ho.1) (mi_al (ho.2) (mi_al_e))) (fun h1 W _ hst => kon h1 W)
set_option maxRecDepth 20000 in
theorem mp_kglB_1 (h : sm_H) (d : Nat) (zf zw zl za zn : Int) : mj_path [(122, (6, 1, sb_122)), (16, (3, 0, sb_16)), (49, (2, 1, sb_49))] sx_sk h 14 [1, 0, 1] (d + 1, 122, 22, [some (.inr (.inr 107)), some (.inl (zf)), some (.inl (zw)), some (.inl (zl)), some (.inl (za)), some (.inl (zn))], [], [], []) = some ((d + 1, 122, 97, [some (.inr (.inr 107)), some (.inl (zf)), some (.inl (zw)), some (.inl (zl)), some (.inl (za)), some (.inl (zn))], [], [], []), [zf < ((0 : Int)), zn < ((0 : Int)), ((6 : Int)) ≤ zn]) := rfl
theorem mi_tab_kglB_1 : ∀ e ∈ ([(122, (6, 1, sb_122)), (16, (3, 0, sb_16)), (49, (2, 1, sb_49))] : mi_T), sc_P e.1 = some e.2 := mi_tb mi_P122 (mi_tb mi_P16 (mi_tb mi_P49 (mi_tb_e)))
set_option maxRecDepth 20000 in
theorem ms_kglB_1 {h : sm_H} {d : Nat} {Q : Option mi_V → sm_H → Prop} {zf zw zl za zn : Int} (hS : ab_Sh sx_sk h) (ok_zf : mi_in zf) (ok_zw : mi_in zw) (ok_zl : mi_in zl) (ok_za : mi_in za) (ok_zn : mi_in zn) (ho : (zf < ((0 : Int))) ∧ (zn < ((0 : Int))) ∧ (((6 : Int)) ≤ zn)) (kon : ∀ h1, me_W [] h h1 → me_E (d + 1) 122 97 [some (.inr (.inr 107)), some (.inl (zf)), some (.inl (zw)), some (.inl (zl)), some (.inl (za)), some (.inl (zn))] [] h1 Q) : me_E (d + 1) 122 22 [some (.inr (.inr 107)), some (.inl (zf)), some (.inl (zw)), some (.inl (zl)), some (.inl (za)), some (.inl (zn))] [] h Q := mf_seg (mp_kglB_1 h d zf zw zl za zn) (mi_tab_kglB_1) hS (mi_okL_c (trivial) (mi_okL_c (ok_zf) (mi_okL_c (ok_zw) (mi_okL_c (ok_zl) (mi_okL_c (ok_za) (mi_okL_c (ok_zn) (mi_okL_e))))))) (mi_okS_e) (mi_al (ho.1) (mi_al (ho.2.1) (mi_al (ho.2.2) (mi_al_e)))) (fun h1 W _ hst => kon h1 W)
set_option maxRecDepth 20000 in
theorem mp_kglB_2 (h : sm_H) (d : Nat) (zf zw zl za zn : Int) : mj_path [(122, (6, 1, sb_122)), (16, (3, 0, sb_16)), (49, (2, 1, sb_49))] sx_sk h 14 [1, 0, 0] (d + 1, 122, 22, [some (.inr (.inr 107)), some (.inl (zf)), some (.inl (zw)), some (.inl (zl)), some (.inl (za)), some (.inl (zn))], [], [], []) = some ((d + 1, 122, 45, [some (.inr (.inr 107)), some (.inl (zf)), some (.inl (zw)), some (.inl (zl)), some (.inl (za)), some (.inl (zn))], [], [], []), [zf < ((0 : Int)), zn < ((0 : Int)), zn < ((6 : Int))]) := rfl
theorem mi_tab_kglB_2 : ∀ e ∈ ([(122, (6, 1, sb_122)), (16, (3, 0, sb_16)), (49, (2, 1, sb_49))] : mi_T), sc_P e.1 = some e.2 := mi_tb mi_P122 (mi_tb mi_P16 (mi_tb mi_P49 (mi_tb_e)))
set_option maxRecDepth 20000 in
theorem ms_kglB_2 {h : sm_H} {d : Nat} {Q : Option mi_V → sm_H → Prop} {zf zw zl za zn : Int} (hS : ab_Sh sx_sk h) (ok_zf : mi_in zf) (ok_zw : mi_in zw) (ok_zl : mi_in zl) (ok_za : mi_in za) (ok_zn : mi_in zn) (ho : (zf < ((0 : Int))) ∧ (zn < ((0 : Int))) ∧ (zn < ((6 : Int)))) (kon : ∀ h1, me_W [] h h1 → me_E (d + 1) 122 45 [some (.inr (.inr 107)), some (.inl (zf)), some (.inl (zw)), some (.inl (zl)), some (.inl (za)), some (.inl (zn))] [] h1 Q) : me_E (d + 1) 122 22 [some (.inr (.inr 107)), some (.inl (zf)), some (.inl (zw)), some (.inl (zl)), some (.inl (za)), some (.inl (zn))] [] h Q := mf_seg (mp_kglB_2 h d zf zw zl za zn) (mi_tab_kglB_2) hS (mi_okL_c (trivial) (mi_okL_c (ok_zf) (mi_okL_c (ok_zw) (mi_okL_c (ok_zl) (mi_okL_c (ok_za) (mi_okL_c (ok_zn) (mi_okL_e))))))) (mi_okS_e) (mi_al (ho.1) (mi_al (ho.2.1) (mi_al (ho.2.2) (mi_al_e)))) (fun h1 W _ hst => kon h1 W)
set_option maxRecDepth 20000 in
theorem mp_kglB_3 (h : sm_H) (d : Nat) (zf zw zl za zn : Int) : mj_path [(122, (6, 1, sb_122)), (16, (3, 0, sb_16)), (49, (2, 1, sb_49))] sx_sk h 15 [0, 1, 1] (d + 1, 122, 22, [some (.inr (.inr 107)), some (.inl (zf)), some (.inl (zw)), some (.inl (zl)), some (.inl (za)), some (.inl (zn))], [], [], []) = some ((d + 1, 122, 97, [some (.inr (.inr 107)), some (.inl (zf)), some (.inl (zw)), some (.inl (zl)), some (.inl (za)), some (.inl (zn))], [], [], []), [((0 : Int)) ≤ zf, ((70 : Int)) ≤ zf, ((0 : Int)) ≤ zn]) := rfl
theorem mi_tab_kglB_3 : ∀ e ∈ ([(122, (6, 1, sb_122)), (16, (3, 0, sb_16)), (49, (2, 1, sb_49))] : mi_T), sc_P e.1 = some e.2 := mi_tb mi_P122 (mi_tb mi_P16 (mi_tb mi_P49 (mi_tb_e)))
set_option maxRecDepth 20000 in
theorem ms_kglB_3 {h : sm_H} {d : Nat} {Q : Option mi_V → sm_H → Prop} {zf zw zl za zn : Int} (hS : ab_Sh sx_sk h) (ok_zf : mi_in zf) (ok_zw : mi_in zw) (ok_zl : mi_in zl) (ok_za : mi_in za) (ok_zn : mi_in zn) (ho : (((0 : Int)) ≤ zf) ∧ (((70 : Int)) ≤ zf) ∧ (((0 : Int)) ≤ zn)) (kon : ∀ h1, me_W [] h h1 → me_E (d + 1) 122 97 [some (.inr (.inr 107)), some (.inl (zf)), some (.inl (zw)), some (.inl (zl)), some (.inl (za)), some (.inl (zn))] [] h1 Q) : me_E (d + 1) 122 22 [some (.inr (.inr 107)), some (.inl (zf)), some (.inl (zw)), some (.inl (zl)), some (.inl (za)), some (.inl (zn))] [] h Q := mf_seg (mp_kglB_3 h d zf zw zl za zn) (mi_tab_kglB_3) hS (mi_okL_c (trivial) (mi_okL_c (ok_zf) (mi_okL_c (ok_zw) (mi_okL_c (ok_zl) (mi_okL_c (ok_za) (mi_okL_c (ok_zn) (mi_okL_e))))))) (mi_okS_e) (mi_al (ho.1) (mi_al (ho.2.1) (mi_al (ho.2.2) (mi_al_e)))) (fun h1 W _ hst => kon h1 W)
set_option maxRecDepth 20000 in
theorem mp_kglB_4 (h : sm_H) (d : Nat) (zf zw zl za zn : Int) : mj_path [(122, (6, 1, sb_122)), (16, (3, 0, sb_16)), (49, (2, 1, sb_49))] sx_sk h 18 [0, 1, 0, 1] (d + 1, 122, 22, [some (.inr (.inr 107)), some (.inl (zf)), some (.inl (zw)), some (.inl (zl)), some (.inl (za)), some (.inl (zn))], [], [], []) = some ((d + 1, 122, 97, [some (.inr (.inr 107)), some (.inl (zf)), some (.inl (zw)), some (.inl (zl)), some (.inl (za)), some (.inl (zn))], [], [], []), [((0 : Int)) ≤ zf, ((70 : Int)) ≤ zf, zn < ((0 : Int)), ((6 : Int)) ≤ zn]) := rfl
theorem mi_tab_kglB_4 : ∀ e ∈ ([(122, (6, 1, sb_122)), (16, (3, 0, sb_16)), (49, (2, 1, sb_49))] : mi_T), sc_P e.1 = some e.2 := mi_tb mi_P122 (mi_tb mi_P16 (mi_tb mi_P49 (mi_tb_e)))
set_option maxRecDepth 20000 in
theorem ms_kglB_4 {h : sm_H} {d : Nat} {Q : Option mi_V → sm_H → Prop} {zf zw zl za zn : Int} (hS : ab_Sh sx_sk h) (ok_zf : mi_in zf) (ok_zw : mi_in zw) (ok_zl : mi_in zl) (ok_za : mi_in za) (ok_zn : mi_in zn) (ho : (((0 : Int)) ≤ zf) ∧ (((70 : Int)) ≤ zf) ∧ (zn < ((0 : Int))) ∧ (((6 : Int)) ≤ zn)) (kon : ∀ h1, me_W [] h h1 → me_E (d + 1) 122 97 [some (.inr (.inr 107)), some (.inl (zf)), some (.inl (zw)), some (.inl (zl)), some (.inl (za)), some (.inl (zn))] [] h1 Q) : me_E (d + 1) 122 22 [some (.inr (.inr 107)), some (.inl (zf)), some (.inl (zw)), some (.inl (zl)), some (.inl (za)), some (.inl (zn))] [] h Q := mf_seg (mp_kglB_4 h d zf zw zl za zn) (mi_tab_kglB_4) hS (mi_okL_c (trivial) (mi_okL_c (ok_zf) (mi_okL_c (ok_zw) (mi_okL_c (ok_zl) (mi_okL_c (ok_za) (mi_okL_c (ok_zn) (mi_okL_e))))))) (mi_okS_e) (mi_al (ho.1) (mi_al (ho.2.1) (mi_al (ho.2.2.1) (mi_al (ho.2.2.2) (mi_al_e))))) (fun h1 W _ hst => kon h1 W)
set_option maxRecDepth 20000 in
theorem mp_kglB_5 (h : sm_H) (d : Nat) (zf zw zl za zn : Int) : mj_path [(122, (6, 1, sb_122)), (16, (3, 0, sb_16)), (49, (2, 1, sb_49))] sx_sk h 18 [0, 1, 0, 0] (d + 1, 122, 22, [some (.inr (.inr 107)), some (.inl (zf)), some (.inl (zw)), some (.inl (zl)), some (.inl (za)), some (.inl (zn))], [], [], []) = some ((d + 1, 122, 45, [some (.inr (.inr 107)), some (.inl (zf)), some (.inl (zw)), some (.inl (zl)), some (.inl (za)), some (.inl (zn))], [], [], []), [((0 : Int)) ≤ zf, ((70 : Int)) ≤ zf, zn < ((0 : Int)), zn < ((6 : Int))]) := rfl
theorem mi_tab_kglB_5 : ∀ e ∈ ([(122, (6, 1, sb_122)), (16, (3, 0, sb_16)), (49, (2, 1, sb_49))] : mi_T), sc_P e.1 = some e.2 := mi_tb mi_P122 (mi_tb mi_P16 (mi_tb mi_P49 (mi_tb_e)))
set_option maxRecDepth 20000 in
theorem ms_kglB_5 {h : sm_H} {d : Nat} {Q : Option mi_V → sm_H → Prop} {zf zw zl za zn : Int} (hS : ab_Sh sx_sk h) (ok_zf : mi_in zf) (ok_zw : mi_in zw) (ok_zl : mi_in zl) (ok_za : mi_in za) (ok_zn : mi_in zn) (ho : (((0 : Int)) ≤ zf) ∧ (((70 : Int)) ≤ zf) ∧ (zn < ((0 : Int))) ∧ (zn < ((6 : Int)))) (kon : ∀ h1, me_W [] h h1 → me_E (d + 1) 122 45 [some (.inr (.inr 107)), some (.inl (zf)), some (.inl (zw)), some (.inl (zl)), some (.inl (za)), some (.inl (zn))] [] h1 Q) : me_E (d + 1) 122 22 [some (.inr (.inr 107)), some (.inl (zf)), some (.inl (zw)), some (.inl (zl)), some (.inl (za)), some (.inl (zn))] [] h Q := mf_seg (mp_kglB_5 h d zf zw zl za zn) (mi_tab_kglB_5) hS (mi_okL_c (trivial) (mi_okL_c (ok_zf) (mi_okL_c (ok_zw) (mi_okL_c (ok_zl) (mi_okL_c (ok_za) (mi_okL_c (ok_zn) (mi_okL_e))))))) (mi_okS_e) (mi_al (ho.1) (mi_al (ho.2.1) (mi_al (ho.2.2.1) (mi_al (ho.2.2.2) (mi_al_e))))) (fun h1 W _ hst => kon h1 W)
set_option maxRecDepth 20000 in
theorem mp_kglB_6 (h : sm_H) (d : Nat) (zf zw zl za zn : Int) : mj_path [(122, (6, 1, sb_122)), (16, (3, 0, sb_16)), (49, (2, 1, sb_49))] sx_sk h 18 [0, 0, 1] (d + 1, 122, 22, [some (.inr (.inr 107)), some (.inl (zf)), some (.inl (zw)), some (.inl (zl)), some (.inl (za)), some (.inl (zn))], [], [], []) = some ((d + 1, 122, 97, [some (.inr (.inr 107)), some (.inl (zf)), some (.inl (zw)), some (.inl (zl)), some (.inl (za)), some (.inl (zn))], [], [], []), [((0 : Int)) ≤ zf, zf < ((70 : Int)), 0 ≤ zf ∧ zf < 70, (mi_a h 64 (Int.toNat zf)) ≤ zn]) := rfl
theorem mi_tab_kglB_6 : ∀ e ∈ ([(122, (6, 1, sb_122)), (16, (3, 0, sb_16)), (49, (2, 1, sb_49))] : mi_T), sc_P e.1 = some e.2 := mi_tb mi_P122 (mi_tb mi_P16 (mi_tb mi_P49 (mi_tb_e)))
set_option maxRecDepth 20000 in
theorem ms_kglB_6 {h : sm_H} {d : Nat} {Q : Option mi_V → sm_H → Prop} {zf zw zl za zn : Int} (hS : ab_Sh sx_sk h) (ok_zf : mi_in zf) (ok_zw : mi_in zw) (ok_zl : mi_in zl) (ok_za : mi_in za) (ok_zn : mi_in zn) (ho : (((0 : Int)) ≤ zf) ∧ (zf < ((70 : Int))) ∧ (0 ≤ zf ∧ zf < 70) ∧ ((mi_a h 64 (Int.toNat zf)) ≤ zn)) (kon : ∀ h1, me_W [] h h1 → me_E (d + 1) 122 97 [some (.inr (.inr 107)), some (.inl (zf)), some (.inl (zw)), some (.inl (zl)), some (.inl (za)), some (.inl (zn))] [] h1 Q) : me_E (d + 1) 122 22 [some (.inr (.inr 107)), some (.inl (zf)), some (.inl (zw)), some (.inl (zl)), some (.inl (za)), some (.inl (zn))] [] h Q := mf_seg (mp_kglB_6 h d zf zw zl za zn) (mi_tab_kglB_6) hS (mi_okL_c (trivial) (mi_okL_c (ok_zf) (mi_okL_c (ok_zw) (mi_okL_c (ok_zl) (mi_okL_c (ok_za) (mi_okL_c (ok_zn) (mi_okL_e))))))) (mi_okS_e) (mi_al (ho.1) (mi_al (ho.2.1) (mi_al (ho.2.2.1) (mi_al (ho.2.2.2) (mi_al_e))))) (fun h1 W _ hst => kon h1 W)
set_option maxRecDepth 20000 in
theorem mp_kglB_7 (h : sm_H) (d : Nat) (zf zw zl za zn : Int) : mj_path [(122, (6, 1, sb_122)), (16, (3, 0, sb_16)), (49, (2, 1, sb_49))] sx_sk h 21 [0, 0, 0, 1] (d + 1, 122, 22, [some (.inr (.inr 107)), some (.inl (zf)), some (.inl (zw)), some (.inl (zl)), some (.inl (za)), some (.inl (zn))], [], [], []) = some ((d + 1, 122, 97, [some (.inr (.inr 107)), some (.inl (zf)), some (.inl (zw)), some (.inl (zl)), some (.inl (za)), some (.inl (zn))], [], [], []), [((0 : Int)) ≤ zf, zf < ((70 : Int)), 0 ≤ zf ∧ zf < 70, zn < (mi_a h 64 (Int.toNat zf)), ((6 : Int)) ≤ zn]) := rfl
theorem mi_tab_kglB_7 : ∀ e ∈ ([(122, (6, 1, sb_122)), (16, (3, 0, sb_16)), (49, (2, 1, sb_49))] : mi_T), sc_P e.1 = some e.2 := mi_tb mi_P122 (mi_tb mi_P16 (mi_tb mi_P49 (mi_tb_e)))
set_option maxRecDepth 20000 in
theorem ms_kglB_7 {h : sm_H} {d : Nat} {Q : Option mi_V → sm_H → Prop} {zf zw zl za zn : Int} (hS : ab_Sh sx_sk h) (ok_zf : mi_in zf) (ok_zw : mi_in zw) (ok_zl : mi_in zl) (ok_za : mi_in za) (ok_zn : mi_in zn) (ho : (((0 : Int)) ≤ zf) ∧ (zf < ((70 : Int))) ∧ (0 ≤ zf ∧ zf < 70) ∧ (zn < (mi_a h 64 (Int.toNat zf))) ∧ (((6 : Int)) ≤ zn)) (kon : ∀ h1, me_W [] h h1 → me_E (d + 1) 122 97 [some (.inr (.inr 107)), some (.inl (zf)), some (.inl (zw)), some (.inl (zl)), some (.inl (za)), some (.inl (zn))] [] h1 Q) : me_E (d + 1) 122 22 [some (.inr (.inr 107)), some (.inl (zf)), some (.inl (zw)), some (.inl (zl)), some (.inl (za)), some (.inl (zn))] [] h Q := mf_seg (mp_kglB_7 h d zf zw zl za zn) (mi_tab_kglB_7) hS (mi_okL_c (trivial) (mi_okL_c (ok_zf) (mi_okL_c (ok_zw) (mi_okL_c (ok_zl) (mi_okL_c (ok_za) (mi_okL_c (ok_zn) (mi_okL_e))))))) (mi_okS_e) (mi_al (ho.1) (mi_al (ho.2.1) (mi_al (ho.2.2.1) (mi_al (ho.2.2.2.1) (mi_al (ho.2.2.2.2) (mi_al_e)))))) (fun h1 W _ hst => kon h1 W)
set_option maxRecDepth 20000 in
theorem mp_kglB_8 (h : sm_H) (d : Nat) (zf zw zl za zn : Int) : mj_path [(122, (6, 1, sb_122)), (16, (3, 0, sb_16)), (49, (2, 1, sb_49))] sx_sk h 21 [0, 0, 0, 0] (d + 1, 122, 22, [some (.inr (.inr 107)), some (.inl (zf)), some (.inl (zw)), some (.inl (zl)), some (.inl (za)), some (.inl (zn))], [], [], []) = some ((d + 1, 122, 45, [some (.inr (.inr 107)), some (.inl (zf)), some (.inl (zw)), some (.inl (zl)), some (.inl (za)), some (.inl (zn))], [], [], []), [((0 : Int)) ≤ zf, zf < ((70 : Int)), 0 ≤ zf ∧ zf < 70, zn < (mi_a h 64 (Int.toNat zf)), zn < ((6 : Int))]) := rfl
theorem mi_tab_kglB_8 : ∀ e ∈ ([(122, (6, 1, sb_122)), (16, (3, 0, sb_16)), (49, (2, 1, sb_49))] : mi_T), sc_P e.1 = some e.2 := mi_tb mi_P122 (mi_tb mi_P16 (mi_tb mi_P49 (mi_tb_e)))
set_option maxRecDepth 20000 in
theorem ms_kglB_8 {h : sm_H} {d : Nat} {Q : Option mi_V → sm_H → Prop} {zf zw zl za zn : Int} (hS : ab_Sh sx_sk h) (ok_zf : mi_in zf) (ok_zw : mi_in zw) (ok_zl : mi_in zl) (ok_za : mi_in za) (ok_zn : mi_in zn) (ho : (((0 : Int)) ≤ zf) ∧ (zf < ((70 : Int))) ∧ (0 ≤ zf ∧ zf < 70) ∧ (zn < (mi_a h 64 (Int.toNat zf))) ∧ (zn < ((6 : Int)))) (kon : ∀ h1, me_W [] h h1 → me_E (d + 1) 122 45 [some (.inr (.inr 107)), some (.inl (zf)), some (.inl (zw)), some (.inl (zl)), some (.inl (za)), some (.inl (zn))] [] h1 Q) : me_E (d + 1) 122 22 [some (.inr (.inr 107)), some (.inl (zf)), some (.inl (zw)), some (.inl (zl)), some (.inl (za)), some (.inl (zn))] [] h Q := mf_seg (mp_kglB_8 h d zf zw zl za zn) (mi_tab_kglB_8) hS (mi_okL_c (trivial) (mi_okL_c (ok_zf) (mi_okL_c (ok_zw) (mi_okL_c (ok_zl) (mi_okL_c (ok_za) (mi_okL_c (ok_zn) (mi_okL_e))))))) (mi_okS_e) (mi_al (ho.1) (mi_al (ho.2.1) (mi_al (ho.2.2.1) (mi_al (ho.2.2.2.1) (mi_al (ho.2.2.2.2) (mi_al_e)))))) (fun h1 W _ hst => kon h1 W)
set_option maxRecDepth 20000 in
theorem mt_kglB {h : sm_H} {d : Nat} {Q : Option mi_V → sm_H → Prop} {zf zw zl za zn : Int} (hS : ab_Sh sx_sk h) (ok_zf : mi_in zf) (ok_zw : mi_in zw) (ok_zl : mi_in zl) (ok_za : mi_in za) (ok_zn : mi_in zn) (k0 : (zf < ((0 : Int))) → (((0 : Int)) ≤ zn) → (∀ h1, ab_Sh sx_sk h1 → ab_Fr [] h h1 → me_E (d + 1) 122 97 [some (.inr (.inr 107)), some (.inl (zf)), some (.inl (zw)), some (.inl (zl)), some (.inl (za)), some (.inl (zn))] [] h1 Q)) (k1 : (zf < ((0 : Int))) → (zn < ((0 : Int))) → (((6 : Int)) ≤ zn) → (∀ h1, ab_Sh sx_sk h1 → ab_Fr [] h h1 → me_E (d + 1) 122 97 [some (.inr (.inr 107)), some (.inl (zf)), some (.inl (zw)), some (.inl (zl)), some (.inl (za)), some (.inl (zn))] [] h1 Q)) (k2 : (zf < ((0 : Int))) → (zn < ((0 : Int))) → (zn < ((6 : Int))) → (∀ h1, ab_Sh sx_sk h1 → ab_Fr [] h h1 → me_E (d + 1) 122 45 [some (.inr (.inr 107)), some (.inl (zf)), some (.inl (zw)), some (.inl (zl)), some (.inl (za)), some (.inl (zn))] [] h1 Q)) (k3 : (((0 : Int)) ≤ zf) → (((70 : Int)) ≤ zf) → (((0 : Int)) ≤ zn) → (∀ h1, ab_Sh sx_sk h1 → ab_Fr [] h h1 → me_E (d + 1) 122 97 [some (.inr (.inr 107)), some (.inl (zf)), some (.inl (zw)), some (.inl (zl)), some (.inl (za)), some (.inl (zn))] [] h1 Q)) (k4 : (((0 : Int)) ≤ zf) → (((70 : Int)) ≤ zf) → (zn < ((0 : Int))) → (((6 : Int)) ≤ zn) → (∀ h1, ab_Sh sx_sk h1 → ab_Fr [] h h1 → me_E (d + 1) 122 97 [some (.inr (.inr 107)), some (.inl (zf)), some (.inl (zw)), some (.inl (zl)), some (.inl (za)), some (.inl (zn))] [] h1 Q)) (k5 : (((0 : Int)) ≤ zf) → (((70 : Int)) ≤ zf) → (zn < ((0 : Int))) → (zn < ((6 : Int))) → (∀ h1, ab_Sh sx_sk h1 → ab_Fr [] h h1 → me_E (d + 1) 122 45 [some (.inr (.inr 107)), some (.inl (zf)), some (.inl (zw)), some (.inl (zl)), some (.inl (za)), some (.inl (zn))] [] h1 Q)) (k6 : (((0 : Int)) ≤ zf) → (zf < ((70 : Int))) → ((mi_a h 64 (Int.toNat zf)) ≤ zn) → ((0 ≤ zf ∧ zf < 70)) ∧ (∀ h1, ab_Sh sx_sk h1 → ab_Fr [] h h1 → me_E (d + 1) 122 97 [some (.inr (.inr 107)), some (.inl (zf)), some (.inl (zw)), some (.inl (zl)), some (.inl (za)), some (.inl (zn))] [] h1 Q)) (k7 : (((0 : Int)) ≤ zf) → (zf < ((70 : Int))) → (zn < (mi_a h 64 (Int.toNat zf))) → (((6 : Int)) ≤ zn) → ((0 ≤ zf ∧ zf < 70)) ∧ (∀ h1, ab_Sh sx_sk h1 → ab_Fr [] h h1 → me_E (d + 1) 122 97 [some (.inr (.inr 107)), some (.inl (zf)), some (.inl (zw)), some (.inl (zl)), some (.inl (za)), some (.inl (zn))] [] h1 Q)) (k8 : (((0 : Int)) ≤ zf) → (zf < ((70 : Int))) → (zn < (mi_a h 64 (Int.toNat zf))) → (zn < ((6 : Int))) → ((0 ≤ zf ∧ zf < 70)) ∧ (∀ h1, ab_Sh sx_sk h1 → ab_Fr [] h h1 → me_E (d + 1) 122 45 [some (.inr (.inr 107)), some (.inl (zf)), some (.inl (zw)), some (.inl (zl)), some (.inl (za)), some (.inl (zn))] [] h1 Q)) : me_E (d + 1) 122 22 [some (.inr (.inr 107)), some (.inl (zf)), some (.inl (zw)), some (.inl (zl)), some (.inl (za)), some (.inl (zn))] [] h Q := Or.elim (mi_em .lt (zf) (((0 : Int)))) (fun c0 => Or.elim (mi_em .ge (zn) (((0 : Int)))) (fun c1 => ms_kglB_0 hS ok_zf ok_zw ok_zl ok_za ok_zn ⟨c0, c1⟩ (fun h1 W => (k0 c0 c1) h1 W.1 (W.2.2.2.2.2 _ rfl))) (fun c1 => Or.elim (mi_em .ge (zn) (((6 : Int)))) (fun c2 => ms_kglB_1 hS ok_zf ok_zw ok_zl ok_za ok_zn ⟨c0, c1, c2⟩ (fun h1 W => (k1 c0 c1 c2) h1 W.1 (W.2.2.2.2.2 _ rfl))) (fun c2 => ms_kglB_2 hS ok_zf ok_zw ok_zl ok_za ok_zn ⟨c0, c1, c2⟩ (fun h1 W => (k2 c0 c1 c2) h1 W.1 (W.2.2.2.2.2 _ rfl))))) (fun c0 => Or.elim (mi_em .ge (zf) (((70 : Int)))) (fun c1 => Or.elim (mi_em .ge (zn) (((0 : Int)))) (fun c2 => ms_kglB_3 hS ok_zf ok_zw ok_zl ok_za ok_zn ⟨c0, c1, c2⟩ (fun h1 W => (k3 c0 c1 c2) h1 W.1 (W.2.2.2.2.2 _ rfl))) (fun c2 => Or.elim (mi_em .ge (zn) (((6 : Int)))) (fun c3 => ms_kglB_4 hS ok_zf ok_zw ok_zl ok_za ok_zn ⟨c0, c1, c2, c3⟩ (fun h1 W => (k4 c0 c1 c2 c3) h1 W.1 (W.2.2.2.2.2 _ rfl))) (fun c3 => ms_kglB_5 hS ok_zf ok_zw ok_zl ok_za ok_zn ⟨c0, c1, c2, c3⟩ (fun h1 W => (k5 c0 c1 c2 c3) h1 W.1 (W.2.2.2.2.2 _ rfl))))) (fun c1 => Or.elim (mi_em .ge (zn) ((mi_a h 64 (Int.toNat zf)))) (fun c2 => ms_kglB_6 hS ok_zf ok_zw ok_zl ok_za ok_zn ⟨c0, c1, (k6 c0 c1 c2).1, c2⟩ (fun h1 W => (k6 c0 c1 c2).2 h1 W.1 (W.2.2.2.2.2 _ rfl))) (fun c2 => Or.elim (mi_em .ge (zn) (((6 : Int)))) (fun c3 => ms_kglB_7 hS ok_zf ok_zw ok_zl ok_za ok_zn ⟨c0, c1, (k7 c0 c1 c2 c3).1, c2, c3⟩ (fun h1 W => (k7 c0 c1 c2 c3).2 h1 W.1 (W.2.2.2.2.2 _ rfl))) (fun c3 => ms_kglB_8 hS ok_zf ok_zw ok_zl ok_za ok_zn ⟨c0, c1, (k8 c0 c1 c2 c3).1, c2, c3⟩ (fun h1 W => (k8 c0 c1 c2 c3).2 h1 W.1 (W.2.2.2.2.2 _ rfl))))))
set_option maxRecDepth 20000 in
theorem mp_kglC_0 (h : sm_H) (d : Nat) (zf zw zl za zn : Int) : mj_path [(122, (6, 1, sb_122)), (16, (3, 0, sb_16)), (49, (2, 1, sb_49))] sx_sk h 11 [1, 1] (d + 1, 122, 45, [some (.inr (.inr 107)), some (.inl (zf)), some (.inl (zw)), some (.inl (zl)), some (.inl (za)), some (.inl (zn))], [], [], []) = some ((d + 1, 122, 77, [some (.inr (.inr 107)), some (.inl (zf)), some (.inl (zw)), some (.inl (zl)), some (.inl (za)), some (.inl (zn))], [], [], []), [za < ((0 : Int)), zl ≤ ((0 : Int))]) := rfl
theorem mi_tab_kglC_0 : ∀ e ∈ ([(122, (6, 1, sb_122)), (16, (3, 0, sb_16)), (49, (2, 1, sb_49))] : mi_T), sc_P e.1 = some e.2 := mi_tb mi_P122 (mi_tb mi_P16 (mi_tb mi_P49 (mi_tb_e)))
set_option maxRecDepth 20000 in
theorem ms_kglC_0 {h : sm_H} {d : Nat} {Q : Option mi_V → sm_H → Prop} {zf zw zl za zn : Int} (hS : ab_Sh sx_sk h) (ok_zf : mi_in zf) (ok_zw : mi_in zw) (ok_zl : mi_in zl) (ok_za : mi_in za) (ok_zn : mi_in zn) (ho : (za < ((0 : Int))) ∧ (zl ≤ ((0 : Int)))) (kon : ∀ h1, me_W [] h h1 → me_E (d + 1) 122 77 [some (.inr (.inr 107)), some (.inl (zf)), some (.inl (zw)), some (.inl (zl)), some (.inl (za)), some (.inl (zn))] [] h1 Q) : me_E (d + 1) 122 45 [some (.inr (.inr 107)), some (.inl (zf)), some (.inl (zw)), some (.inl (zl)), some (.inl (za)), some (.inl (zn))] [] h Q := mf_seg (mp_kglC_0 h d zf zw zl za zn) (mi_tab_kglC_0) hS (mi_okL_c (trivial) (mi_okL_c (ok_zf) (mi_okL_c (ok_zw) (mi_okL_c (ok_zl) (mi_okL_c (ok_za) (mi_okL_c (ok_zn) (mi_okL_e))))))) (mi_okS_e) (mi_al (ho.1) (mi_al (ho.2) (mi_al_e))) (fun h1 W _ hst => kon h1 W)
set_option maxRecDepth 20000 in
theorem mp_kglC_1 (h : sm_H) (d : Nat) (zf zw zl za zn : Int) : mj_path [(122, (6, 1, sb_122)), (16, (3, 0, sb_16)), (49, (2, 1, sb_49))] sx_sk h 11 [1, 0] (d + 1, 122, 45, [some (.inr (.inr 107)), some (.inl (zf)), some (.inl (zw)), some (.inl (zl)), some (.inl (za)), some (.inl (zn))], [], [], []) = some ((d + 1, 122, 61, [some (.inr (.inr 107)), some (.inl (zf)), some (.inl (zw)), some (.inl (zl)), some (.inl (za)), some (.inl (zn))], [], [], []), [za < ((0 : Int)), ((0 : Int)) < zl]) := rfl
theorem mi_tab_kglC_1 : ∀ e ∈ ([(122, (6, 1, sb_122)), (16, (3, 0, sb_16)), (49, (2, 1, sb_49))] : mi_T), sc_P e.1 = some e.2 := mi_tb mi_P122 (mi_tb mi_P16 (mi_tb mi_P49 (mi_tb_e)))
set_option maxRecDepth 20000 in
theorem ms_kglC_1 {h : sm_H} {d : Nat} {Q : Option mi_V → sm_H → Prop} {zf zw zl za zn : Int} (hS : ab_Sh sx_sk h) (ok_zf : mi_in zf) (ok_zw : mi_in zw) (ok_zl : mi_in zl) (ok_za : mi_in za) (ok_zn : mi_in zn) (ho : (za < ((0 : Int))) ∧ (((0 : Int)) < zl)) (kon : ∀ h1, me_W [] h h1 → me_E (d + 1) 122 61 [some (.inr (.inr 107)), some (.inl (zf)), some (.inl (zw)), some (.inl (zl)), some (.inl (za)), some (.inl (zn))] [] h1 Q) : me_E (d + 1) 122 45 [some (.inr (.inr 107)), some (.inl (zf)), some (.inl (zw)), some (.inl (zl)), some (.inl (za)), some (.inl (zn))] [] h Q := mf_seg (mp_kglC_1 h d zf zw zl za zn) (mi_tab_kglC_1) hS (mi_okL_c (trivial) (mi_okL_c (ok_zf) (mi_okL_c (ok_zw) (mi_okL_c (ok_zl) (mi_okL_c (ok_za) (mi_okL_c (ok_zn) (mi_okL_e))))))) (mi_okS_e) (mi_al (ho.1) (mi_al (ho.2) (mi_al_e))) (fun h1 W _ hst => kon h1 W)
set_option maxRecDepth 20000 in
theorem mp_kglC_2 (h : sm_H) (d : Nat) (zf zw zl za zn : Int) : mj_path [(122, (6, 1, sb_122)), (16, (3, 0, sb_16)), (49, (2, 1, sb_49))] sx_sk h 15 [0, 1, 1] (d + 1, 122, 45, [some (.inr (.inr 107)), some (.inl (zf)), some (.inl (zw)), some (.inl (zl)), some (.inl (za)), some (.inl (zn))], [], [], []) = some ((d + 1, 122, 77, [some (.inr (.inr 107)), some (.inl (zf)), some (.inl (zw)), some (.inl (zl)), some (.inl (za)), some (.inl (zn))], [], [], []), [((0 : Int)) ≤ za, ((66 : Int)) ≤ za, zl ≤ ((0 : Int))]) := rfl
theorem mi_tab_kglC_2 : ∀ e ∈ ([(122, (6, 1, sb_122)), (16, (3, 0, sb_16)), (49, (2, 1, sb_49))] : mi_T), sc_P e.1 = some e.2 := mi_tb mi_P122 (mi_tb mi_P16 (mi_tb mi_P49 (mi_tb_e)))
set_option maxRecDepth 20000 in
theorem ms_kglC_2 {h : sm_H} {d : Nat} {Q : Option mi_V → sm_H → Prop} {zf zw zl za zn : Int} (hS : ab_Sh sx_sk h) (ok_zf : mi_in zf) (ok_zw : mi_in zw) (ok_zl : mi_in zl) (ok_za : mi_in za) (ok_zn : mi_in zn) (ho : (((0 : Int)) ≤ za) ∧ (((66 : Int)) ≤ za) ∧ (zl ≤ ((0 : Int)))) (kon : ∀ h1, me_W [] h h1 → me_E (d + 1) 122 77 [some (.inr (.inr 107)), some (.inl (zf)), some (.inl (zw)), some (.inl (zl)), some (.inl (za)), some (.inl (zn))] [] h1 Q) : me_E (d + 1) 122 45 [some (.inr (.inr 107)), some (.inl (zf)), some (.inl (zw)), some (.inl (zl)), some (.inl (za)), some (.inl (zn))] [] h Q := mf_seg (mp_kglC_2 h d zf zw zl za zn) (mi_tab_kglC_2) hS (mi_okL_c (trivial) (mi_okL_c (ok_zf) (mi_okL_c (ok_zw) (mi_okL_c (ok_zl) (mi_okL_c (ok_za) (mi_okL_c (ok_zn) (mi_okL_e))))))) (mi_okS_e) (mi_al (ho.1) (mi_al (ho.2.1) (mi_al (ho.2.2) (mi_al_e)))) (fun h1 W _ hst => kon h1 W)
set_option maxRecDepth 20000 in
theorem mp_kglC_3 (h : sm_H) (d : Nat) (zf zw zl za zn : Int) : mj_path [(122, (6, 1, sb_122)), (16, (3, 0, sb_16)), (49, (2, 1, sb_49))] sx_sk h 15 [0, 1, 0] (d + 1, 122, 45, [some (.inr (.inr 107)), some (.inl (zf)), some (.inl (zw)), some (.inl (zl)), some (.inl (za)), some (.inl (zn))], [], [], []) = some ((d + 1, 122, 61, [some (.inr (.inr 107)), some (.inl (zf)), some (.inl (zw)), some (.inl (zl)), some (.inl (za)), some (.inl (zn))], [], [], []), [((0 : Int)) ≤ za, ((66 : Int)) ≤ za, ((0 : Int)) < zl]) := rfl
theorem mi_tab_kglC_3 : ∀ e ∈ ([(122, (6, 1, sb_122)), (16, (3, 0, sb_16)), (49, (2, 1, sb_49))] : mi_T), sc_P e.1 = some e.2 := mi_tb mi_P122 (mi_tb mi_P16 (mi_tb mi_P49 (mi_tb_e)))
set_option maxRecDepth 20000 in
theorem ms_kglC_3 {h : sm_H} {d : Nat} {Q : Option mi_V → sm_H → Prop} {zf zw zl za zn : Int} (hS : ab_Sh sx_sk h) (ok_zf : mi_in zf) (ok_zw : mi_in zw) (ok_zl : mi_in zl) (ok_za : mi_in za) (ok_zn : mi_in zn) (ho : (((0 : Int)) ≤ za) ∧ (((66 : Int)) ≤ za) ∧ (((0 : Int)) < zl)) (kon : ∀ h1, me_W [] h h1 → me_E (d + 1) 122 61 [some (.inr (.inr 107)), some (.inl (zf)), some (.inl (zw)), some (.inl (zl)), some (.inl (za)), some (.inl (zn))] [] h1 Q) : me_E (d + 1) 122 45 [some (.inr (.inr 107)), some (.inl (zf)), some (.inl (zw)), some (.inl (zl)), some (.inl (za)), some (.inl (zn))] [] h Q := mf_seg (mp_kglC_3 h d zf zw zl za zn) (mi_tab_kglC_3) hS (mi_okL_c (trivial) (mi_okL_c (ok_zf) (mi_okL_c (ok_zw) (mi_okL_c (ok_zl) (mi_okL_c (ok_za) (mi_okL_c (ok_zn) (mi_okL_e))))))) (mi_okS_e) (mi_al (ho.1) (mi_al (ho.2.1) (mi_al (ho.2.2) (mi_al_e)))) (fun h1 W _ hst => kon h1 W)
set_option maxRecDepth 20000 in
theorem mp_kglC_4 (h : sm_H) (d : Nat) (zf zw zl za zn : Int) : mj_path [(122, (6, 1, sb_122)), (16, (3, 0, sb_16)), (49, (2, 1, sb_49))] sx_sk h 18 [0, 0, 1] (d + 1, 122, 45, [some (.inr (.inr 107)), some (.inl (zf)), some (.inl (zw)), some (.inl (zl)), some (.inl (za)), some (.inl (zn))], [], [], []) = some ((d + 1, 122, 77, [some (.inr (.inr 107)), some (.inl (zf)), some (.inl (zw)), some (.inl (zl)), some (.inl (za)), some (.inl (zn))], [], [], []), [((0 : Int)) ≤ za, za < ((66 : Int)), 0 ≤ za ∧ za < 66, zl ≤ (mi_a h 87 (Int.toNat za))]) := rfl
theorem mi_tab_kglC_4 : ∀ e ∈ ([(122, (6, 1, sb_122)), (16, (3, 0, sb_16)), (49, (2, 1, sb_49))] : mi_T), sc_P e.1 = some e.2 := mi_tb mi_P122 (mi_tb mi_P16 (mi_tb mi_P49 (mi_tb_e)))
set_option maxRecDepth 20000 in
theorem ms_kglC_4 {h : sm_H} {d : Nat} {Q : Option mi_V → sm_H → Prop} {zf zw zl za zn : Int} (hS : ab_Sh sx_sk h) (ok_zf : mi_in zf) (ok_zw : mi_in zw) (ok_zl : mi_in zl) (ok_za : mi_in za) (ok_zn : mi_in zn) (ho : (((0 : Int)) ≤ za) ∧ (za < ((66 : Int))) ∧ (0 ≤ za ∧ za < 66) ∧ (zl ≤ (mi_a h 87 (Int.toNat za)))) (kon : ∀ h1, me_W [] h h1 → me_E (d + 1) 122 77 [some (.inr (.inr 107)), some (.inl (zf)), some (.inl (zw)), some (.inl (zl)), some (.inl (za)), some (.inl (zn))] [] h1 Q) : me_E (d + 1) 122 45 [some (.inr (.inr 107)), some (.inl (zf)), some (.inl (zw)), some (.inl (zl)), some (.inl (za)), some (.inl (zn))] [] h Q := mf_seg (mp_kglC_4 h d zf zw zl za zn) (mi_tab_kglC_4) hS (mi_okL_c (trivial) (mi_okL_c (ok_zf) (mi_okL_c (ok_zw) (mi_okL_c (ok_zl) (mi_okL_c (ok_za) (mi_okL_c (ok_zn) (mi_okL_e))))))) (mi_okS_e) (mi_al (ho.1) (mi_al (ho.2.1) (mi_al (ho.2.2.1) (mi_al (ho.2.2.2) (mi_al_e))))) (fun h1 W _ hst => kon h1 W)
set_option maxRecDepth 20000 in
theorem mp_kglC_5 (h : sm_H) (d : Nat) (zf zw zl za zn : Int) : mj_path [(122, (6, 1, sb_122)), (16, (3, 0, sb_16)), (49, (2, 1, sb_49))] sx_sk h 18 [0, 0, 0] (d + 1, 122, 45, [some (.inr (.inr 107)), some (.inl (zf)), some (.inl (zw)), some (.inl (zl)), some (.inl (za)), some (.inl (zn))], [], [], []) = some ((d + 1, 122, 61, [some (.inr (.inr 107)), some (.inl (zf)), some (.inl (zw)), some (.inl (zl)), some (.inl (za)), some (.inl (zn))], [], [], []), [((0 : Int)) ≤ za, za < ((66 : Int)), 0 ≤ za ∧ za < 66, (mi_a h 87 (Int.toNat za)) < zl]) := rfl
theorem mi_tab_kglC_5 : ∀ e ∈ ([(122, (6, 1, sb_122)), (16, (3, 0, sb_16)), (49, (2, 1, sb_49))] : mi_T), sc_P e.1 = some e.2 := mi_tb mi_P122 (mi_tb mi_P16 (mi_tb mi_P49 (mi_tb_e)))
set_option maxRecDepth 20000 in
theorem ms_kglC_5 {h : sm_H} {d : Nat} {Q : Option mi_V → sm_H → Prop} {zf zw zl za zn : Int} (hS : ab_Sh sx_sk h) (ok_zf : mi_in zf) (ok_zw : mi_in zw) (ok_zl : mi_in zl) (ok_za : mi_in za) (ok_zn : mi_in zn) (ho : (((0 : Int)) ≤ za) ∧ (za < ((66 : Int))) ∧ (0 ≤ za ∧ za < 66) ∧ ((mi_a h 87 (Int.toNat za)) < zl)) (kon : ∀ h1, me_W [] h h1 → me_E (d + 1) 122 61 [some (.inr (.inr 107)), some (.inl (zf)), some (.inl (zw)), some (.inl (zl)), some (.inl (za)), some (.inl (zn))] [] h1 Q) : me_E (d + 1) 122 45 [some (.inr (.inr 107)), some (.inl (zf)), some (.inl (zw)), some (.inl (zl)), some (.inl (za)), some (.inl (zn))] [] h Q := mf_seg (mp_kglC_5 h d zf zw zl za zn) (mi_tab_kglC_5) hS (mi_okL_c (trivial) (mi_okL_c (ok_zf) (mi_okL_c (ok_zw) (mi_okL_c (ok_zl) (mi_okL_c (ok_za) (mi_okL_c (ok_zn) (mi_okL_e))))))) (mi_okS_e) (mi_al (ho.1) (mi_al (ho.2.1) (mi_al (ho.2.2.1) (mi_al (ho.2.2.2) (mi_al_e))))) (fun h1 W _ hst => kon h1 W)
set_option maxRecDepth 20000 in
theorem mt_kglC {h : sm_H} {d : Nat} {Q : Option mi_V → sm_H → Prop} {zf zw zl za zn : Int} (hS : ab_Sh sx_sk h) (ok_zf : mi_in zf) (ok_zw : mi_in zw) (ok_zl : mi_in zl) (ok_za : mi_in za) (ok_zn : mi_in zn) (k0 : (za < ((0 : Int))) → (zl ≤ ((0 : Int))) → (∀ h1, ab_Sh sx_sk h1 → ab_Fr [] h h1 → me_E (d + 1) 122 77 [some (.inr (.inr 107)), some (.inl (zf)), some (.inl (zw)), some (.inl (zl)), some (.inl (za)), some (.inl (zn))] [] h1 Q)) (k1 : (za < ((0 : Int))) → (((0 : Int)) < zl) → (∀ h1, ab_Sh sx_sk h1 → ab_Fr [] h h1 → me_E (d + 1) 122 61 [some (.inr (.inr 107)), some (.inl (zf)), some (.inl (zw)), some (.inl (zl)), some (.inl (za)), some (.inl (zn))] [] h1 Q)) (k2 : (((0 : Int)) ≤ za) → (((66 : Int)) ≤ za) → (zl ≤ ((0 : Int))) → (∀ h1, ab_Sh sx_sk h1 → ab_Fr [] h h1 → me_E (d + 1) 122 77 [some (.inr (.inr 107)), some (.inl (zf)), some (.inl (zw)), some (.inl (zl)), some (.inl (za)), some (.inl (zn))] [] h1 Q)) (k3 : (((0 : Int)) ≤ za) → (((66 : Int)) ≤ za) → (((0 : Int)) < zl) → (∀ h1, ab_Sh sx_sk h1 → ab_Fr [] h h1 → me_E (d + 1) 122 61 [some (.inr (.inr 107)), some (.inl (zf)), some (.inl (zw)), some (.inl (zl)), some (.inl (za)), some (.inl (zn))] [] h1 Q)) (k4 : (((0 : Int)) ≤ za) → (za < ((66 : Int))) → (zl ≤ (mi_a h 87 (Int.toNat za))) → ((0 ≤ za ∧ za < 66)) ∧ (∀ h1, ab_Sh sx_sk h1 → ab_Fr [] h h1 → me_E (d + 1) 122 77 [some (.inr (.inr 107)), some (.inl (zf)), some (.inl (zw)), some (.inl (zl)), some (.inl (za)), some (.inl (zn))] [] h1 Q)) (k5 : (((0 : Int)) ≤ za) → (za < ((66 : Int))) → ((mi_a h 87 (Int.toNat za)) < zl) → ((0 ≤ za ∧ za < 66)) ∧ (∀ h1, ab_Sh sx_sk h1 → ab_Fr [] h h1 → me_E (d + 1) 122 61 [some (.inr (.inr 107)), some (.inl (zf)), some (.inl (zw)), some (.inl (zl)), some (.inl (za)), some (.inl (zn))] [] h1 Q)) : me_E (d + 1) 122 45 [some (.inr (.inr 107)), some (.inl (zf)), some (.inl (zw)), some (.inl (zl)), some (.inl (za)), some (.inl (zn))] [] h Q := Or.elim (mi_em .lt (za) (((0 : Int)))) (fun c0 => Or.elim (mi_em .ge (((0 : Int))) (zl)) (fun c1 => ms_kglC_0 hS ok_zf ok_zw ok_zl ok_za ok_zn ⟨c0, c1⟩ (fun h1 W => (k0 c0 c1) h1 W.1 (W.2.2.2.2.2 _ rfl))) (fun c1 => ms_kglC_1 hS ok_zf ok_zw ok_zl ok_za ok_zn ⟨c0, c1⟩ (fun h1 W => (k1 c0 c1) h1 W.1 (W.2.2.2.2.2 _ rfl)))) (fun c0 => Or.elim (mi_em .ge (za) (((66 : Int)))) (fun c1 => Or.elim (mi_em .ge (((0 : Int))) (zl)) (fun c2 => ms_kglC_2 hS ok_zf ok_zw ok_zl ok_za ok_zn ⟨c0, c1, c2⟩ (fun h1 W => (k2 c0 c1 c2) h1 W.1 (W.2.2.2.2.2 _ rfl))) (fun c2 => ms_kglC_3 hS ok_zf ok_zw ok_zl ok_za ok_zn ⟨c0, c1, c2⟩ (fun h1 W => (k3 c0 c1 c2) h1 W.1 (W.2.2.2.2.2 _ rfl)))) (fun c1 => Or.elim (mi_em .ge ((mi_a h 87 (Int.toNat za))) (zl)) (fun c2 => ms_kglC_4 hS ok_zf ok_zw ok_zl ok_za ok_zn ⟨c0, c1, (k4 c0 c1 c2).1, c2⟩ (fun h1 W => (k4 c0 c1 c2).2 h1 W.1 (W.2.2.2.2.2 _ rfl))) (fun c2 => ms_kglC_5 hS ok_zf ok_zw ok_zl ok_za ok_zn ⟨c0, c1, (k5 c0 c1 c2).1, c2⟩ (fun h1 W => (k5 c0 c1 c2).2 h1 W.1 (W.2.2.2.2.2 _ rfl)))))
set_option maxRecDepth 20000 in
theorem mp_kglD_0 (h : sm_H) (d : Nat) (zf zw zl za zn : Int) : mj_path [(122, (6, 1, sb_122)), (16, (3, 0, sb_16)), (49, (2, 1, sb_49))] sx_sk h 12 [1] (d + 1, 122, 61, [some (.inr (.inr 107)), some (.inl (zf)), some (.inl (zw)), some (.inl (zl)), some (.inl (za)), some (.inl (zn))], [], [], []) = some ((d + 1, 122, 77, [some (.inr (.inr 107)), some (.inl (zf)), some (.inl (zn)), some (.inl ((0 : Int))), some (.inl (za)), some (.inl (zn))], [], [], []), [za < ((0 : Int))]) := rfl
theorem mi_tab_kglD_0 : ∀ e ∈ ([(122, (6, 1, sb_122)), (16, (3, 0, sb_16)), (49, (2, 1, sb_49))] : mi_T), sc_P e.1 = some e.2 := mi_tb mi_P122 (mi_tb mi_P16 (mi_tb mi_P49 (mi_tb_e)))
set_option maxRecDepth 20000 in
theorem ms_kglD_0 {h : sm_H} {d : Nat} {Q : Option mi_V → sm_H → Prop} {zf zw zl za zn : Int} (hS : ab_Sh sx_sk h) (ok_zf : mi_in zf) (ok_zw : mi_in zw) (ok_zl : mi_in zl) (ok_za : mi_in za) (ok_zn : mi_in zn) (ho : (za < ((0 : Int)))) (kon : ∀ h1, me_W [] h h1 → me_E (d + 1) 122 77 [some (.inr (.inr 107)), some (.inl (zf)), some (.inl (zn)), some (.inl ((0 : Int))), some (.inl (za)), some (.inl (zn))] [] h1 Q) : me_E (d + 1) 122 61 [some (.inr (.inr 107)), some (.inl (zf)), some (.inl (zw)), some (.inl (zl)), some (.inl (za)), some (.inl (zn))] [] h Q := mf_seg (mp_kglD_0 h d zf zw zl za zn) (mi_tab_kglD_0) hS (mi_okL_c (trivial) (mi_okL_c (ok_zf) (mi_okL_c (ok_zw) (mi_okL_c (ok_zl) (mi_okL_c (ok_za) (mi_okL_c (ok_zn) (mi_okL_e))))))) (mi_okS_e) (mi_al (ho) (mi_al_e)) (fun h1 W _ hst => kon h1 W)
set_option maxRecDepth 20000 in
theorem mp_kglD_1 (h : sm_H) (d : Nat) (zf zw zl za zn : Int) : mj_path [(122, (6, 1, sb_122)), (16, (3, 0, sb_16)), (49, (2, 1, sb_49))] sx_sk h 16 [0, 1] (d + 1, 122, 61, [some (.inr (.inr 107)), some (.inl (zf)), some (.inl (zw)), some (.inl (zl)), some (.inl (za)), some (.inl (zn))], [], [], []) = some ((d + 1, 122, 77, [some (.inr (.inr 107)), some (.inl (zf)), some (.inl (zn)), some (.inl ((0 : Int))), some (.inl (za)), some (.inl (zn))], [], [], []), [((0 : Int)) ≤ za, ((66 : Int)) ≤ za]) := rfl
theorem mi_tab_kglD_1 : ∀ e ∈ ([(122, (6, 1, sb_122)), (16, (3, 0, sb_16)), (49, (2, 1, sb_49))] : mi_T), sc_P e.1 = some e.2 := mi_tb mi_P122 (mi_tb mi_P16 (mi_tb mi_P49 (mi_tb_e)))
set_option maxRecDepth 20000 in
theorem ms_kglD_1 {h : sm_H} {d : Nat} {Q : Option mi_V → sm_H → Prop} {zf zw zl za zn : Int} (hS : ab_Sh sx_sk h) (ok_zf : mi_in zf) (ok_zw : mi_in zw) (ok_zl : mi_in zl) (ok_za : mi_in za) (ok_zn : mi_in zn) (ho : (((0 : Int)) ≤ za) ∧ (((66 : Int)) ≤ za)) (kon : ∀ h1, me_W [] h h1 → me_E (d + 1) 122 77 [some (.inr (.inr 107)), some (.inl (zf)), some (.inl (zn)), some (.inl ((0 : Int))), some (.inl (za)), some (.inl (zn))] [] h1 Q) : me_E (d + 1) 122 61 [some (.inr (.inr 107)), some (.inl (zf)), some (.inl (zw)), some (.inl (zl)), some (.inl (za)), some (.inl (zn))] [] h Q := mf_seg (mp_kglD_1 h d zf zw zl za zn) (mi_tab_kglD_1) hS (mi_okL_c (trivial) (mi_okL_c (ok_zf) (mi_okL_c (ok_zw) (mi_okL_c (ok_zl) (mi_okL_c (ok_za) (mi_okL_c (ok_zn) (mi_okL_e))))))) (mi_okS_e) (mi_al (ho.1) (mi_al (ho.2) (mi_al_e))) (fun h1 W _ hst => kon h1 W)
set_option maxRecDepth 20000 in
theorem mp_kglD_2 (h : sm_H) (d : Nat) (zf zw zl za zn : Int) : mj_path [(122, (6, 1, sb_122)), (16, (3, 0, sb_16)), (49, (2, 1, sb_49))] sx_sk h 19 [0, 0] (d + 1, 122, 61, [some (.inr (.inr 107)), some (.inl (zf)), some (.inl (zw)), some (.inl (zl)), some (.inl (za)), some (.inl (zn))], [], [], []) = some ((d + 1, 122, 77, [some (.inr (.inr 107)), some (.inl (zf)), some (.inl (zn)), some (.inl (mi_a h 87 (Int.toNat za))), some (.inl (za)), some (.inl (zn))], [], [], []), [((0 : Int)) ≤ za, za < ((66 : Int)), 0 ≤ za ∧ za < 66]) := rfl
theorem mi_tab_kglD_2 : ∀ e ∈ ([(122, (6, 1, sb_122)), (16, (3, 0, sb_16)), (49, (2, 1, sb_49))] : mi_T), sc_P e.1 = some e.2 := mi_tb mi_P122 (mi_tb mi_P16 (mi_tb mi_P49 (mi_tb_e)))
set_option maxRecDepth 20000 in
theorem ms_kglD_2 {h : sm_H} {d : Nat} {Q : Option mi_V → sm_H → Prop} {zf zw zl za zn : Int} (hS : ab_Sh sx_sk h) (ok_zf : mi_in zf) (ok_zw : mi_in zw) (ok_zl : mi_in zl) (ok_za : mi_in za) (ok_zn : mi_in zn) (ho : (((0 : Int)) ≤ za) ∧ (za < ((66 : Int))) ∧ (0 ≤ za ∧ za < 66)) (kon : ∀ h1, me_W [] h h1 → me_E (d + 1) 122 77 [some (.inr (.inr 107)), some (.inl (zf)), some (.inl (zn)), some (.inl (mi_a h 87 (Int.toNat za))), some (.inl (za)), some (.inl (zn))] [] h1 Q) : me_E (d + 1) 122 61 [some (.inr (.inr 107)), some (.inl (zf)), some (.inl (zw)), some (.inl (zl)), some (.inl (za)), some (.inl (zn))] [] h Q := mf_seg (mp_kglD_2 h d zf zw zl za zn) (mi_tab_kglD_2) hS (mi_okL_c (trivial) (mi_okL_c (ok_zf) (mi_okL_c (ok_zw) (mi_okL_c (ok_zl) (mi_okL_c (ok_za) (mi_okL_c (ok_zn) (mi_okL_e))))))) (mi_okS_e) (mi_al (ho.1) (mi_al (ho.2.1) (mi_al (ho.2.2) (mi_al_e)))) (fun h1 W _ hst => kon h1 W)
set_option maxRecDepth 20000 in
theorem mt_kglD {h : sm_H} {d : Nat} {Q : Option mi_V → sm_H → Prop} {zf zw zl za zn : Int} (hS : ab_Sh sx_sk h) (ok_zf : mi_in zf) (ok_zw : mi_in zw) (ok_zl : mi_in zl) (ok_za : mi_in za) (ok_zn : mi_in zn) (k0 : (za < ((0 : Int))) → (∀ h1, ab_Sh sx_sk h1 → ab_Fr [] h h1 → me_E (d + 1) 122 77 [some (.inr (.inr 107)), some (.inl (zf)), some (.inl (zn)), some (.inl ((0 : Int))), some (.inl (za)), some (.inl (zn))] [] h1 Q)) (k1 : (((0 : Int)) ≤ za) → (((66 : Int)) ≤ za) → (∀ h1, ab_Sh sx_sk h1 → ab_Fr [] h h1 → me_E (d + 1) 122 77 [some (.inr (.inr 107)), some (.inl (zf)), some (.inl (zn)), some (.inl ((0 : Int))), some (.inl (za)), some (.inl (zn))] [] h1 Q)) (k2 : (((0 : Int)) ≤ za) → (za < ((66 : Int))) → ((0 ≤ za ∧ za < 66)) ∧ (∀ h1, ab_Sh sx_sk h1 → ab_Fr [] h h1 → me_E (d + 1) 122 77 [some (.inr (.inr 107)), some (.inl (zf)), some (.inl (zn)), some (.inl (mi_a h 87 (Int.toNat za))), some (.inl (za)), some (.inl (zn))] [] h1 Q)) : me_E (d + 1) 122 61 [some (.inr (.inr 107)), some (.inl (zf)), some (.inl (zw)), some (.inl (zl)), some (.inl (za)), some (.inl (zn))] [] h Q := Or.elim (mi_em .lt (za) (((0 : Int)))) (fun c0 => ms_kglD_0 hS ok_zf ok_zw ok_zl ok_za ok_zn (c0) (fun h1 W => (k0 c0) h1 W.1 (W.2.2.2.2.2 _ rfl))) (fun c0 => Or.elim (mi_em .ge (za) (((66 : Int)))) (fun c1 => ms_kglD_1 hS ok_zf ok_zw ok_zl ok_za ok_zn ⟨c0, c1⟩ (fun h1 W => (k1 c0 c1) h1 W.1 (W.2.2.2.2.2 _ rfl))) (fun c1 => ms_kglD_2 hS ok_zf ok_zw ok_zl ok_za ok_zn ⟨c0, c1, (k2 c0 c1).1⟩ (fun h1 W => (k2 c0 c1).2 h1 W.1 (W.2.2.2.2.2 _ rfl))))
set_option maxRecDepth 20000 in
theorem mp_kglE_0 (h : sm_H) (d : Nat) (zf zw zl za zn : Int) : mj_path [(122, (6, 1, sb_122)), (16, (3, 0, sb_16)), (49, (2, 1, sb_49))] sx_sk h 12 [1] (d + 1, 122, 77, [some (.inr (.inr 107)), some (.inl (zf)), some (.inl (zw)), some (.inl (zl)), some (.inl (za)), some (.inl (zn))], [], [], []) = some ((d + 1, 122, 22, [some (.inr (.inr 107)), some (.inl (zf)), some (.inl (zw)), some (.inl (zl)), some (.inl ((0 : Int))), some (.inl (zn + 1))], [], [], []), [za < ((0 : Int)), -2147483648 ≤ zn + 1 ∧ zn + 1 ≤ 2147483647]) := rfl
theorem mi_tab_kglE_0 : ∀ e ∈ ([(122, (6, 1, sb_122)), (16, (3, 0, sb_16)), (49, (2, 1, sb_49))] : mi_T), sc_P e.1 = some e.2 := mi_tb mi_P122 (mi_tb mi_P16 (mi_tb mi_P49 (mi_tb_e)))
set_option maxRecDepth 20000 in
theorem ms_kglE_0 {h : sm_H} {d : Nat} {Q : Option mi_V → sm_H → Prop} {zf zw zl za zn : Int} (hS : ab_Sh sx_sk h) (ok_zf : mi_in zf) (ok_zw : mi_in zw) (ok_zl : mi_in zl) (ok_za : mi_in za) (ok_zn : mi_in zn) (ho : (za < ((0 : Int))) ∧ (-2147483648 ≤ zn + 1 ∧ zn + 1 ≤ 2147483647)) (kon : ∀ h1, me_W [] h h1 → me_E (d + 1) 122 22 [some (.inr (.inr 107)), some (.inl (zf)), some (.inl (zw)), some (.inl (zl)), some (.inl ((0 : Int))), some (.inl (zn + 1))] [] h1 Q) : me_E (d + 1) 122 77 [some (.inr (.inr 107)), some (.inl (zf)), some (.inl (zw)), some (.inl (zl)), some (.inl (za)), some (.inl (zn))] [] h Q := mf_seg (mp_kglE_0 h d zf zw zl za zn) (mi_tab_kglE_0) hS (mi_okL_c (trivial) (mi_okL_c (ok_zf) (mi_okL_c (ok_zw) (mi_okL_c (ok_zl) (mi_okL_c (ok_za) (mi_okL_c (ok_zn) (mi_okL_e))))))) (mi_okS_e) (mi_al (ho.1) (mi_al (ho.2) (mi_al_e))) (fun h1 W _ hst => kon h1 W)
set_option maxRecDepth 20000 in
theorem mp_kglE_1 (h : sm_H) (d : Nat) (zf zw zl za zn : Int) : mj_path [(122, (6, 1, sb_122)), (16, (3, 0, sb_16)), (49, (2, 1, sb_49))] sx_sk h 16 [0, 1] (d + 1, 122, 77, [some (.inr (.inr 107)), some (.inl (zf)), some (.inl (zw)), some (.inl (zl)), some (.inl (za)), some (.inl (zn))], [], [], []) = some ((d + 1, 122, 22, [some (.inr (.inr 107)), some (.inl (zf)), some (.inl (zw)), some (.inl (zl)), some (.inl ((0 : Int))), some (.inl (zn + 1))], [], [], []), [((0 : Int)) ≤ za, ((66 : Int)) ≤ za, -2147483648 ≤ zn + 1 ∧ zn + 1 ≤ 2147483647]) := rfl
theorem mi_tab_kglE_1 : ∀ e ∈ ([(122, (6, 1, sb_122)), (16, (3, 0, sb_16)), (49, (2, 1, sb_49))] : mi_T), sc_P e.1 = some e.2 := mi_tb mi_P122 (mi_tb mi_P16 (mi_tb mi_P49 (mi_tb_e)))
set_option maxRecDepth 20000 in
theorem ms_kglE_1 {h : sm_H} {d : Nat} {Q : Option mi_V → sm_H → Prop} {zf zw zl za zn : Int} (hS : ab_Sh sx_sk h) (ok_zf : mi_in zf) (ok_zw : mi_in zw) (ok_zl : mi_in zl) (ok_za : mi_in za) (ok_zn : mi_in zn) (ho : (((0 : Int)) ≤ za) ∧ (((66 : Int)) ≤ za) ∧ (-2147483648 ≤ zn + 1 ∧ zn + 1 ≤ 2147483647)) (kon : ∀ h1, me_W [] h h1 → me_E (d + 1) 122 22 [some (.inr (.inr 107)), some (.inl (zf)), some (.inl (zw)), some (.inl (zl)), some (.inl ((0 : Int))), some (.inl (zn + 1))] [] h1 Q) : me_E (d + 1) 122 77 [some (.inr (.inr 107)), some (.inl (zf)), some (.inl (zw)), some (.inl (zl)), some (.inl (za)), some (.inl (zn))] [] h Q := mf_seg (mp_kglE_1 h d zf zw zl za zn) (mi_tab_kglE_1) hS (mi_okL_c (trivial) (mi_okL_c (ok_zf) (mi_okL_c (ok_zw) (mi_okL_c (ok_zl) (mi_okL_c (ok_za) (mi_okL_c (ok_zn) (mi_okL_e))))))) (mi_okS_e) (mi_al (ho.1) (mi_al (ho.2.1) (mi_al (ho.2.2) (mi_al_e)))) (fun h1 W _ hst => kon h1 W)
set_option maxRecDepth 20000 in
theorem mp_kglE_2 (h : sm_H) (d : Nat) (zf zw zl za zn : Int) : mj_path [(122, (6, 1, sb_122)), (16, (3, 0, sb_16)), (49, (2, 1, sb_49))] sx_sk h 19 [0, 0] (d + 1, 122, 77, [some (.inr (.inr 107)), some (.inl (zf)), some (.inl (zw)), some (.inl (zl)), some (.inl (za)), some (.inl (zn))], [], [], []) = some ((d + 1, 122, 22, [some (.inr (.inr 107)), some (.inl (zf)), some (.inl (zw)), some (.inl (zl)), some (.inl (mi_a h 66 (Int.toNat za))), some (.inl (zn + 1))], [], [], []), [((0 : Int)) ≤ za, za < ((66 : Int)), 0 ≤ za ∧ za < 66, -2147483648 ≤ zn + 1 ∧ zn + 1 ≤ 2147483647]) := rfl
theorem mi_tab_kglE_2 : ∀ e ∈ ([(122, (6, 1, sb_122)), (16, (3, 0, sb_16)), (49, (2, 1, sb_49))] : mi_T), sc_P e.1 = some e.2 := mi_tb mi_P122 (mi_tb mi_P16 (mi_tb mi_P49 (mi_tb_e)))
set_option maxRecDepth 20000 in
theorem ms_kglE_2 {h : sm_H} {d : Nat} {Q : Option mi_V → sm_H → Prop} {zf zw zl za zn : Int} (hS : ab_Sh sx_sk h) (ok_zf : mi_in zf) (ok_zw : mi_in zw) (ok_zl : mi_in zl) (ok_za : mi_in za) (ok_zn : mi_in zn) (ho : (((0 : Int)) ≤ za) ∧ (za < ((66 : Int))) ∧ (0 ≤ za ∧ za < 66) ∧ (-2147483648 ≤ zn + 1 ∧ zn + 1 ≤ 2147483647)) (kon : ∀ h1, me_W [] h h1 → me_E (d + 1) 122 22 [some (.inr (.inr 107)), some (.inl (zf)), some (.inl (zw)), some (.inl (zl)), some (.inl (mi_a h 66 (Int.toNat za))), some (.inl (zn + 1))] [] h1 Q) : me_E (d + 1) 122 77 [some (.inr (.inr 107)), some (.inl (zf)), some (.inl (zw)), some (.inl (zl)), some (.inl (za)), some (.inl (zn))] [] h Q := mf_seg (mp_kglE_2 h d zf zw zl za zn) (mi_tab_kglE_2) hS (mi_okL_c (trivial) (mi_okL_c (ok_zf) (mi_okL_c (ok_zw) (mi_okL_c (ok_zl) (mi_okL_c (ok_za) (mi_okL_c (ok_zn) (mi_okL_e))))))) (mi_okS_e) (mi_al (ho.1) (mi_al (ho.2.1) (mi_al (ho.2.2.1) (mi_al (ho.2.2.2) (mi_al_e))))) (fun h1 W _ hst => kon h1 W)
set_option maxRecDepth 20000 in
theorem mt_kglE {h : sm_H} {d : Nat} {Q : Option mi_V → sm_H → Prop} {zf zw zl za zn : Int} (hS : ab_Sh sx_sk h) (ok_zf : mi_in zf) (ok_zw : mi_in zw) (ok_zl : mi_in zl) (ok_za : mi_in za) (ok_zn : mi_in zn) (k0 : (za < ((0 : Int))) → ((-2147483648 ≤ zn + 1 ∧ zn + 1 ≤ 2147483647)) ∧ (∀ h1, ab_Sh sx_sk h1 → ab_Fr [] h h1 → me_E (d + 1) 122 22 [some (.inr (.inr 107)), some (.inl (zf)), some (.inl (zw)), some (.inl (zl)), some (.inl ((0 : Int))), some (.inl (zn + 1))] [] h1 Q)) (k1 : (((0 : Int)) ≤ za) → (((66 : Int)) ≤ za) → ((-2147483648 ≤ zn + 1 ∧ zn + 1 ≤ 2147483647)) ∧ (∀ h1, ab_Sh sx_sk h1 → ab_Fr [] h h1 → me_E (d + 1) 122 22 [some (.inr (.inr 107)), some (.inl (zf)), some (.inl (zw)), some (.inl (zl)), some (.inl ((0 : Int))), some (.inl (zn + 1))] [] h1 Q)) (k2 : (((0 : Int)) ≤ za) → (za < ((66 : Int))) → ((0 ≤ za ∧ za < 66) ∧ (-2147483648 ≤ zn + 1 ∧ zn + 1 ≤ 2147483647)) ∧ (∀ h1, ab_Sh sx_sk h1 → ab_Fr [] h h1 → me_E (d + 1) 122 22 [some (.inr (.inr 107)), some (.inl (zf)), some (.inl (zw)), some (.inl (zl)), some (.inl (mi_a h 66 (Int.toNat za))), some (.inl (zn + 1))] [] h1 Q)) : me_E (d + 1) 122 77 [some (.inr (.inr 107)), some (.inl (zf)), some (.inl (zw)), some (.inl (zl)), some (.inl (za)), some (.inl (zn))] [] h Q := Or.elim (mi_em .lt (za) (((0 : Int)))) (fun c0 => ms_kglE_0 hS ok_zf ok_zw ok_zl ok_za ok_zn ⟨c0, (k0 c0).1⟩ (fun h1 W => (k0 c0).2 h1 W.1 (W.2.2.2.2.2 _ rfl))) (fun c0 => Or.elim (mi_em .ge (za) (((66 : Int)))) (fun c1 => ms_kglE_1 hS ok_zf ok_zw ok_zl ok_za ok_zn ⟨c0, c1, (k1 c0 c1).1⟩ (fun h1 W => (k1 c0 c1).2 h1 W.1 (W.2.2.2.2.2 _ rfl))) (fun c1 => ms_kglE_2 hS ok_zf ok_zw ok_zl ok_za ok_zn ⟨c0, c1, (k2 c0 c1).1.1, (k2 c0 c1).1.2⟩ (fun h1 W => (k2 c0 c1).2 h1 W.1 (W.2.2.2.2.2 _ rfl))))
set_option maxRecDepth 20000 in
theorem mp_kglF_0 (h : sm_H) (d : Nat) (zf zw zl za zn : Int) : mj_path [(122, (6, 1, sb_122))] sx_sk h 1 [] (d + 1, 122, 97, [some (.inr (.inr 107)), some (.inl (zf)), some (.inl (zw)), some (.inl (zl)), some (.inl (za)), some (.inl (zn))], [], [], []) = some ((d + 1, 122, 98, [some (.inr (.inr 107)), some (.inl (zf)), some (.inl (zw)), some (.inl (zl)), some (.inl (za)), some (.inl (zn))], [.inl (zw)], [], []), []) := rfl
theorem mi_tab_kglF_0 : ∀ e ∈ ([(122, (6, 1, sb_122))] : mi_T), sc_P e.1 = some e.2 := mi_tb mi_P122 (mi_tb_e)
set_option maxRecDepth 20000 in
theorem ms_kglF_0 {h : sm_H} {d : Nat} {Q : Option mi_V → sm_H → Prop} {zf zw zl za zn : Int} (hS : ab_Sh sx_sk h) (ok_zf : mi_in zf) (ok_zw : mi_in zw) (ok_zl : mi_in zl) (ok_za : mi_in za) (ok_zn : mi_in zn) (kon : ∀ h1, me_W [] h h1 → Q (some (.inl (zw))) h1) : me_E (d + 1) 122 97 [some (.inr (.inr 107)), some (.inl (zf)), some (.inl (zw)), some (.inl (zl)), some (.inl (za)), some (.inl (zn))] [] h Q := mf_seg (mp_kglF_0 h d zf zw zl za zn) (mi_tab_kglF_0) hS (mi_okL_c (trivial) (mi_okL_c (ok_zf) (mi_okL_c (ok_zw) (mi_okL_c (ok_zl) (mi_okL_c (ok_za) (mi_okL_c (ok_zn) (mi_okL_e))))))) (mi_okS_e) (mi_al_e) (fun h1 W _ hst => mf_ret (M := (6, 1, sb_122)) rfl rfl rfl hst (mi_al_e) (kon h1 W))
set_option maxRecDepth 20000 in
theorem mt_kglF {h : sm_H} {d : Nat} {Q : Option mi_V → sm_H → Prop} {zf zw zl za zn : Int} (hS : ab_Sh sx_sk h) (ok_zf : mi_in zf) (ok_zw : mi_in zw) (ok_zl : mi_in zl) (ok_za : mi_in za) (ok_zn : mi_in zn) (k0 : (∀ h1, ab_Sh sx_sk h1 → ab_Fr [] h h1 → Q (some (.inl (zw))) h1)) : me_E (d + 1) 122 97 [some (.inr (.inr 107)), some (.inl (zf)), some (.inl (zw)), some (.inl (zl)), some (.inl (za)), some (.inl (zn))] [] h Q := ms_kglF_0 hS ok_zf ok_zw ok_zl ok_za ok_zn (fun h1 W => (k0) h1 W.1 (W.2.2.2.2.2 _ rfl))
/-! segments of the class: Growing -/
set_option maxRecDepth 20000 in
theorem mp_kgaA_0 (h : sm_H) (d : Nat) (zf zw : Int) : mj_path [(127, (5, 1, sb_127)), (16, (3, 0, sb_16)), (49, (2, 1, sb_49))] sx_sk h 11 [1] (d + 1, 127, 0, [some (.inr (.inr 60)), some (.inl (zf)), some (.inl (zw)), none, none], [], [], []) = some ((d + 1, 127, 12, [some (.inr (.inr 60)), some (.inl (zf)), some (.inl (zw)), some (.inl ((0 : Int))), some (.inl ((0 : Int)))], [], [], []), [zf < ((0 : Int))]) := rfl
theorem mi_tab_kgaA_0 : ∀ e ∈ ([(127, (5, 1, sb_127)), (16, (3, 0, sb_16)), (49, (2, 1, sb_49))] : mi_T), sc_P e.1 = some e.2 := mi_tb mi_P127 (mi_tb mi_P16 (mi_tb mi_P49 (mi_tb_e)))
set_option maxRecDepth 20000 in
theorem ms_kgaA_0 {h : sm_H} {d : Nat} {Q : Option mi_V → sm_H → Prop} {zf zw : Int} (hS : ab_Sh sx_sk h) (ok_zf : mi_in zf) (ok_zw : mi_in zw) (ho : (zf < ((0 : Int)))) (kon : ∀ h1, me_W [] h h1 → me_E (d + 1) 127 12 [some (.inr (.inr 60)), some (.inl (zf)), some (.inl (zw)), some (.inl ((0 : Int))), some (.inl ((0 : Int)))] [] h1 Q) : me_E (d + 1) 127 0 [some (.inr (.inr 60)), some (.inl (zf)), some (.inl (zw)), none, none] [] h Q := mf_seg (mp_kgaA_0 h d zf zw) (mi_tab_kgaA_0) hS (mi_okL_c (trivial) (mi_okL_c (ok_zf) (mi_okL_c (ok_zw) (mi_okL_n (mi_okL_n (mi_okL_e)))))) (mi_okS_e) (mi_al (ho) (mi_al_e)) (fun h1 W _ hst => kon h1 W)
set_option maxRecDepth 20000 in
theorem mp_kgaA_1 (h : sm_H) (d : Nat) (zf zw : Int) : mj_path [(127, (5, 1, sb_127)), (16, (3, 0, sb_16)), (49, (2, 1, sb_49))] sx_sk h 15 [0, 1] (d + 1, 127, 0, [some (.inr (.inr 60)), some (.inl (zf)), some (.inl (zw)), none, none], [], [], []) = some ((d + 1, 127, 12, [some (.inr (.inr 60)), some (.inl (zf)), some (.inl (zw)), some (.inl ((0 : Int))), some (.inl ((0 : Int)))], [], [], []), [((0 : Int)) ≤ zf, ((70 : Int)) ≤ zf]) := rfl
theorem mi_tab_kgaA_1 : ∀ e ∈ ([(127, (5, 1, sb_127)), (16, (3, 0, sb_16)), (49, (2, 1, sb_49))] : mi_T), sc_P e.1 = some e.2 := mi_tb mi_P127 (mi_tb mi_P16 (mi_tb mi_P49 (mi_tb_e)))
set_option maxRecDepth 20000 in
theorem ms_kgaA_1 {h : sm_H} {d : Nat} {Q : Option mi_V → sm_H → Prop} {zf zw : Int} (hS : ab_Sh sx_sk h) (ok_zf : mi_in zf) (ok_zw : mi_in zw) (ho : (((0 : Int)) ≤ zf) ∧ (((70 : Int)) ≤ zf)) (kon : ∀ h1, me_W [] h h1 → me_E (d + 1) 127 12 [some (.inr (.inr 60)), some (.inl (zf)), some (.inl (zw)), some (.inl ((0 : Int))), some (.inl ((0 : Int)))] [] h1 Q) : me_E (d + 1) 127 0 [some (.inr (.inr 60)), some (.inl (zf)), some (.inl (zw)), none, none] [] h Q := mf_seg (mp_kgaA_1 h d zf zw) (mi_tab_kgaA_1) hS (mi_okL_c (trivial) (mi_okL_c (ok_zf) (mi_okL_c (ok_zw) (mi_okL_n (mi_okL_n (mi_okL_e)))))) (mi_okS_e) (mi_al (ho.1) (mi_al (ho.2) (mi_al_e))) (fun h1 W _ hst => kon h1 W)
set_option maxRecDepth 20000 in
theorem mp_kgaA_2 (h : sm_H) (d : Nat) (zf zw : Int) : mj_path [(127, (5, 1, sb_127)), (16, (3, 0, sb_16)), (49, (2, 1, sb_49))] sx_sk h 18 [0, 0] (d + 1, 127, 0, [some (.inr (.inr 60)), some (.inl (zf)), some (.inl (zw)), none, none], [], [], []) = some ((d + 1, 127, 12, [some (.inr (.inr 60)), some (.inl (zf)), some (.inl (zw)), some (.inl (mi_a h 63 (Int.toNat zf))), some (.inl ((0 : Int)))], [], [], []), [((0 : Int)) ≤ zf, zf < ((70 : Int)), 0 ≤ zf ∧ zf < 70]) := rfl
theorem mi_tab_kgaA_2 : ∀ e ∈ ([(127, (5, 1, sb_127)), (16, (3, 0, sb_16)), (49, (2, 1, sb_49))] : mi_T), sc_P e.1 = some e.2 := mi_tb mi_P127 (mi_tb mi_P16 (mi_tb mi_P49 (mi_tb_e)))
set_option maxRecDepth 20000 in
theorem ms_kgaA_2 {h : sm_H} {d : Nat} {Q : Option mi_V → sm_H → Prop} {zf zw : Int} (hS : ab_Sh sx_sk h) (ok_zf : mi_in zf) (ok_zw : mi_in zw) (ho : (((0 : Int)) ≤ zf) ∧ (zf < ((70 : Int))) ∧ (0 ≤ zf ∧ zf < 70)) (kon : ∀ h1, me_W [] h h1 → me_E (d + 1) 127 12 [some (.inr (.inr 60)), some (.inl (zf)), some (.inl (zw)), some (.inl (mi_a h 63 (Int.toNat zf))), some (.inl ((0 : Int)))] [] h1 Q) : me_E (d + 1) 127 0 [some (.inr (.inr 60)), some (.inl (zf)), some (.inl (zw)), none, none] [] h Q := mf_seg (mp_kgaA_2 h d zf zw) (mi_tab_kgaA_2) hS (mi_okL_c (trivial) (mi_okL_c (ok_zf) (mi_okL_c (ok_zw) (mi_okL_n (mi_okL_n (mi_okL_e)))))) (mi_okS_e) (mi_al (ho.1) (mi_al (ho.2.1) (mi_al (ho.2.2) (mi_al_e)))) (fun h1 W _ hst => kon h1 W)
set_option maxRecDepth 20000 in
theorem mt_kgaA {h : sm_H} {d : Nat} {Q : Option mi_V → sm_H → Prop} {zf zw : Int} (hS : ab_Sh sx_sk h) (ok_zf : mi_in zf) (ok_zw : mi_in zw) (k0 : (zf < ((0 : Int))) → (∀ h1, ab_Sh sx_sk h1 → ab_Fr [] h h1 → me_E (d + 1) 127 12 [some (.inr (.inr 60)), some (.inl (zf)), some (.inl (zw)), some (.inl ((0 : Int))), some (.inl ((0 : Int)))] [] h1 Q)) (k1 : (((0 : Int)) ≤ zf) → (((70 : Int)) ≤ zf) → (∀ h1, ab_Sh sx_sk h1 → ab_Fr [] h h1 → me_E (d + 1) 127 12 [some (.inr (.inr 60)), some (.inl (zf)), some (.inl (zw)), some (.inl ((0 : Int))), some (.inl ((0 : Int)))] [] h1 Q)) (k2 : (((0 : Int)) ≤ zf) → (zf < ((70 : Int))) → ((0 ≤ zf ∧ zf < 70)) ∧ (∀ h1, ab_Sh sx_sk h1 → ab_Fr [] h h1 → me_E (d + 1) 127 12 [some (.inr (.inr 60)), some (.inl (zf)), some (.inl (zw)), some (.inl (mi_a h 63 (Int.toNat zf))), some (.inl ((0 : Int)))] [] h1 Q)) : me_E (d + 1) 127 0 [some (.inr (.inr 60)), some (.inl (zf)), some (.inl (zw)), none, none] [] h Q := Or.elim (mi_em .lt (zf) (((0 : Int)))) (fun c0 => ms_kgaA_0 hS ok_zf ok_zw (c0) (fun h1 W => (k0 c0) h1 W.1 (W.2.2.2.2.2 _ rfl))) (fun c0 => Or.elim (mi_em .ge (zf) (((70 : Int)))) (fun c1 => ms_kgaA_1 hS ok_zf ok_zw ⟨c0, c1⟩ (fun h1 W => (k1 c0 c1) h1 W.1 (W.2.2.2.2.2 _ rfl))) (fun c1 => ms_kgaA_2 hS ok_zf ok_zw ⟨c0, c1, (k2 c0 c1).1⟩ (fun h1 W => (k2 c0 c1).2 h1 W.1 (W.2.2.2.2.2 _ rfl))))
set_option maxRecDepth 20000 in
theorem mp_kgaB_0 (h : sm_H) (d : Nat) (zf zw za zn : Int) : mj_path [(127, (5, 1, sb_127)), (16, (3, 0, sb_16)), (49, (2, 1, sb_49))] sx_sk h 4 [1] (d + 1, 127, 12, [some (.inr (.inr 60)), some (.inl (zf)), some (.inl (zw)), some (.inl (za)), some (.inl (zn))], [], [], []) = some ((d + 1, 127, 41, [some (.inr (.inr 60)), some (.inl (zf)), some (.inl (zw)), some (.inl (za)), some (.inl (zn))], [.inl (za)], [], []), [zw ≤ zn]) := rfl
theorem mi_tab_kgaB_0 : ∀ e ∈ ([(127, (5, 1, sb_127)), (16, (3, 0, sb_16)), (49, (2, 1, sb_49))] : mi_T), sc_P e.1 = some e.2 := mi_tb mi_P127 (mi_tb mi_P16 (mi_tb mi_P49 (mi_tb_e)))
set_option maxRecDepth 20000 in
theorem ms_kgaB_0 {h : sm_H} {d : Nat} {Q : Option mi_V → sm_H → Prop} {zf zw za zn : Int} (hS : ab_Sh sx_sk h) (ok_zf : mi_in zf) (ok_zw : mi_in zw) (ok_za : mi_in za) (ok_zn : mi_in zn) (ho : (zw ≤ zn)) (kon : ∀ h1, me_W [] h h1 → Q (some (.inl (za))) h1) : me_E (d + 1) 127 12 [some (.inr (.inr 60)), some (.inl (zf)), some (.inl (zw)), some (.inl (za)), some (.inl (zn))] [] h Q := mf_seg (mp_kgaB_0 h d zf zw za zn) (mi_tab_kgaB_0) hS (mi_okL_c (trivial) (mi_okL_c (ok_zf) (mi_okL_c (ok_zw) (mi_okL_c (ok_za) (mi_okL_c (ok_zn) (mi_okL_e)))))) (mi_okS_e) (mi_al (ho) (mi_al_e)) (fun h1 W _ hst => mf_ret (M := (5, 1, sb_127)) rfl rfl rfl hst (mi_al_e) (kon h1 W))
set_option maxRecDepth 20000 in
theorem mp_kgaB_1 (h : sm_H) (d : Nat) (zf zw za zn : Int) : mj_path [(127, (5, 1, sb_127)), (16, (3, 0, sb_16)), (49, (2, 1, sb_49))] sx_sk h 7 [0, 1] (d + 1, 127, 12, [some (.inr (.inr 60)), some (.inl (zf)), some (.inl (zw)), some (.inl (za)), some (.inl (zn))], [], [], []) = some ((d + 1, 127, 41, [some (.inr (.inr 60)), some (.inl (zf)), some (.inl (zw)), some (.inl (za)), some (.inl (zn))], [.inl (za)], [], []), [zn < zw, ((6 : Int)) ≤ zn]) := rfl
theorem mi_tab_kgaB_1 : ∀ e ∈ ([(127, (5, 1, sb_127)), (16, (3, 0, sb_16)), (49, (2, 1, sb_49))] : mi_T), sc_P e.1 = some e.2 := mi_tb mi_P127 (mi_tb mi_P16 (mi_tb mi_P49 (mi_tb_e)))
set_option maxRecDepth 20000 in
theorem ms_kgaB_1 {h : sm_H} {d : Nat} {Q : Option mi_V → sm_H → Prop} {zf zw za zn : Int} (hS : ab_Sh sx_sk h) (ok_zf : mi_in zf) (ok_zw : mi_in zw) (ok_za : mi_in za) (ok_zn : mi_in zn) (ho : (zn < zw) ∧ (((6 : Int)) ≤ zn)) (kon : ∀ h1, me_W [] h h1 → Q (some (.inl (za))) h1) : me_E (d + 1) 127 12 [some (.inr (.inr 60)), some (.inl (zf)), some (.inl (zw)), some (.inl (za)), some (.inl (zn))] [] h Q := mf_seg (mp_kgaB_1 h d zf zw za zn) (mi_tab_kgaB_1) hS (mi_okL_c (trivial) (mi_okL_c (ok_zf) (mi_okL_c (ok_zw) (mi_okL_c (ok_za) (mi_okL_c (ok_zn) (mi_okL_e)))))) (mi_okS_e) (mi_al (ho.1) (mi_al (ho.2) (mi_al_e))) (fun h1 W _ hst => mf_ret (M := (5, 1, sb_127)) rfl rfl rfl hst (mi_al_e) (kon h1 W))
set_option maxRecDepth 20000 in
theorem mp_kgaB_2 (h : sm_H) (d : Nat) (zf zw za zn : Int) : mj_path [(127, (5, 1, sb_127)), (16, (3, 0, sb_16)), (49, (2, 1, sb_49))] sx_sk h 17 [0, 0, 1] (d + 1, 127, 12, [some (.inr (.inr 60)), some (.inl (zf)), some (.inl (zw)), some (.inl (za)), some (.inl (zn))], [], [], []) = some ((d + 1, 127, 12, [some (.inr (.inr 60)), some (.inl (zf)), some (.inl (zw)), some (.inl ((0 : Int))), some (.inl (zn + 1))], [], [], []), [zn < zw, zn < ((6 : Int)), za < ((0 : Int)), -2147483648 ≤ zn + 1 ∧ zn + 1 ≤ 2147483647]) := rfl
theorem mi_tab_kgaB_2 : ∀ e ∈ ([(127, (5, 1, sb_127)), (16, (3, 0, sb_16)), (49, (2, 1, sb_49))] : mi_T), sc_P e.1 = some e.2 := mi_tb mi_P127 (mi_tb mi_P16 (mi_tb mi_P49 (mi_tb_e)))
set_option maxRecDepth 20000 in
theorem ms_kgaB_2 {h : sm_H} {d : Nat} {Q : Option mi_V → sm_H → Prop} {zf zw za zn : Int} (hS : ab_Sh sx_sk h) (ok_zf : mi_in zf) (ok_zw : mi_in zw) (ok_za : mi_in za) (ok_zn : mi_in zn) (ho : (zn < zw) ∧ (zn < ((6 : Int))) ∧ (za < ((0 : Int))) ∧ (-2147483648 ≤ zn + 1 ∧ zn + 1 ≤ 2147483647)) (kon : ∀ h1, me_W [] h h1 → me_E (d + 1) 127 12 [some (.inr (.inr 60)), some (.inl (zf)), some (.inl (zw)), some (.inl ((0 : Int))), some (.inl (zn + 1))] [] h1 Q) : me_E (d + 1) 127 12 [some (.inr (.inr 60)), some (.inl (zf)), some (.inl (zw)), some (.inl (za)), some (.inl (zn))] [] h Q := mf_seg (mp_kgaB_2 h d zf zw za zn) (mi_tab_kgaB_2) hS (mi_okL_c (trivial) (mi_okL_c (ok_zf) (mi_okL_c (ok_zw) (mi_okL_c (ok_za) (mi_okL_c (ok_zn) (mi_okL_e)))))) (mi_okS_e) (mi_al (ho.1) (mi_al (ho.2.1) (mi_al (ho.2.2.1) (mi_al (ho.2.2.2) (mi_al_e))))) (fun h1 W _ hst => kon h1 W)
set_option maxRecDepth 20000 in
theorem mp_kgaB_3 (h : sm_H) (d : Nat) (zf zw za zn : Int) : mj_path [(127, (5, 1, sb_127)), (16, (3, 0, sb_16)), (49, (2, 1, sb_49))] sx_sk h 21 [0, 0, 0, 1] (d + 1, 127, 12, [some (.inr (.inr 60)), some (.inl (zf)), some (.inl (zw)), some (.inl (za)), some (.inl (zn))], [], [], []) = some ((d + 1, 127, 12, [some (.inr (.inr 60)), some (.inl (zf)), some (.inl (zw)), some (.inl ((0 : Int))), some (.inl (zn + 1))], [], [], []), [zn < zw, zn < ((6 : Int)), ((0 : Int)) ≤ za, ((66 : Int)) ≤ za, -2147483648 ≤ zn + 1 ∧ zn + 1 ≤ 2147483647]) := rfl
theorem mi_tab_kgaB_3 : ∀ e ∈ ([(127, (5, 1, sb_127)), (16, (3, 0, sb_16)), (49, (2, 1, sb_49))] : mi_T), sc_P e.1 = some e.2 := mi_tb mi_P127 (mi_tb mi_P16 (mi_tb mi_P49 (mi_tb_e)))
set_option maxRecDepth 20000 in
theorem ms_kgaB_3 {h : sm_H} {d : Nat} {Q : Option mi_V → sm_H → Prop} {zf zw za zn : Int} (hS : ab_Sh sx_sk h) (ok_zf : mi_in zf) (ok_zw : mi_in zw) (ok_za : mi_in za) (ok_zn : mi_in zn) (ho : (zn < zw) ∧ (zn < ((6 : Int))) ∧ (((0 : Int)) ≤ za) ∧ (((66 : Int)) ≤ za) ∧ (-2147483648 ≤ zn + 1 ∧ zn + 1 ≤ 2147483647)) (kon : ∀ h1, me_W [] h h1 → me_E (d + 1) 127 12 [some (.inr (.inr 60)), some (.inl (zf)), some (.inl (zw)), some (.inl ((0 : Int))), some (.inl (zn + 1))] [] h1 Q) : me_E (d + 1) 127 12 [some (.inr (.inr 60)), some (.inl (zf)), some (.inl (zw)), some (.inl (za)), some (.inl (zn))] [] h Q := mf_seg (mp_kgaB_3 h d zf zw za zn) (mi_tab_kgaB_3) hS (mi_okL_c (trivial) (mi_okL_c (ok_zf) (mi_okL_c (ok_zw) (mi_okL_c (ok_za) (mi_okL_c (ok_zn) (mi_okL_e)))))) (mi_okS_e) (mi_al (ho.1) (mi_al (ho.2.1) (mi_al (ho.2.2.1) (mi_al (ho.2.2.2.1) (mi_al (ho.2.2.2.2) (mi_al_e)))))) (fun h1 W _ hst => kon h1 W)
set_option maxRecDepth 20000 in
theorem mp_kgaB_4 (h : sm_H) (d : Nat) (zf zw za zn : Int) : mj_path [(127, (5, 1, sb_127)), (16, (3, 0, sb_16)), (49, (2, 1, sb_49))] sx_sk h 24 [0, 0, 0, 0] (d + 1, 127, 12, [some (.inr (.inr 60)), some (.inl (zf)), some (.inl (zw)), some (.inl (za)), some (.inl (zn))], [], [], []) = some ((d + 1, 127, 12, [some (.inr (.inr 60)), some (.inl (zf)), some (.inl (zw)), some (.inl (mi_a h 66 (Int.toNat za))), some (.inl (zn + 1))], [], [], []), [zn < zw, zn < ((6 : Int)), ((0 : Int)) ≤ za, za < ((66 : Int)), 0 ≤ za ∧ za < 66, -2147483648 ≤ zn + 1 ∧ zn + 1 ≤ 2147483647]) := rfl
theorem mi_tab_kgaB_4 : ∀ e ∈ ([(127, (5, 1, sb_127)), (16, (3, 0, sb_16)), (49, (2, 1, sb_49))] : mi_T), sc_P e.1 = some e.2 := mi_tb mi_P127 (mi_tb mi_P16 (mi_tb mi_P49 (mi_tb_e)))
set_option maxRecDepth 20000 in
theorem ms_kgaB_4 {h : sm_H} {d : Nat} {Q : Option mi_V → sm_H → Prop} {zf zw za zn : Int} (hS : ab_Sh sx_sk h) (ok_zf : mi_in zf) (ok_zw : mi_in zw) (ok_za : mi_in za) (ok_zn : mi_in zn) (ho : (zn < zw) ∧ (zn < ((6 : Int))) ∧ (((0 : Int)) ≤ za) ∧ (za < ((66 : Int))) ∧ (0 ≤ za ∧ za < 66) ∧ (-2147483648 ≤ zn + 1 ∧ zn + 1 ≤ 2147483647)) (kon : ∀ h1, me_W [] h h1 → me_E (d + 1) 127 12 [some (.inr (.inr 60)), some (.inl (zf)), some (.inl (zw)), some (.inl (mi_a h 66 (Int.toNat za))), some (.inl (zn + 1))] [] h1 Q) : me_E (d + 1) 127 12 [some (.inr (.inr 60)), some (.inl (zf)), some (.inl (zw)), some (.inl (za)), some (.inl (zn))] [] h Q := mf_seg (mp_kgaB_4 h d zf zw za zn) (mi_tab_kgaB_4) hS (mi_okL_c (trivial) (mi_okL_c (ok_zf) (mi_okL_c (ok_zw) (mi_okL_c (ok_za) (mi_okL_c (ok_zn) (mi_okL_e)))))) (mi_okS_e) (mi_al (ho.1) (mi_al (ho.2.1) (mi_al (ho.2.2.1) (mi_al (ho.2.2.2.1) (mi_al (ho.2.2.2.2.1) (mi_al (ho.2.2.2.2.2) (mi_al_e))))))) (fun h1 W _ hst => kon h1 W)
set_option maxRecDepth 20000 in
theorem mt_kgaB {h : sm_H} {d : Nat} {Q : Option mi_V → sm_H → Prop} {zf zw za zn : Int} (hS : ab_Sh sx_sk h) (ok_zf : mi_in zf) (ok_zw : mi_in zw) (ok_za : mi_in za) (ok_zn : mi_in zn) (k0 : (zw ≤ zn) → (∀ h1, ab_Sh sx_sk h1 → ab_Fr [] h h1 → Q (some (.inl (za))) h1)) (k1 : (zn < zw) → (((6 : Int)) ≤ zn) → (∀ h1, ab_Sh sx_sk h1 → ab_Fr [] h h1 → Q (some (.inl (za))) h1)) (k2 : (zn < zw) → (zn < ((6 : Int))) → (za < ((0 : Int))) → ((-2147483648 ≤ zn + 1 ∧ zn + 1 ≤ 2147483647)) ∧ (∀ h1, ab_Sh sx_sk h1 → ab_Fr [] h h1 → me_E (d + 1) 127 12 [some (.inr (.inr 60)), some (.inl (zf)), some (.inl (zw)), some (.inl ((0 : Int))), some (.inl (zn + 1))] [] h1 Q)) (k3 : (zn < zw) → (zn < ((6 : Int))) → (((0 : Int)) ≤ za) → (((66 : Int)) ≤ za) → ((-2147483648 ≤ zn + 1 ∧ zn + 1 ≤ 2147483647)) ∧ (∀ h1, ab_Sh sx_sk h1 → ab_Fr [] h h1 → me_E (d + 1) 127 12 [some (.inr (.inr 60)), some (.inl (zf)), some (.inl (zw)), some (.inl ((0 : Int))), some (.inl (zn + 1))] [] h1 Q)) (k4 : (zn < zw) → (zn < ((6 : Int))) → (((0 : Int)) ≤ za) → (za < ((66 : Int))) → ((0 ≤ za ∧ za < 66) ∧ (-2147483648 ≤ zn + 1 ∧ zn + 1 ≤ 2147483647)) ∧ (∀ h1, ab_Sh sx_sk h1 → ab_Fr [] h h1 → me_E (d + 1) 127 12 [some (.inr (.inr 60)), some (.inl (zf)), some (.inl (zw)), some (.inl (mi_a h 66 (Int.toNat za))), some (.inl (zn + 1))] [] h1 Q)) : me_E (d + 1) 127 12 [some (.inr (.inr 60)), some (.inl (zf)), some (.inl (zw)), some (.inl (za)), some (.inl (zn))] [] h Q := Or.elim (mi_em .ge (zn) (zw)) (fun c0 => ms_kgaB_0 hS ok_zf ok_zw ok_za ok_zn (c0) (fun h1 W => (k0 c0) h1 W.1 (W.2.2.2.2.2 _ rfl))) (fun c0 => Or.elim (mi_em .ge (zn) (((6 : Int)))) (fun c1 => ms_kgaB_1 hS ok_zf ok_zw ok_za ok_zn ⟨c0, c1⟩ (fun h1 W => (k1 c0 c1) h1 W.1 (W.2.2.2.2.2 _ rfl))) (fun c1 => Or.elim (mi_em .lt (za) (((0 : Int)))) (fun c2 => ms_kgaB_2 hS ok_zf ok_zw ok_za ok_zn ⟨c0, c1, c2, (k2 c0 c1 c2).1⟩ (fun h1 W => (k2 c0 c1 c2).2 h1 W.1 (W.2.2.2.2.2 _ rfl))) (fun c2 => Or.elim (mi_em .ge (za) (((66 : Int)))) (fun c3 => ms_kgaB_3 hS ok_zf ok_zw ok_za ok_zn ⟨c0, c1, c2, c3, (k3 c0 c1 c2 c3).1⟩ (fun h1 W => (k3 c0 c1 c2 c3).2 h1 W.1 (W.2.2.2.2.2 _ rfl))) (fun c3 => ms_kgaB_4 hS ok_zf ok_zw ok_za ok_zn ⟨c0, c1, c2, c3, (k4 c0 c1 c2 c3).1.1, (k4 c0 c1 c2 c3).1.2⟩ (fun h1 W => (k4 c0 c1 c2 c3).2 h1 W.1 (W.2.2.2.2.2 _ rfl))))))
set_option maxRecDepth 20000 in
theorem mp_kgnA_0 (h : sm_H) (d : Nat) : mj_path [(134, (4, 1, sb_134))] sx_sk h 3 [] (d + 2, 134, 0, [some (.inr (.inr 107)), none, none, none], [], [], []) = some ((d + 2, 134, 3, [some (.inr (.inr 107)), none, none, none], [.inl ((3 : Int)), .inr (.inr 107), .inl ((1 : Int))], [], []), []) := rfl
theorem mi_tab_kgnA_0 : ∀ e ∈ ([(134, (4, 1, sb_134))] : mi_T), sc_P e.1 = some e.2 := mi_tb mi_P134 (mi_tb_e)
set_option maxRecDepth 20000 in
theorem ms_kgnA_0 {h : sm_H} {d : Nat} {Q : Option mi_V → sm_H → Prop} (hS : ab_Sh sx_sk h)  (kon : ∀ h1, me_W [] h h1 → ∃ Q1, me_E (d + 1) 123 0 (mi_entry 2 [.inr (.inr 107), .inl ((3 : Int))]) [] h1 Q1 ∧ ∀ w h2, (∀ x, w = some x → mi_ok x) → Q1 w h2 → me_E (d + 2) 134 6 [some (.inr (.inr 107)), none, none, none] (mi_back w [.inl ((1 : Int))]) h2 Q) : me_E (d + 2) 134 0 [some (.inr (.inr 107)), none, none, none] [] h Q := mf_seg (mp_kgnA_0 h d ) (mi_tab_kgnA_0) hS (mi_okL_c (trivial) (mi_okL_n (mi_okL_n (mi_okL_n (mi_okL_e))))) (mi_okS_e) (mi_al_e) (fun h1 W _ hst => let ⟨_, k1, k2⟩ := kon h1 W; mf_call (M := (4, 1, sb_134)) (M' := (2, 1, sb_123)) rfl rfl rfl rfl (Nat.le_of_ble_eq_true rfl) (Nat.le_of_ble_eq_true rfl) W.1 k1 k2)
set_option maxRecDepth 20000 in
theorem mt_kgnA {h : sm_H} {d : Nat} {Q : Option mi_V → sm_H → Prop} (hS : ab_Sh sx_sk h)  (k0 : (∀ h1, ab_Sh sx_sk h1 → ab_Fr [] h h1 → ∃ Q1, me_E (d + 1) 123 0 (mi_entry 2 [.inr (.inr 107), .inl ((3 : Int))]) [] h1 Q1 ∧ ∀ w h2, (∀ x, w = some x → mi_ok x) → Q1 w h2 → me_E (d + 2) 134 6 [some (.inr (.inr 107)), none, none, none] (mi_back w [.inl ((1 : Int))]) h2 Q)) : me_E (d + 2) 134 0 [some (.inr (.inr 107)), none, none, none] [] h Q := ms_kgnA_0 hS (fun h1 W => (k0) h1 W.1 (W.2.2.2.2.2 _ rfl))
set_option maxRecDepth 20000 in
theorem mp_kgnB_0 (h : sm_H) (d : Nat) (zz zo : Int) : mj_path [(134, (4, 1, sb_134))] sx_sk h 6 [8] (d + 2, 134, 6, [some (.inr (.inr 107)), none, none, none], [.inl (zz), .inl (zo)], [], []) = some ((d + 2, 134, 12, [some (.inr (.inr 107)), some (.inl (zo + zz)), some (.inl ((0 : Int))), some (.inl ((0 : Int)))], [], [], []), [-2147483648 ≤ zo + zz ∧ zo + zz ≤ 2147483647]) := rfl
theorem mi_tab_kgnB_0 : ∀ e ∈ ([(134, (4, 1, sb_134))] : mi_T), sc_P e.1 = some e.2 := mi_tb mi_P134 (mi_tb_e)
set_option maxRecDepth 20000 in
theorem ms_kgnB_0 {h : sm_H} {d : Nat} {Q : Option mi_V → sm_H → Prop} {zz zo : Int} (hS : ab_Sh sx_sk h) (ok_zz : mi_in zz) (ok_zo : mi_in zo) (ho : (-2147483648 ≤ zo + zz ∧ zo + zz ≤ 2147483647)) (kon : ∀ h1, me_W [] h h1 → me_E (d + 2) 134 12 [some (.inr (.inr 107)), some (.inl (zo + zz)), some (.inl ((0 : Int))), some (.inl ((0 : Int)))] [] h1 Q) : me_E (d + 2) 134 6 [some (.inr (.inr 107)), none, none, none] [.inl (zz), .inl (zo)] h Q := mf_seg (mp_kgnB_0 h d zz zo) (mi_tab_kgnB_0) hS (mi_okL_c (trivial) (mi_okL_n (mi_okL_n (mi_okL_n (mi_okL_e))))) (mi_okS_cons (ok_zz) (mi_okS_cons (ok_zo) (mi_okS_e))) (mi_al (ho) (mi_al_e)) (fun h1 W _ hst => kon h1 W)
set_option maxRecDepth 20000 in
theorem mt_kgnB {h : sm_H} {d : Nat} {Q : Option mi_V → sm_H → Prop} {zz zo : Int} (hS : ab_Sh sx_sk h) (ok_zz : mi_in zz) (ok_zo : mi_in zo) (k0 : ((-2147483648 ≤ zo + zz ∧ zo + zz ≤ 2147483647)) ∧ (∀ h1, ab_Sh sx_sk h1 → ab_Fr [] h h1 → me_E (d + 2) 134 12 [some (.inr (.inr 107)), some (.inl (zo + zz)), some (.inl ((0 : Int))), some (.inl ((0 : Int)))] [] h1 Q)) : me_E (d + 2) 134 6 [some (.inr (.inr 107)), none, none, none] [.inl (zz), .inl (zo)] h Q := ms_kgnB_0 hS ok_zz ok_zo ((k0).1) (fun h1 W => (k0).2 h1 W.1 (W.2.2.2.2.2 _ rfl))
set_option maxRecDepth 20000 in
theorem mp_kgnC_0 (h : sm_H) (d : Nat) (zl zc zn : Int) : mj_path [(134, (4, 1, sb_134))] sx_sk h 5 [1] (d + 2, 134, 12, [some (.inr (.inr 107)), some (.inl (zl)), some (.inl (zc)), some (.inl (zn))], [], [], []) = some ((d + 2, 134, 39, [some (.inr (.inr 107)), some (.inl (zl)), some (.inl (zc)), some (.inl (zl))], [], [], []), [zl ≤ zn]) := rfl
theorem mi_tab_kgnC_0 : ∀ e ∈ ([(134, (4, 1, sb_134))] : mi_T), sc_P e.1 = some e.2 := mi_tb mi_P134 (mi_tb_e)
set_option maxRecDepth 20000 in
theorem ms_kgnC_0 {h : sm_H} {d : Nat} {Q : Option mi_V → sm_H → Prop} {zl zc zn : Int} (hS : ab_Sh sx_sk h) (ok_zl : mi_in zl) (ok_zc : mi_in zc) (ok_zn : mi_in zn) (ho : (zl ≤ zn)) (kon : ∀ h1, me_W [] h h1 → me_E (d + 2) 134 39 [some (.inr (.inr 107)), some (.inl (zl)), some (.inl (zc)), some (.inl (zl))] [] h1 Q) : me_E (d + 2) 134 12 [some (.inr (.inr 107)), some (.inl (zl)), some (.inl (zc)), some (.inl (zn))] [] h Q := mf_seg (mp_kgnC_0 h d zl zc zn) (mi_tab_kgnC_0) hS (mi_okL_c (trivial) (mi_okL_c (ok_zl) (mi_okL_c (ok_zc) (mi_okL_c (ok_zn) (mi_okL_e))))) (mi_okS_e) (mi_al (ho) (mi_al_e)) (fun h1 W _ hst => kon h1 W)
set_option maxRecDepth 20000 in
theorem mp_kgnC_1 (h : sm_H) (d : Nat) (zl zc zn : Int) : mj_path [(134, (4, 1, sb_134))] sx_sk h 7 [0] (d + 2, 134, 12, [some (.inr (.inr 107)), some (.inl (zl)), some (.inl (zc)), some (.inl (zn))], [], [], []) = some ((d + 2, 134, 21, [some (.inr (.inr 107)), some (.inl (zl)), some (.inl (zc)), some (.inl (zn))], [.inl ((3 : Int)), .inr (.inr 107), .inl ((1 : Int)), .inl (zc)], [], []), [zn < zl]) := rfl
theorem mi_tab_kgnC_1 : ∀ e ∈ ([(134, (4, 1, sb_134))] : mi_T), sc_P e.1 = some e.2 := mi_tb mi_P134 (mi_tb_e)
set_option maxRecDepth 20000 in
theorem ms_kgnC_1 {h : sm_H} {d : Nat} {Q : Option mi_V → sm_H → Prop} {zl zc zn : Int} (hS : ab_Sh sx_sk h) (ok_zl : mi_in zl) (ok_zc : mi_in zc) (ok_zn : mi_in zn) (ho : (zn < zl)) (kon : ∀ h1, me_W [] h h1 → ∃ Q1, me_E (d + 1) 123 0 (mi_entry 2 [.inr (.inr 107), .inl ((3 : Int))]) [] h1 Q1 ∧ ∀ w h2, (∀ x, w = some x → mi_ok x) → Q1 w h2 → me_E (d + 2) 134 24 [some (.inr (.inr 107)), some (.inl (zl)), some (.inl (zc)), some (.inl (zn))] (mi_back w [.inl ((1 : Int)), .inl (zc)]) h2 Q) : me_E (d + 2) 134 12 [some (.inr (.inr 107)), some (.inl (zl)), some (.inl (zc)), some (.inl (zn))] [] h Q := mf_seg (mp_kgnC_1 h d zl zc zn) (mi_tab_kgnC_1) hS (mi_okL_c (trivial) (mi_okL_c (ok_zl) (mi_okL_c (ok_zc) (mi_okL_c (ok_zn) (mi_okL_e))))) (mi_okS_e) (mi_al (ho) (mi_al_e)) (fun h1 W _ hst => let ⟨_, k1, k2⟩ := kon h1 W; mf_call (M := (4, 1, sb_134)) (M' := (2, 1, sb_123)) rfl rfl rfl rfl (Nat.le_of_ble_eq_true rfl) (Nat.le_of_ble_eq_true rfl) W.1 k1 k2)
set_option maxRecDepth 20000 in
theorem mt_kgnC {h : sm_H} {d : Nat} {Q : Option mi_V → sm_H → Prop} {zl zc zn : Int} (hS : ab_Sh sx_sk h) (ok_zl : mi_in zl) (ok_zc : mi_in zc) (ok_zn : mi_in zn) (k0 : (zl ≤ zn) → (∀ h1, ab_Sh sx_sk h1 → ab_Fr [] h h1 → me_E (d + 2) 134 39 [some (.inr (.inr 107)), some (.inl (zl)), some (.inl (zc)), some (.inl (zl))] [] h1 Q)) (k1 : (zn < zl) → (∀ h1, ab_Sh sx_sk h1 → ab_Fr [] h h1 → ∃ Q1, me_E (d + 1) 123 0 (mi_entry 2 [.inr (.inr 107), .inl ((3 : Int))]) [] h1 Q1 ∧ ∀ w h2, (∀ x, w = some x → mi_ok x) → Q1 w h2 → me_E (d + 2) 134 24 [some (.inr (.inr 107)), some (.inl (zl)), some (.inl (zc)), some (.inl (zn))] (mi_back w [.inl ((1 : Int)), .inl (zc)]) h2 Q)) : me_E (d + 2) 134 12 [some (.inr (.inr 107)), some (.inl (zl)), some (.inl (zc)), some (.inl (zn))] [] h Q := Or.elim (mi_em .ge (zn) (zl)) (fun c0 => ms_kgnC_0 hS ok_zl ok_zc ok_zn (c0) (fun h1 W => (k0 c0) h1 W.1 (W.2.2.2.2.2 _ rfl))) (fun c0 => ms_kgnC_1 hS ok_zl ok_zc ok_zn (c0) (fun h1 W => (k1 c0) h1 W.1 (W.2.2.2.2.2 _ rfl)))
set_option maxRecDepth 20000 in
theorem mp_kgnD_0 (h : sm_H) (d : Nat) (zl zc zn zz zo ze : Int) : mj_path [(134, (4, 1, sb_134))] sx_sk h 9 [8] (d + 2, 134, 24, [some (.inr (.inr 107)), some (.inl (zl)), some (.inl (zc)), some (.inl (zn))], [.inl (zz), .inl (zo), .inl (ze)], [], []) = some ((d + 2, 134, 12, [some (.inr (.inr 107)), some (.inl (zl)), some (.inl ((Int32.ofInt ze ||| Int32.ofInt ((Int32.ofInt (zo + zz) <<< (Int32.ofInt (((5 : Int)) * zn) &&& 31)).toInt)).toInt)), some (.inl (zn + 1))], [], [], []), [-2147483648 ≤ zo + zz ∧ zo + zz ≤ 2147483647, -2147483648 ≤ ((5 : Int)) * zn ∧ ((5 : Int)) * zn ≤ 2147483647, -2147483648 ≤ zn + 1 ∧ zn + 1 ≤ 2147483647]) := rfl
theorem mi_tab_kgnD_0 : ∀ e ∈ ([(134, (4, 1, sb_134))] : mi_T), sc_P e.1 = some e.2 := mi_tb mi_P134 (mi_tb_e)
set_option maxRecDepth 20000 in
theorem ms_kgnD_0 {h : sm_H} {d : Nat} {Q : Option mi_V → sm_H → Prop} {zl zc zn zz zo ze : Int} (hS : ab_Sh sx_sk h) (ok_zl : mi_in zl) (ok_zc : mi_in zc) (ok_zn : mi_in zn) (ok_zz : mi_in zz) (ok_zo : mi_in zo) (ok_ze : mi_in ze) (ho : (-2147483648 ≤ zo + zz ∧ zo + zz ≤ 2147483647) ∧ (-2147483648 ≤ ((5 : Int)) * zn ∧ ((5 : Int)) * zn ≤ 2147483647) ∧ (-2147483648 ≤ zn + 1 ∧ zn + 1 ≤ 2147483647)) (kon : ∀ h1, me_W [] h h1 → me_E (d + 2) 134 12 [some (.inr (.inr 107)), some (.inl (zl)), some (.inl ((Int32.ofInt ze ||| Int32.ofInt ((Int32.ofInt (zo + zz) <<< (Int32.ofInt (((5 : Int)) * zn) &&& 31)).toInt)).toInt)), some (.inl (zn + 1))] [] h1 Q) : me_E (d + 2) 134 24 [some (.inr (.inr 107)), some (.inl (zl)), some (.inl (zc)), some (.inl (zn))] [.inl (zz), .inl (zo), .inl (ze)] h Q := mf_seg (mp_kgnD_0 h d zl zc zn zz zo ze) (mi_tab_kgnD_0) hS (mi_okL_c (trivial) (mi_okL_c (ok_zl) (mi_okL_c (ok_zc) (mi_okL_c (ok_zn) (mi_okL_e))))) (mi_okS_cons (ok_zz) (mi_okS_cons (ok_zo) (mi_okS_cons (ok_ze) (mi_okS_e)))) (mi_al (ho.1) (mi_al (ho.2.1) (mi_al (ho.2.2) (mi_al_e)))) (fun h1 W _ hst => kon h1 W)
set_option maxRecDepth 20000 in
theorem mt_kgnD {h : sm_H} {d : Nat} {Q : Option mi_V → sm_H → Prop} {zl zc zn zz zo ze : Int} (hS : ab_Sh sx_sk h) (ok_zl : mi_in zl) (ok_zc : mi_in zc) (ok_zn : mi_in zn) (ok_zz : mi_in zz) (ok_zo : mi_in zo) (ok_ze : mi_in ze) (k0 : ((-2147483648 ≤ zo + zz ∧ zo + zz ≤ 2147483647) ∧ (-2147483648 ≤ ((5 : Int)) * zn ∧ ((5 : Int)) * zn ≤ 2147483647) ∧ (-2147483648 ≤ zn + 1 ∧ zn + 1 ≤ 2147483647)) ∧ (∀ h1, ab_Sh sx_sk h1 → ab_Fr [] h h1 → me_E (d + 2) 134 12 [some (.inr (.inr 107)), some (.inl (zl)), some (.inl ((Int32.ofInt ze ||| Int32.ofInt ((Int32.ofInt (zo + zz) <<< (Int32.ofInt (((5 : Int)) * zn) &&& 31)).toInt)).toInt)), some (.inl (zn + 1))] [] h1 Q)) : me_E (d + 2) 134 24 [some (.inr (.inr 107)), some (.inl (zl)), some (.inl (zc)), some (.inl (zn))] [.inl (zz), .inl (zo), .inl (ze)] h Q := ms_kgnD_0 hS ok_zl ok_zc ok_zn ok_zz ok_zo ok_ze ⟨(k0).1.1, (k0).1.2.1, (k0).1.2.2⟩ (fun h1 W => (k0).2 h1 W.1 (W.2.2.2.2.2 _ rfl))
set_option maxRecDepth 20000 in
theorem mp_kgnE_0 (h : sm_H) (d : Nat) (zl zc zn : Int) : mj_path [(134, (4, 1, sb_134))] sx_sk h 4 [1] (d + 2, 134, 39, [some (.inr (.inr 107)), some (.inl (zl)), some (.inl (zc)), some (.inl (zn))], [], [], []) = some ((d + 2, 134, 73, [some (.inr (.inr 107)), some (.inl (zl)), some (.inl (zc)), some (.inl (zn))], [.inl (zc)], [], []), [((6 : Int)) ≤ zn]) := rfl
theorem mi_tab_kgnE_0 : ∀ e ∈ ([(134, (4, 1, sb_134))] : mi_T), sc_P e.1 = some e.2 := mi_tb mi_P134 (mi_tb_e)
set_option maxRecDepth 20000 in
theorem ms_kgnE_0 {h : sm_H} {d : Nat} {Q : Option mi_V → sm_H → Prop} {zl zc zn : Int} (hS : ab_Sh sx_sk h) (ok_zl : mi_in zl) (ok_zc : mi_in zc) (ok_zn : mi_in zn) (ho : (((6 : Int)) ≤ zn)) (kon : ∀ h1, me_W [] h h1 → Q (some (.inl (zc))) h1) : me_E (d + 2) 134 39 [some (.inr (.inr 107)), some (.inl (zl)), some (.inl (zc)), some (.inl (zn))] [] h Q := mf_seg (mp_kgnE_0 h d zl zc zn) (mi_tab_kgnE_0) hS (mi_okL_c (trivial) (mi_okL_c (ok_zl) (mi_okL_c (ok_zc) (mi_okL_c (ok_zn) (mi_okL_e))))) (mi_okS_e) (mi_al (ho) (mi_al_e)) (fun h1 W _ hst => mf_ret (M := (4, 1, sb_134)) rfl rfl rfl hst (mi_al_e) (kon h1 W))
set_option maxRecDepth 20000 in
theorem mp_kgnE_1 (h : sm_H) (d : Nat) (zl zc zn : Int) : mj_path [(134, (4, 1, sb_134))] sx_sk h 6 [0] (d + 2, 134, 39, [some (.inr (.inr 107)), some (.inl (zl)), some (.inl (zc)), some (.inl (zn))], [], [], []) = some ((d + 2, 134, 50, [some (.inr (.inr 107)), some (.inl (zl)), some (.inl (zc)), some (.inl (zn))], [.inl (zc), .inr (.inr 60)], [], []), [zn < ((6 : Int))]) := rfl
theorem mi_tab_kgnE_1 : ∀ e ∈ ([(134, (4, 1, sb_134))] : mi_T), sc_P e.1 = some e.2 := mi_tb mi_P134 (mi_tb_e)
set_option maxRecDepth 20000 in
theorem ms_kgnE_1 {h : sm_H} {d : Nat} {Q : Option mi_V → sm_H → Prop} {zl zc zn : Int} (hS : ab_Sh sx_sk h) (ok_zl : mi_in zl) (ok_zc : mi_in zc) (ok_zn : mi_in zn) (ho : (zn < ((6 : Int)))) (kon : ∀ h1, me_W [] h h1 → ∃ Q1, me_E (d + 1) 58 0 (mi_entry 3 [.inr (.inr 60), .inl (zc)]) [] h1 Q1 ∧ ∀ w h2, (∀ x, w = some x → mi_ok x) → Q1 w h2 → me_E (d + 2) 134 53 [some (.inr (.inr 107)), some (.inl (zl)), some (.inl (zc)), some (.inl (zn))] (mi_back w []) h2 Q) : me_E (d + 2) 134 39 [some (.inr (.inr 107)), some (.inl (zl)), some (.inl (zc)), some (.inl (zn))] [] h Q := mf_seg (mp_kgnE_1 h d zl zc zn) (mi_tab_kgnE_1) hS (mi_okL_c (trivial) (mi_okL_c (ok_zl) (mi_okL_c (ok_zc) (mi_okL_c (ok_zn) (mi_okL_e))))) (mi_okS_e) (mi_al (ho) (mi_al_e)) (fun h1 W _ hst => let ⟨_, k1, k2⟩ := kon h1 W; mf_call (M := (4, 1, sb_134)) (M' := (3, 1, sb_58)) rfl rfl rfl rfl (Nat.le_of_ble_eq_true rfl) (Nat.le_of_ble_eq_true rfl) W.1 k1 k2)
set_option maxRecDepth 20000 in
theorem mt_kgnE {h : sm_H} {d : Nat} {Q : Option mi_V → sm_H → Prop} {zl zc zn : Int} (hS : ab_Sh sx_sk h) (ok_zl : mi_in zl) (ok_zc : mi_in zc) (ok_zn : mi_in zn) (k0 : (((6 : Int)) ≤ zn) → (∀ h1, ab_Sh sx_sk h1 → ab_Fr [] h h1 → Q (some (.inl (zc))) h1)) (k1 : (zn < ((6 : Int))) → (∀ h1, ab_Sh sx_sk h1 → ab_Fr [] h h1 → ∃ Q1, me_E (d + 1) 58 0 (mi_entry 3 [.inr (.inr 60), .inl (zc)]) [] h1 Q1 ∧ ∀ w h2, (∀ x, w = some x → mi_ok x) → Q1 w h2 → me_E (d + 2) 134 53 [some (.inr (.inr 107)), some (.inl (zl)), some (.inl (zc)), some (.inl (zn))] (mi_back w []) h2 Q)) : me_E (d + 2) 134 39 [some (.inr (.inr 107)), some (.inl (zl)), some (.inl (zc)), some (.inl (zn))] [] h Q := Or.elim (mi_em .ge (zn) (((6 : Int)))) (fun c0 => ms_kgnE_0 hS ok_zl ok_zc ok_zn (c0) (fun h1 W => (k0 c0) h1 W.1 (W.2.2.2.2.2 _ rfl))) (fun c0 => ms_kgnE_1 hS ok_zl ok_zc ok_zn (c0) (fun h1 W => (k1 c0) h1 W.1 (W.2.2.2.2.2 _ rfl)))
set_option maxRecDepth 20000 in
theorem mp_kgnF_0 (h : sm_H) (d : Nat) (zl zc zn zz : Int) : mj_path [(134, (4, 1, sb_134))] sx_sk h 3 [1] (d + 2, 134, 53, [some (.inr (.inr 107)), some (.inl (zl)), some (.inl (zc)), some (.inl (zn))], [.inl (zz)], [], []) = some ((d + 2, 134, 73, [some (.inr (.inr 107)), some (.inl (zl)), some (.inl (zc)), some (.inl (zn))], [.inl (zc)], [], []), [zz = ((-1 : Int))]) := rfl
theorem mi_tab_kgnF_0 : ∀ e ∈ ([(134, (4, 1, sb_134))] : mi_T), sc_P e.1 = some e.2 := mi_tb mi_P134 (mi_tb_e)
set_option maxRecDepth 20000 in
theorem ms_kgnF_0 {h : sm_H} {d : Nat} {Q : Option mi_V → sm_H → Prop} {zl zc zn zz : Int} (hS : ab_Sh sx_sk h) (ok_zl : mi_in zl) (ok_zc : mi_in zc) (ok_zn : mi_in zn) (ok_zz : mi_in zz) (ho : (zz = ((-1 : Int)))) (kon : ∀ h1, me_W [] h h1 → Q (some (.inl (zc))) h1) : me_E (d + 2) 134 53 [some (.inr (.inr 107)), some (.inl (zl)), some (.inl (zc)), some (.inl (zn))] [.inl (zz)] h Q := mf_seg (mp_kgnF_0 h d zl zc zn zz) (mi_tab_kgnF_0) hS (mi_okL_c (trivial) (mi_okL_c (ok_zl) (mi_okL_c (ok_zc) (mi_okL_c (ok_zn) (mi_okL_e))))) (mi_okS_cons (ok_zz) (mi_okS_e)) (mi_al (ho) (mi_al_e)) (fun h1 W _ hst => mf_ret (M := (4, 1, sb_134)) rfl rfl rfl hst (mi_al_e) (kon h1 W))
set_option maxRecDepth 20000 in
theorem mp_kgnF_1 (h : sm_H) (d : Nat) (zl zc zn zz : Int) : mj_path [(134, (4, 1, sb_134))] sx_sk h 12 [0] (d + 2, 134, 53, [some (.inr (.inr 107)), some (.inl (zl)), some (.inl (zc)), some (.inl (zn))], [.inl (zz)], [], []) = some ((d + 2, 134, 39, [some (.inr (.inr 107)), some (.inl (zl)), some (.inl ((Int32.ofInt zc ||| Int32.ofInt ((Int32.ofInt ((26 : Int)) <<< (Int32.ofInt (((5 : Int)) * zn) &&& 31)).toInt)).toInt)), some (.inl (zn + 1))], [], [], []), [zz ≠ ((-1 : Int)), -2147483648 ≤ ((5 : Int)) * zn ∧ ((5 : Int)) * zn ≤ 2147483647, -2147483648 ≤ zn + 1 ∧ zn + 1 ≤ 2147483647]) := rfl
theorem mi_tab_kgnF_1 : ∀ e ∈ ([(134, (4, 1, sb_134))] : mi_T), sc_P e.1 = some e.2 := mi_tb mi_P134 (mi_tb_e)
set_option maxRecDepth 20000 in
theorem ms_kgnF_1 {h : sm_H} {d : Nat} {Q : Option mi_V → sm_H → Prop} {zl zc zn zz : Int} (hS : ab_Sh sx_sk h) (ok_zl : mi_in zl) (ok_zc : mi_in zc) (ok_zn : mi_in zn) (ok_zz : mi_in zz) (ho : (zz ≠ ((-1 : Int))) ∧ (-2147483648 ≤ ((5 : Int)) * zn ∧ ((5 : Int)) * zn ≤ 2147483647) ∧ (-2147483648 ≤ zn + 1 ∧ zn + 1 ≤ 2147483647)) (kon : ∀ h1, me_W [] h h1 → me_E (d + 2) 134 39 [some (.inr (.inr 107)), some (.inl (zl)), some (.inl ((Int32.ofInt zc ||| Int32.ofInt ((Int32.ofInt ((26 : Int)) <<< (Int32.ofInt (((5 : Int)) * zn) &&& 31)).toInt)).toInt)), some (.inl (zn + 1))] [] h1 Q) : me_E (d + 2) 134 53 [some (.inr (.inr 107)), some (.inl (zl)), some (.inl (zc)), some (.inl (zn))] [.inl (zz)] h Q := mf_seg (mp_kgnF_1 h d zl zc zn zz) (mi_tab_kgnF_1) hS (mi_okL_c (trivial) (mi_okL_c (ok_zl) (mi_okL_c (ok_zc) (mi_okL_c (ok_zn) (mi_okL_e))))) (mi_okS_cons (ok_zz) (mi_okS_e)) (mi_al (ho.1) (mi_al (ho.2.1) (mi_al (ho.2.2) (mi_al_e)))) (fun h1 W _ hst => kon h1 W)
set_option maxRecDepth 20000 in
theorem mt_kgnF {h : sm_H} {d : Nat} {Q : Option mi_V → sm_H → Prop} {zl zc zn zz : Int} (hS : ab_Sh sx_sk h) (ok_zl : mi_in zl) (ok_zc : mi_in zc) (ok_zn : mi_in zn) (ok_zz : mi_in zz) (k0 : (zz = ((-1 : Int))) → (∀ h1, ab_Sh sx_sk h1 → ab_Fr [] h h1 → Q (some (.inl (zc))) h1)) (k1 : (zz ≠ ((-1 : Int))) → ((-2147483648 ≤ ((5 : Int)) * zn ∧ ((5 : Int)) * zn ≤ 2147483647) ∧ (-2147483648 ≤ zn + 1 ∧ zn + 1 ≤ 2147483647)) ∧ (∀ h1, ab_Sh sx_sk h1 → ab_Fr [] h h1 → me_E (d + 2) 134 39 [some (.inr (.inr 107)), some (.inl (zl)), some (.inl ((Int32.ofInt zc ||| Int32.ofInt ((Int32.ofInt ((26 : Int)) <<< (Int32.ofInt (((5 : Int)) * zn) &&& 31)).toInt)).toInt)), some (.inl (zn + 1))] [] h1 Q)) : me_E (d + 2) 134 53 [some (.inr (.inr 107)), some (.inl (zl)), some (.inl (zc)), some (.inl (zn))] [.inl (zz)] h Q := Or.elim (mi_em .eq (zz) (((-1 : Int)))) (fun c0 => ms_kgnF_0 hS ok_zl ok_zc ok_zn ok_zz (c0) (fun h1 W => (k0 c0) h1 W.1 (W.2.2.2.2.2 _ rfl))) (fun c0 => ms_kgnF_1 hS ok_zl ok_zc ok_zn ok_zz ⟨c0, (k1 c0).1.1, (k1 c0).1.2⟩ (fun h1 W => (k1 c0).2 h1 W.1 (W.2.2.2.2.2 _ rfl)))
/-! segments of the class: Growing -/
set_option maxRecDepth 20000 in
theorem mp_kgfA_0 (h : sm_H) (d : Nat) (zp : Int) : mj_path [(133, (3, 0, sb_133)), (16, (3, 0, sb_16)), (49, (2, 1, sb_49))] sx_sk h 16 [1, 1, 1] (d + 3, 133, 0, [some (.inr (.inr 107)), some (.inl (zp)), none], [], [], []) = some ((d + 3, 133, 48, [some (.inr (.inr 107)), some (.inl (zp)), some (.inl ((0 : Int)))], [], [], []), [zp < ((0 : Int)), ((0 : Int)) ≠ ((1 : Int)), ((0 : Int)) ≠ ((2 : Int))]) := rfl
theorem mi_tab_kgfA_0 : ∀ e ∈ ([(133, (3, 0, sb_133)), (16, (3, 0, sb_16)), (49, (2, 1, sb_49))] : mi_T), sc_P e.1 = some e.2 := mi_tb mi_P133 (mi_tb mi_P16 (mi_tb mi_P49 (mi_tb_e)))
set_option maxRecDepth 20000 in
theorem ms_kgfA_0 {h : sm_H} {d : Nat} {Q : Option mi_V → sm_H → Prop} {zp : Int} (hS : ab_Sh sx_sk h) (ok_zp : mi_in zp) (ho : (zp < ((0 : Int))) ∧ (((0 : Int)) ≠ ((1 : Int))) ∧ (((0 : Int)) ≠ ((2 : Int)))) (kon : ∀ h1, me_W [] h h1 → Q none h1) : me_E (d + 3) 133 0 [some (.inr (.inr 107)), some (.inl (zp)), none] [] h Q := mf_seg (mp_kgfA_0 h d zp) (mi_tab_kgfA_0) hS (mi_okL_c (trivial) (mi_okL_c (ok_zp) (mi_okL_n (mi_okL_e)))) (mi_okS_e) (mi_al (ho.1) (mi_al (ho.2.1) (mi_al (ho.2.2) (mi_al_e)))) (fun h1 W _ hst => mf_ret (M := (3, 0, sb_133)) rfl rfl rfl hst (mi_al_e) (kon h1 W))
set_option maxRecDepth 20000 in
theorem mp_kgfA_1 (h : sm_H) (d : Nat) (zp : Int) : mj_path [(133, (3, 0, sb_133)), (16, (3, 0, sb_16)), (49, (2, 1, sb_49))] sx_sk h 20 [0, 1, 1, 1] (d + 3, 133, 0, [some (.inr (.inr 107)), some (.inl (zp)), none], [], [], []) = some ((d + 3, 133, 48, [some (.inr (.inr 107)), some (.inl (zp)), some (.inl ((0 : Int)))], [], [], []), [((0 : Int)) ≤ zp, ((60 : Int)) ≤ zp, ((0 : Int)) ≠ ((1 : Int)), ((0 : Int)) ≠ ((2 : Int))]) := rfl
theorem mi_tab_kgfA_1 : ∀ e ∈ ([(133, (3, 0, sb_133)), (16, (3, 0, sb_16)), (49, (2, 1, sb_49))] : mi_T), sc_P e.1 = some e.2 := mi_tb mi_P133 (mi_tb mi_P16 (mi_tb mi_P49 (mi_tb_e)))
set_option maxRecDepth 20000 in
theorem ms_kgfA_1 {h : sm_H} {d : Nat} {Q : Option mi_V → sm_H → Prop} {zp : Int} (hS : ab_Sh sx_sk h) (ok_zp : mi_in zp) (ho : (((0 : Int)) ≤ zp) ∧ (((60 : Int)) ≤ zp) ∧ (((0 : Int)) ≠ ((1 : Int))) ∧ (((0 : Int)) ≠ ((2 : Int)))) (kon : ∀ h1, me_W [] h h1 → Q none h1) : me_E (d + 3) 133 0 [some (.inr (.inr 107)), some (.inl (zp)), none] [] h Q := mf_seg (mp_kgfA_1 h d zp) (mi_tab_kgfA_1) hS (mi_okL_c (trivial) (mi_okL_c (ok_zp) (mi_okL_n (mi_okL_e)))) (mi_okS_e) (mi_al (ho.1) (mi_al (ho.2.1) (mi_al (ho.2.2.1) (mi_al (ho.2.2.2) (mi_al_e))))) (fun h1 W _ hst => mf_ret (M := (3, 0, sb_133)) rfl rfl rfl hst (mi_al_e) (kon h1 W))
set_option maxRecDepth 20000 in
theorem mp_kgfA_2 (h : sm_H) (d : Nat) (zp : Int) : mj_path [(133, (3, 0, sb_133)), (16, (3, 0, sb_16)), (49, (2, 1, sb_49))] sx_sk h 23 [0, 0, 1, 1] (d + 3, 133, 0, [some (.inr (.inr 107)), some (.inl (zp)), none], [], [], []) = some ((d + 3, 133, 48, [some (.inr (.inr 107)), some (.inl (zp)), some (.inl (mi_a h 68 (Int.toNat zp)))], [], [], []), [((0 : Int)) ≤ zp, zp < ((60 : Int)), 0 ≤ zp ∧ zp < 60, (mi_a h 68 (Int.toNat zp)) ≠ ((1 : Int)), (mi_a h 68 (Int.toNat zp)) ≠ ((2 : Int))]) := rfl
theorem mi_tab_kgfA_2 : ∀ e ∈ ([(133, (3, 0, sb_133)), (16, (3, 0, sb_16)), (49, (2, 1, sb_49))] : mi_T), sc_P e.1 = some e.2 := mi_tb mi_P133 (mi_tb mi_P16 (mi_tb mi_P49 (mi_tb_e)))
set_option maxRecDepth 20000 in
theorem ms_kgfA_2 {h : sm_H} {d : Nat} {Q : Option mi_V → sm_H → Prop} {zp : Int} (hS : ab_Sh sx_sk h) (ok_zp : mi_in zp) (ho : (((0 : Int)) ≤ zp) ∧ (zp < ((60 : Int))) ∧ (0 ≤ zp ∧ zp < 60) ∧ ((mi_a h 68 (Int.toNat zp)) ≠ ((1 : Int))) ∧ ((mi_a h 68 (Int.toNat zp)) ≠ ((2 : Int)))) (kon : ∀ h1, me_W [] h h1 → Q none h1) : me_E (d + 3) 133 0 [some (.inr (.inr 107)), some (.inl (zp)), none] [] h Q := mf_seg (mp_kgfA_2 h d zp) (mi_tab_kgfA_2) hS (mi_okL_c (trivial) (mi_okL_c (ok_zp) (mi_okL_n (mi_okL_e)))) (mi_okS_e) (mi_al (ho.1) (mi_al (ho.2.1) (mi_al (ho.2.2.1) (mi_al (ho.2.2.2.1) (mi_al (ho.2.2.2.2) (mi_al_e)))))) (fun h1 W _ hst => mf_ret (M := (3, 0, sb_133)) rfl rfl rfl hst (mi_al_e) (kon h1 W))
set_option maxRecDepth 20000 in
theorem mp_kgfA_3 (h : sm_H) (d : Nat) (zp : Int) : mj_path [(133, (3, 0, sb_133)), (16, (3, 0, sb_16)), (49, (2, 1, sb_49))] sx_sk h 26 [0, 0, 1, 0] (d + 3, 133, 0, [some (.inr (.inr 107)), some (.inl (zp)), none], [], [], []) = some ((d + 3, 133, 41, [some (.inr (.inr 107)), some (.inl (zp)), some (.inl (mi_a h 68 (Int.toNat zp)))], [.inr (.inr 107), .inl ((3 : Int)), .inr (.inr 107)], [], []), [((0 : Int)) ≤ zp, zp < ((60 : Int)), 0 ≤ zp ∧ zp < 60, (mi_a h 68 (Int.toNat zp)) ≠ ((1 : Int)), (mi_a h 68 (Int.toNat zp)) = ((2 : Int))]) := rfl
theorem mi_tab_kgfA_3 : ∀ e ∈ ([(133, (3, 0, sb_133)), (16, (3, 0, sb_16)), (49, (2, 1, sb_49))] : mi_T), sc_P e.1 = some e.2 := mi_tb mi_P133 (mi_tb mi_P16 (mi_tb mi_P49 (mi_tb_e)))
set_option maxRecDepth 20000 in
theorem ms_kgfA_3 {h : sm_H} {d : Nat} {Q : Option mi_V → sm_H → Prop} {zp : Int} (hS : ab_Sh sx_sk h) (ok_zp : mi_in zp) (ho : (((0 : Int)) ≤ zp) ∧ (zp < ((60 : Int))) ∧ (0 ≤ zp ∧ zp < 60) ∧ ((mi_a h 68 (Int.toNat zp)) ≠ ((1 : Int))) ∧ ((mi_a h 68 (Int.toNat zp)) = ((2 : Int)))) (kon : ∀ h1, me_W [] h h1 → ∃ Q1, me_E (d + 2) 134 0 (mi_entry 4 [.inr (.inr 107)]) [] h1 Q1 ∧ ∀ w h2, (∀ x, w = some x → mi_ok x) → Q1 w h2 → me_E (d + 3) 133 44 [some (.inr (.inr 107)), some (.inl (zp)), some (.inl (mi_a h 68 (Int.toNat zp)))] (mi_back w [.inl ((3 : Int)), .inr (.inr 107)]) h2 Q) : me_E (d + 3) 133 0 [some (.inr (.inr 107)), some (.inl (zp)), none] [] h Q := mf_seg (mp_kgfA_3 h d zp) (mi_tab_kgfA_3) hS (mi_okL_c (trivial) (mi_okL_c (ok_zp) (mi_okL_n (mi_okL_e)))) (mi_okS_e) (mi_al (ho.1) (mi_al (ho.2.1) (mi_al (ho.2.2.1) (mi_al (ho.2.2.2.1) (mi_al (ho.2.2.2.2) (mi_al_e)))))) (fun h1 W _ hst => let ⟨_, k1, k2⟩ := kon h1 W; mf_call (M := (3, 0, sb_133)) (M' := (4, 1, sb_134)) rfl rfl rfl rfl (Nat.le_of_ble_eq_true rfl) (Nat.le_of_ble_eq_true rfl) W.1 k1 k2)
set_option maxRecDepth 20000 in
theorem mp_kgfA_4 (h : sm_H) (d : Nat) (zp : Int) : mj_path [(133, (3, 0, sb_133)), (16, (3, 0, sb_16)), (49, (2, 1, sb_49))] sx_sk h 24 [0, 0, 0] (d + 3, 133, 0, [some (.inr (.inr 107)), some (.inl (zp)), none], [], [], []) = some ((d + 3, 133, 23, [some (.inr (.inr 107)), some (.inl (zp)), some (.inl (mi_a h 68 (Int.toNat zp)))], [.inl ((10000 : Int)), .inr (.inr 107), .inl ((2 : Int)), .inr (.inr 107)], [], []), [((0 : Int)) ≤ zp, zp < ((60 : Int)), 0 ≤ zp ∧ zp < 60, (mi_a h 68 (Int.toNat zp)) = ((1 : Int))]) := rfl
theorem mi_tab_kgfA_4 : ∀ e ∈ ([(133, (3, 0, sb_133)), (16, (3, 0, sb_16)), (49, (2, 1, sb_49))] : mi_T), sc_P e.1 = some e.2 := mi_tb mi_P133 (mi_tb mi_P16 (mi_tb mi_P49 (mi_tb_e)))
set_option maxRecDepth 20000 in
theorem ms_kgfA_4 {h : sm_H} {d : Nat} {Q : Option mi_V → sm_H → Prop} {zp : Int} (hS : ab_Sh sx_sk h) (ok_zp : mi_in zp) (ho : (((0 : Int)) ≤ zp) ∧ (zp < ((60 : Int))) ∧ (0 ≤ zp ∧ zp < 60) ∧ ((mi_a h 68 (Int.toNat zp)) = ((1 : Int)))) (kon : ∀ h1, me_W [] h h1 → ∃ Q1, me_E (d + 2) 123 0 (mi_entry 2 [.inr (.inr 107), .inl ((10000 : Int))]) [] h1 Q1 ∧ ∀ w h2, (∀ x, w = some x → mi_ok x) → Q1 w h2 → me_E (d + 3) 133 26 [some (.inr (.inr 107)), some (.inl (zp)), some (.inl (mi_a h 68 (Int.toNat zp)))] (mi_back w [.inl ((2 : Int)), .inr (.inr 107)]) h2 Q) : me_E (d + 3) 133 0 [some (.inr (.inr 107)), some (.inl (zp)), none] [] h Q := mf_seg (mp_kgfA_4 h d zp) (mi_tab_kgfA_4) hS (mi_okL_c (trivial) (mi_okL_c (ok_zp) (mi_okL_n (mi_okL_e)))) (mi_okS_e) (mi_al (ho.1) (mi_al (ho.2.1) (mi_al (ho.2.2.1) (mi_al (ho.2.2.2) (mi_al_e))))) (fun h1 W _ hst => let ⟨_, k1, k2⟩ := kon h1 W; mf_call (M := (3, 0, sb_133)) (M' := (2, 1, sb_123)) rfl rfl rfl rfl (Nat.le_of_ble_eq_true rfl) (Nat.le_of_ble_eq_true rfl) W.1 k1 k2)
set_option maxRecDepth 20000 in
theorem mt_kgfA {h : sm_H} {d : Nat} {Q : Option mi_V → sm_H → Prop} {zp : Int} (hS : ab_Sh sx_sk h) (ok_zp : mi_in zp) (k0 : (zp < ((0 : Int))) → (∀ h1, ab_Sh sx_sk h1 → ab_Fr [] h h1 → Q none h1)) (k1 : (((0 : Int)) ≤ zp) → (((60 : Int)) ≤ zp) → (∀ h1, ab_Sh sx_sk h1 → ab_Fr [] h h1 → Q none h1)) (k2 : (((0 : Int)) ≤ zp) → (zp < ((60 : Int))) → ((mi_a h 68 (Int.toNat zp)) ≠ ((1 : Int))) → ((mi_a h 68 (Int.toNat zp)) ≠ ((2 : Int))) → ((0 ≤ zp ∧ zp < 60)) ∧ (∀ h1, ab_Sh sx_sk h1 → ab_Fr [] h h1 → Q none h1)) (k3 : (((0 : Int)) ≤ zp) → (zp < ((60 : Int))) → ((mi_a h 68 (Int.toNat zp)) ≠ ((1 : Int))) → ((mi_a h 68 (Int.toNat zp)) = ((2 : Int))) → ((0 ≤ zp ∧ zp < 60)) ∧ (∀ h1, ab_Sh sx_sk h1 → ab_Fr [] h h1 → ∃ Q1, me_E (d + 2) 134 0 (mi_entry 4 [.inr (.inr 107)]) [] h1 Q1 ∧ ∀ w h2, (∀ x, w = some x → mi_ok x) → Q1 w h2 → me_E (d + 3) 133 44 [some (.inr (.inr 107)), some (.inl (zp)), some (.inl (mi_a h 68 (Int.toNat zp)))] (mi_back w [.inl ((3 : Int)), .inr (.inr 107)]) h2 Q)) (k4 : (((0 : Int)) ≤ zp) → (zp < ((60 : Int))) → ((mi_a h 68 (Int.toNat zp)) = ((1 : Int))) → ((0 ≤ zp ∧ zp < 60)) ∧ (∀ h1, ab_Sh sx_sk h1 → ab_Fr [] h h1 → ∃ Q1, me_E (d + 2) 123 0 (mi_entry 2 [.inr (.inr 107), .inl ((10000 : Int))]) [] h1 Q1 ∧ ∀ w h2, (∀ x, w = some x → mi_ok x) → Q1 w h2 → me_E (d + 3) 133 26 [some (.inr (.inr 107)), some (.inl (zp)), some (.inl (mi_a h 68 (Int.toNat zp)))] (mi_back w [.inl ((2 : Int)), .inr (.inr 107)]) h2 Q)) : me_E (d + 3) 133 0 [some (.inr (.inr 107)), some (.inl (zp)), none] [] h Q := Or.elim (mi_em .lt (zp) (((0 : Int)))) (fun c0 => ms_kgfA_0 hS ok_zp ⟨c0, (by decide), (by decide)⟩ (fun h1 W => (k0 c0) h1 W.1 (W.2.2.2.2.2 _ rfl))) (fun c0 => Or.elim (mi_em .ge (zp) (((60 : Int)))) (fun c1 => ms_kgfA_1 hS ok_zp ⟨c0, c1, (by decide), (by decide)⟩ (fun h1 W => (k1 c0 c1) h1 W.1 (W.2.2.2.2.2 _ rfl))) (fun c1 => Or.elim (mi_em .ne ((mi_a h 68 (Int.toNat zp))) (((1 : Int)))) (fun c2 => Or.elim (mi_em .ne ((mi_a h 68 (Int.toNat zp))) (((2 : Int)))) (fun c3 => ms_kgfA_2 hS ok_zp ⟨c0, c1, (k2 c0 c1 c2 c3).1, c2, c3⟩ (fun h1 W => (k2 c0 c1 c2 c3).2 h1 W.1 (W.2.2.2.2.2 _ rfl))) (fun c3 => ms_kgfA_3 hS ok_zp ⟨c0, c1, (k3 c0 c1 c2 c3).1, c2, c3⟩ (fun h1 W => (k3 c0 c1 c2 c3).2 h1 W.1 (W.2.2.2.2.2 _ rfl)))) (fun c2 => ms_kgfA_4 hS ok_zp ⟨c0, c1, (k4 c0 c1 c2).1, c2⟩ (fun h1 W => (k4 c0 c1 c2).2 h1 W.1 (W.2.2.2.2.2 _ rfl)))))
set_option maxRecDepth 20000 in
theorem mp_kgfB_0 (h : sm_H) (d : Nat) (zp zs zz zk : Int) : mj_path [(133, (3, 0, sb_133))] sx_sk h 0 [] (d + 3, 133, 26, [some (.inr (.inr 107)), some (.inl (zp)), some (.inl (zs))], [.inl (zz), .inl (zk), .inr (.inr 107)], [], []) = some ((d + 3, 133, 26, [some (.inr (.inr 107)), some (.inl (zp)), some (.inl (zs))], [.inl (zz), .inl (zk), .inr (.inr 107)], [], []), []) := rfl
theorem mi_tab_kgfB_0 : ∀ e ∈ ([(133, (3, 0, sb_133))] : mi_T), sc_P e.1 = some e.2 := mi_tb mi_P133 (mi_tb_e)
set_option maxRecDepth 20000 in
theorem ms_kgfB_0 {h : sm_H} {d : Nat} {Q : Option mi_V → sm_H → Prop} {zp zs zz zk : Int} (hS : ab_Sh sx_sk h) (ok_zp : mi_in zp) (ok_zs : mi_in zs) (ok_zz : mi_in zz) (ok_zk : mi_in zk) (kon : ∀ h1, me_W [] h h1 → ∃ Q1, me_E (d + 2) 116 0 (mi_entry 4 [.inr (.inr 107), .inl (zk), .inl (zz)]) [] h1 Q1 ∧ ∀ w h2, (∀ x, w = some x → mi_ok x) → Q1 w h2 → me_E (d + 3) 133 29 [some (.inr (.inr 107)), some (.inl (zp)), some (.inl (zs))] (mi_back w []) h2 Q) : me_E (d + 3) 133 26 [some (.inr (.inr 107)), some (.inl (zp)), some (.inl (zs))] [.inl (zz), .inl (zk), .inr (.inr 107)] h Q := mf_seg (mp_kgfB_0 h d zp zs zz zk) (mi_tab_kgfB_0) hS (mi_okL_c (trivial) (mi_okL_c (ok_zp) (mi_okL_c (ok_zs) (mi_okL_e)))) (mi_okS_cons (ok_zz) (mi_okS_cons (ok_zk) (mi_okS_cons (trivial) (mi_okS_e)))) (mi_al_e) (fun h1 W _ hst => let ⟨_, k1, k2⟩ := kon h1 W; mf_call (M := (3, 0, sb_133)) (M' := (4, 1, sb_116)) rfl rfl rfl rfl (Nat.le_of_ble_eq_true rfl) (Nat.le_of_ble_eq_true rfl) W.1 k1 k2)
set_option maxRecDepth 20000 in
theorem mt_kgfB {h : sm_H} {d : Nat} {Q : Option mi_V → sm_H → Prop} {zp zs zz zk : Int} (hS : ab_Sh sx_sk h) (ok_zp : mi_in zp) (ok_zs : mi_in zs) (ok_zz : mi_in zz) (ok_zk : mi_in zk) (k0 : (∀ h1, ab_Sh sx_sk h1 → ab_Fr [] h h1 → ∃ Q1, me_E (d + 2) 116 0 (mi_entry 4 [.inr (.inr 107), .inl (zk), .inl (zz)]) [] h1 Q1 ∧ ∀ w h2, (∀ x, w = some x → mi_ok x) → Q1 w h2 → me_E (d + 3) 133 29 [some (.inr (.inr 107)), some (.inl (zp)), some (.inl (zs))] (mi_back w []) h2 Q)) : me_E (d + 3) 133 26 [some (.inr (.inr 107)), some (.inl (zp)), some (.inl (zs))] [.inl (zz), .inl (zk), .inr (.inr 107)] h Q := ms_kgfB_0 hS ok_zp ok_zs ok_zz ok_zk (fun h1 W => (k0) h1 W.1 (W.2.2.2.2.2 _ rfl))
set_option maxRecDepth 20000 in
theorem mp_kgfC_0 (h : sm_H) (d : Nat) (zp zs zz : Int) : mj_path [(133, (3, 0, sb_133))] sx_sk h 2 [] (d + 3, 133, 29, [some (.inr (.inr 107)), some (.inl (zp)), some (.inl (zs))], [.inl (zz)], [], []) = some ((d + 3, 133, 48, [some (.inr (.inr 107)), some (.inl (zp)), some (.inl (zs))], [], [], []), []) := rfl
theorem mi_tab_kgfC_0 : ∀ e ∈ ([(133, (3, 0, sb_133))] : mi_T), sc_P e.1 = some e.2 := mi_tb mi_P133 (mi_tb_e)
set_option maxRecDepth 20000 in
theorem ms_kgfC_0 {h : sm_H} {d : Nat} {Q : Option mi_V → sm_H → Prop} {zp zs zz : Int} (hS : ab_Sh sx_sk h) (ok_zp : mi_in zp) (ok_zs : mi_in zs) (ok_zz : mi_in zz) (kon : ∀ h1, me_W [] h h1 → Q none h1) : me_E (d + 3) 133 29 [some (.inr (.inr 107)), some (.inl (zp)), some (.inl (zs))] [.inl (zz)] h Q := mf_seg (mp_kgfC_0 h d zp zs zz) (mi_tab_kgfC_0) hS (mi_okL_c (trivial) (mi_okL_c (ok_zp) (mi_okL_c (ok_zs) (mi_okL_e)))) (mi_okS_cons (ok_zz) (mi_okS_e)) (mi_al_e) (fun h1 W _ hst => mf_ret (M := (3, 0, sb_133)) rfl rfl rfl hst (mi_al_e) (kon h1 W))
set_option maxRecDepth 20000 in
theorem mt_kgfC {h : sm_H} {d : Nat} {Q : Option mi_V → sm_H → Prop} {zp zs zz : Int} (hS : ab_Sh sx_sk h) (ok_zp : mi_in zp) (ok_zs : mi_in zs) (ok_zz : mi_in zz) (k0 : (∀ h1, ab_Sh sx_sk h1 → ab_Fr [] h h1 → Q none h1)) : me_E (d + 3) 133 29 [some (.inr (.inr 107)), some (.inl (zp)), some (.inl (zs))] [.inl (zz)] h Q := ms_kgfC_0 hS ok_zp ok_zs ok_zz (fun h1 W => (k0) h1 W.1 (W.2.2.2.2.2 _ rfl))
set_option maxRecDepth 20000 in
theorem mp_kgfD_0 (h : sm_H) (d : Nat) (zp zs zz zk : Int) : mj_path [(133, (3, 0, sb_133))] sx_sk h 0 [] (d + 3, 133, 44, [some (.inr (.inr 107)), some (.inl (zp)), some (.inl (zs))], [.inl (zz), .inl (zk), .inr (.inr 107)], [], []) = some ((d + 3, 133, 44, [some (.inr (.inr 107)), some (.inl (zp)), some (.inl (zs))], [.inl (zz), .inl (zk), .inr (.inr 107)], [], []), []) := rfl
theorem mi_tab_kgfD_0 : ∀ e ∈ ([(133, (3, 0, sb_133))] : mi_T), sc_P e.1 = some e.2 := mi_tb mi_P133 (mi_tb_e)
set_option maxRecDepth 20000 in
theorem ms_kgfD_0 {h : sm_H} {d : Nat} {Q : Option mi_V → sm_H → Prop} {zp zs zz zk : Int} (hS : ab_Sh sx_sk h) (ok_zp : mi_in zp) (ok_zs : mi_in zs) (ok_zz : mi_in zz) (ok_zk : mi_in zk) (kon : ∀ h1, me_W [] h h1 → ∃ Q1, me_E (d + 2) 116 0 (mi_entry 4 [.inr (.inr 107), .inl (zk), .inl (zz)]) [] h1 Q1 ∧ ∀ w h2, (∀ x, w = some x → mi_ok x) → Q1 w h2 → me_E (d + 3) 133 47 [some (.inr (.inr 107)), some (.inl (zp)), some (.inl (zs))] (mi_back w []) h2 Q) : me_E (d + 3) 133 44 [some (.inr (.inr 107)), some (.inl (zp)), some (.inl (zs))] [.inl (zz), .inl (zk), .inr (.inr 107)] h Q := mf_seg (mp_kgfD_0 h d zp zs zz zk) (mi_tab_kgfD_0) hS (mi_okL_c (trivial) (mi_okL_c (ok_zp) (mi_okL_c (ok_zs) (mi_okL_e)))) (mi_okS_cons (ok_zz) (mi_okS_cons (ok_zk) (mi_okS_cons (trivial) (mi_okS_e)))) (mi_al_e) (fun h1 W _ hst => let ⟨_, k1, k2⟩ := kon h1 W; mf_call (M := (3, 0, sb_133)) (M' := (4, 1, sb_116)) rfl rfl rfl rfl (Nat.le_of_ble_eq_true rfl) (Nat.le_of_ble_eq_true rfl) W.1 k1 k2)
set_option maxRecDepth 20000 in
theorem mt_kgfD {h : sm_H} {d : Nat} {Q : Option mi_V → sm_H → Prop} {zp zs zz zk : Int} (hS : ab_Sh sx_sk h) (ok_zp : mi_in zp) (ok_zs : mi_in zs) (ok_zz : mi_in zz) (ok_zk : mi_in zk) (k0 : (∀ h1, ab_Sh sx_sk h1 → ab_Fr [] h h1 → ∃ Q1, me_E (d + 2) 116 0 (mi_entry 4 [.inr (.inr 107), .inl (zk), .inl (zz)]) [] h1 Q1 ∧ ∀ w h2, (∀ x, w = some x → mi_ok x) → Q1 w h2 → me_E (d + 3) 133 47 [some (.inr (.inr 107)), some (.inl (zp)), some (.inl (zs))] (mi_back w []) h2 Q)) : me_E (d + 3) 133 44 [some (.inr (.inr 107)), some (.inl (zp)), some (.inl (zs))] [.inl (zz), .inl (zk), .inr (.inr 107)] h Q := ms_kgfD_0 hS ok_zp ok_zs ok_zz ok_zk (fun h1 W => (k0) h1 W.1 (W.2.2.2.2.2 _ rfl))
set_option maxRecDepth 20000 in
theorem mp_kgfE_0 (h : sm_H) (d : Nat) (zp zs zz : Int) : mj_path [(133, (3, 0, sb_133))] sx_sk h 1 [] (d + 3, 133, 47, [some (.inr (.inr 107)), some (.inl (zp)), some (.inl (zs))], [.inl (zz)], [], []) = some ((d + 3, 133, 48, [some (.inr (.inr 107)), some (.inl (zp)), some (.inl (zs))], [], [], []), []) := rfl
theorem mi_tab_kgfE_0 : ∀ e ∈ ([(133, (3, 0, sb_133))] : mi_T), sc_P e.1 = some e.2 := mi_tb mi_P133 (mi_tb_e)
set_option maxRecDepth 20000 in
theorem ms_kgfE_0 {h : sm_H} {d : Nat} {Q : Option mi_V → sm_H → Prop} {zp zs zz : Int} (hS : ab_Sh sx_sk h) (ok_zp : mi_in zp) (ok_zs : mi_in zs) (ok_zz : mi_in zz) (kon : ∀ h1, me_W [] h h1 → Q none h1) : me_E (d + 3) 133 47 [some (.inr (.inr 107)), some (.inl (zp)), some (.inl (zs))] [.inl (zz)] h Q := mf_seg (mp_kgfE_0 h d zp zs zz) (mi_tab_kgfE_0) hS (mi_okL_c (trivial) (mi_okL_c (ok_zp) (mi_okL_c (ok_zs) (mi_okL_e)))) (mi_okS_cons (ok_zz) (mi_okS_e)) (mi_al_e) (fun h1 W _ hst => mf_ret (M := (3, 0, sb_133)) rfl rfl rfl hst (mi_al_e) (kon h1 W))
set_option maxRecDepth 20000 in
theorem mt_kgfE {h : sm_H} {d : Nat} {Q : Option mi_V → sm_H → Prop} {zp zs zz : Int} (hS : ab_Sh sx_sk h) (ok_zp : mi_in zp) (ok_zs : mi_in zs) (ok_zz : mi_in zz) (k0 : (∀ h1, ab_Sh sx_sk h1 → ab_Fr [] h h1 → Q none h1)) : me_E (d + 3) 133 47 [some (.inr (.inr 107)), some (.inl (zp)), some (.inl (zs))] [.inl (zz)] h Q := ms_kgfE_0 hS ok_zp ok_zs ok_zz (fun h1 W => (k0) h1 W.1 (W.2.2.2.2.2 _ rfl))
/-! segments of the class: Growing -/
set_option maxRecDepth 20000 in
theorem mp_kgdr_0 (h : sm_H) (d : Nat) (zn : Int) : mj_path [(123, (2, 1, sb_123))] sx_sk h 11 [1] (d + 1, 123, 0, [some (.inr (.inr 107)), some (.inl (zn))], [], [], []) = some ((d + 1, 123, 35, [some (.inr (.inr 107)), some (.inl (zn))], [.inl ((0 : Int))], [.inr (.inl (13702, ((mx_l h 13702) * (Int64.ofNat 6364136223846793005)) + (Int64.ofNat 1442695040888963407)))], []), [zn ≤ ((0 : Int))]) := rfl
theorem mi_tab_kgdr_0 : ∀ e ∈ ([(123, (2, 1, sb_123))] : mi_T), sc_P e.1 = some e.2 := mi_tb mi_P123 (mi_tb_e)
set_option maxRecDepth 20000 in
theorem ms_kgdr_0 {h : sm_H} {d : Nat} {Q : Option mi_V → sm_H → Prop} {zn : Int} (hS : ab_Sh sx_sk h) (ok_zn : mi_in zn) (ho : (zn ≤ ((0 : Int)))) (kon : ∀ h1, me_W [.inr (.inl (13702, ((mx_l h 13702) * (Int64.ofNat 6364136223846793005)) + (Int64.ofNat 1442695040888963407)))] h h1 → Q (some (.inl ((0 : Int)))) h1) : me_E (d + 1) 123 0 [some (.inr (.inr 107)), some (.inl (zn))] [] h Q := mf_seg (mp_kgdr_0 h d zn) (mi_tab_kgdr_0) hS (mi_okL_c (trivial) (mi_okL_c (ok_zn) (mi_okL_e))) (mi_okS_e) (mi_al (ho) (mi_al_e)) (fun h1 W _ hst => mf_ret (M := (2, 1, sb_123)) rfl rfl rfl hst (mi_al_e) (kon h1 W))
set_option maxRecDepth 20000 in
theorem mp_kgdr_1 (h : sm_H) (d : Nat) (zn : Int) : mj_path [(123, (2, 1, sb_123))] sx_sk h 19 [0] (d + 1, 123, 0, [some (.inr (.inr 107)), some (.inl (zn))], [], [], []) = some ((d + 1, 123, 35, [some (.inr (.inr 107)), some (.inl (zn))], [.inl ((((((((mx_l h 13702) * (Int64.ofNat 6364136223846793005)) + (Int64.ofNat 1442695040888963407))).toUInt64 >>> ((Int32.ofInt ((33 : Int))).toInt64.toUInt64 &&& Int64.toUInt64 63)).toInt64) - ((((((mx_l h 13702) * (Int64.ofNat 6364136223846793005)) + (Int64.ofNat 1442695040888963407))).toUInt64 >>> ((Int32.ofInt ((33 : Int))).toInt64.toUInt64 &&& Int64.toUInt64 63)).toInt64) / ((Int32.ofInt zn).toInt64) * ((Int32.ofInt zn).toInt64)).toInt32.toInt)], [.inr (.inl (13702, ((mx_l h 13702) * (Int64.ofNat 6364136223846793005)) + (Int64.ofNat 1442695040888963407)))], []), [((0 : Int)) < zn, ((Int32.ofInt zn).toInt64) ≠ 0]) := rfl
theorem mi_tab_kgdr_1 : ∀ e ∈ ([(123, (2, 1, sb_123))] : mi_T), sc_P e.1 = some e.2 := mi_tb mi_P123 (mi_tb_e)
set_option maxRecDepth 20000 in
theorem ms_kgdr_1 {h : sm_H} {d : Nat} {Q : Option mi_V → sm_H → Prop} {zn : Int} (hS : ab_Sh sx_sk h) (ok_zn : mi_in zn) (ho : (((0 : Int)) < zn) ∧ (((Int32.ofInt zn).toInt64) ≠ 0)) (kon : ∀ h1, me_W [.inr (.inl (13702, ((mx_l h 13702) * (Int64.ofNat 6364136223846793005)) + (Int64.ofNat 1442695040888963407)))] h h1 → Q (some (.inl ((((((((mx_l h 13702) * (Int64.ofNat 6364136223846793005)) + (Int64.ofNat 1442695040888963407))).toUInt64 >>> ((Int32.ofInt ((33 : Int))).toInt64.toUInt64 &&& Int64.toUInt64 63)).toInt64) - ((((((mx_l h 13702) * (Int64.ofNat 6364136223846793005)) + (Int64.ofNat 1442695040888963407))).toUInt64 >>> ((Int32.ofInt ((33 : Int))).toInt64.toUInt64 &&& Int64.toUInt64 63)).toInt64) / ((Int32.ofInt zn).toInt64) * ((Int32.ofInt zn).toInt64)).toInt32.toInt))) h1) : me_E (d + 1) 123 0 [some (.inr (.inr 107)), some (.inl (zn))] [] h Q := mf_seg (mp_kgdr_1 h d zn) (mi_tab_kgdr_1) hS (mi_okL_c (trivial) (mi_okL_c (ok_zn) (mi_okL_e))) (mi_okS_e) (mi_al (ho.1) (mi_al (ho.2) (mi_al_e))) (fun h1 W _ hst => mf_ret (M := (2, 1, sb_123)) rfl rfl rfl hst (mi_al_e) (kon h1 W))
set_option maxRecDepth 20000 in
theorem mt_kgdr {h : sm_H} {d : Nat} {Q : Option mi_V → sm_H → Prop} {zn : Int} (hS : ab_Sh sx_sk h) (ok_zn : mi_in zn) (k0 : (zn ≤ ((0 : Int))) → (∀ h1, ab_Sh sx_sk h1 → mx_l h1 13702 = ((mx_l h 13702) * (Int64.ofNat 6364136223846793005)) + (Int64.ofNat 1442695040888963407) → ab_Fr [(13702, 13703)] h h1 → Q (some (.inl ((0 : Int)))) h1)) (k1 : (((0 : Int)) < zn) → ((((Int32.ofInt zn).toInt64) ≠ 0)) ∧ (∀ h1, ab_Sh sx_sk h1 → mx_l h1 13702 = ((mx_l h 13702) * (Int64.ofNat 6364136223846793005)) + (Int64.ofNat 1442695040888963407) → ab_Fr [(13702, 13703)] h h1 → Q (some (.inl ((((((((mx_l h 13702) * (Int64.ofNat 6364136223846793005)) + (Int64.ofNat 1442695040888963407))).toUInt64 >>> ((Int32.ofInt ((33 : Int))).toInt64.toUInt64 &&& Int64.toUInt64 63)).toInt64) - ((((((mx_l h 13702) * (Int64.ofNat 6364136223846793005)) + (Int64.ofNat 1442695040888963407))).toUInt64 >>> ((Int32.ofInt ((33 : Int))).toInt64.toUInt64 &&& Int64.toUInt64 63)).toInt64) / ((Int32.ofInt zn).toInt64) * ((Int32.ofInt zn).toInt64)).toInt32.toInt))) h1)) : me_E (d + 1) 123 0 [some (.inr (.inr 107)), some (.inl (zn))] [] h Q := Or.elim (mi_em .le (zn) (((0 : Int)))) (fun c0 => ms_kgdr_0 hS ok_zn (c0) (fun h1 W => (k0 c0) h1 W.1 (W.2.2.2.1 13702) (W.2.2.2.2.2 _ rfl))) (fun c0 => ms_kgdr_1 hS ok_zn ⟨c0, (k1 c0).1⟩ (fun h1 W => (k1 c0).2 h1 W.1 (W.2.2.2.1 13702) (W.2.2.2.2.2 _ rfl)))
