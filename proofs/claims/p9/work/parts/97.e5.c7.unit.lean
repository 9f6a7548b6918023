/-! unit of the reference, exactly -/
/-- a unit, once its pair is open -/
def gm_u (g : wk_g) (kw : Int → Bool) (u : Int) (r : List wk_E) (s : gm_S) : Option gm_C :=
  if g 122 u.toNat = 1 then (gm_c 5 (gm_n 3 s) (gm_y s)).map (fun t => ((5, u, gm_n 3 s) :: (2, 0, 0) :: r, gm_d t))
  else if g 122 u.toNat = 2 then (gm_c 6 (gm_n 2 s) (gm_y s)).bind (fun t => if 0 < gm_n 2 s then gm_sg g kw u ((2, 0, 0) :: r) (gm_d t) else some ((2, 0, 0) :: r, gm_d t))
  else gm_sg g kw u r s
theorem gm_n_op {o n : Int} {s : gm_S} : gm_n n (gm_op o s) = gm_n n s := by
  unfold gm_op
  by_cases c : o = 1
  · rw [if_pos c]
    unfold gm_n
    rw [gm_F_mk, gm_X_mk]
  · rw [if_neg c]
theorem gm_st_0 {g : wk_g} {kw : Int → Bool} {u o : Int} {r : List wk_E} {s : gm_S} : gm_st g kw (0, u, o) r s = gm_u g kw u r (gm_op o s) := by
  unfold gm_st gm_u
  rw [if_pos rfl, gm_n_op, gm_n_op]
theorem gm_y_0 {s : gm_S} (hf : gm_F s < 0) : gm_y s = s := by
  unfold gm_y
  rw [if_pos hf]
  rfl
theorem gm_y_1 {s : gm_S} {y : Int64} (hf : ¬ gm_F s < 0) (hy : gm_x (gm_X s) = y) : gm_y s = (y, gm_F s, gm_T s, gm_D s, gm_P s) := by
  unfold gm_y
  rw [if_neg hf, hy]
theorem gm_n_0 {n : Int} {s : gm_S} (hf : gm_F s < 0) : gm_n n s = 0 := by
  unfold gm_n
  rw [if_pos hf]
theorem gm_n_1 {n z : Int} {s : gm_S} {y : Int64} (hf : ¬ gm_F s < 0) (hy : gm_x (gm_X s) = y) (hz : gm_v y n = z) : gm_n n s = z := by
  unfold gm_n
  rw [if_neg hf, hy, hz]
theorem gm_c_t {k v : Int} {s t : gm_S} (h : gm_c k v s = some t) : gm_X t = gm_X s ∧ gm_F t = gm_F s ∧ gm_T t = gm_T s ++ [(k + 10 * ((gm_T s).length : Int), v, gm_D s)] ∧ gm_D t = gm_D s ∧ gm_P t = gm_P s := by
  unfold gm_c at h
  split at h
  · cases h
  · injection h with h
    subst h
    rw [gm_X_mk, gm_F_mk, gm_T_mk, gm_D_mk, gm_P_mk]
    exact ⟨rfl, rfl, rfl, rfl, rfl⟩
section GX8
variable {h : sm_H} {d : Nat} {zu zo : Int} {s : gm_S}
/-- behind the number, of a many -/
theorem un83x {zn : Int} {h1 : sm_H} {s1 : gm_S} (hi : gx_in h s) (hu0 : 0 ≤ zu) (hu1 : zu < 60) (ht : mi_f h 14029 ≤ 2985) (oo : mi_in zo) (on : mi_in zn) (g1 : ab_Sh sx_sk h1) (g2 : ab_Fr [(14047, 14048)] h h1) (hR1 : gx_R h1 s1) (eD : gm_D s1 = gm_D s) : me_E (d + 6) 210 83 [some (.inr (.inr 109)), some (.inl zu), some (.inl zo), none, none] [.inl zn] h1 (gx_Q h ((gm_c 5 zn s1).map (fun t => ((5, zu, zn) :: (2, 0, 0) :: wk_stk h, gm_d t)))) := by
  obtain ⟨i1, i2, i3, i4, i5, i6, i7, i8, i9, i10, i11⟩ := hi
  have ok : mi_in zu := ⟨by omega, by omega⟩
  have ez : ((Int32.ofInt zn).toInt64).toInt = zn := by rw [Int32.toInt_toInt64, mi_ti on]
  refine mt_unD g1 ok oo on ?_
  intro h2 p1 p2
  have e2 := me_nil p2
  subst e2
  refine ⟨_, me_comesx g1 ((me_f (c := 14028) g2 i1 rfl rfl).trans i2) ⟨by decide, by decide⟩ hR1, ?_⟩
  intro w h3 hw3 hq
  obtain ⟨q1, q2, ⟨z, rfl⟩, q3⟩ := hq
  rw [ez] at q3
  have k29 : mi_f h3 14029 = mi_f h 14029 := (me_f (c := 14029) q2 g1 rfl rfl).trans (me_f (c := 14029) g2 i1 rfl rfl)
  have k32 : mi_f h3 14032 = mi_f h 14032 := (me_f (c := 14032) q2 g1 rfl rfl).trans (me_f (c := 14032) g2 i1 rfl rfl)
  have k28 : mi_f h3 14028 = 1 := ((me_f (c := 14028) q2 g1 rfl rfl).trans (me_f (c := 14028) g2 i1 rfl rfl)).trans i2
  have kst : wk_stk h3 = wk_stk h := (wk_stk_fr q2 g1 rfl).trans (wk_stk_fr g2 i1 rfl)
  refine mt_unE q1 ok oo on (hw3 _ rfl) ?_ ?_
  · intro b1 b2 c1
    refine ⟨by omega, fun h4 r1 r2 r3 a5 a6 a7 r4 => ?_⟩
    have hF : ab_Fr wr_W1 h h4 := ((g2.wide (fun c hc => ab_swr_ok (by decide) hc)).trans (q2.wide (fun c hc => ab_swr_ok (by decide) hc))).trans (r4.wide (fun c hc => ab_swr_ok (by decide) hc))
    have l44 : mi_f h4 14044 = mi_f h3 14044 := me_f (c := 14044) r4 q1 rfl rfl
    refine ⟨rfl, r1, hF, ((me_f (c := 14034) r4 q1 rfl rfl).trans (me_f (c := 14034) q2 g1 rfl rfl)).trans (me_f (c := 14034) g2 i1 rfl rfl), ((me_f (c := 14033) r4 q1 rfl rfl).trans (me_f (c := 14033) q2 g1 rfl rfl)).trans (me_f (c := 14033) g2 i1 rfl rfl), ?_⟩
    rcases q3 with ⟨e1, e2⟩ | ⟨e1, t, e2, e3⟩
    · exact Or.inl ⟨by rw [e1]; rfl, l44.trans e2⟩
    · have eT := (gm_c_t e2).2.2.2.1
      refine Or.inr ⟨l44.trans e1, ((5, zu, zn) :: (2, 0, 0) :: wk_stk h, gm_d t), by rw [e2]; rfl, ?_, gx_R_d e3 r4 q1 rfl rfl rfl (by omega) (by omega) r3, ?_⟩
      · have := wk_push2 (by omega) r2 a5 a6 a7
        rw [kst] at this
        exact this
      · rw [me_f (c := 14032) r4 q1 rfl rfl, k32, i5]
        show wk_ul (wk_stk h) = wk_ul ((5, zu, zn) :: (2, 0, 0) :: wk_stk h)
        rw [wk_ul_c (by decide), wk_ul_o, Int.zero_add]
  · intro b1 b2 c1
    exfalso; omega
/-- .. of a maybe -/
theorem un208x {zn : Int} {h1 : sm_H} {s1 : gm_S} (hi : gx_in h s) (hD9 : gm_D s ≤ 990) (hu : wk_us h zu) (ht : mi_f h 14029 ≤ 2985) (oo : mi_in zo) (on : mi_in zn) (g1 : ab_Sh sx_sk h1) (g2 : ab_Fr [(14047, 14048)] h h1) (hR1 : gx_R h1 s1) (eD : gm_D s1 = gm_D s) (eF : gm_F s1 = gm_F s) : me_E (d + 6) 210 208 [some (.inr (.inr 109)), some (.inl zu), some (.inl zo), none, none] [.inl zn] h1 (gx_Q h ((gm_c 6 zn s1).bind (fun t => if 0 < zn then gm_sg (mi_a h) (gx_k h) zu ((2, 0, 0) :: wk_stk h) (gm_d t) else some ((2, 0, 0) :: wk_stk h, gm_d t)))) := by
  obtain ⟨i1, i2, i3, i4, i5, i6, i7, i8, i9, i10, i11⟩ := hi
  have hu0 := hu.1
  have hu1 := hu.2.1
  have ok : mi_in zu := ⟨by omega, by omega⟩
  have ez : ((Int32.ofInt zn).toInt64).toInt = zn := by rw [Int32.toInt_toInt64, mi_ti on]
  refine mt_unH g1 ok oo on ?_
  intro h2 p1 p2
  have e2 := me_nil p2
  subst e2
  refine ⟨_, me_comesx g1 ((me_f (c := 14028) g2 i1 rfl rfl).trans i2) ⟨by decide, by decide⟩ hR1, ?_⟩
  intro w h3 hw3 hq
  obtain ⟨q1, q2, ⟨z, rfl⟩, q3⟩ := hq
  rw [ez] at q3
  have k29 : mi_f h3 14029 = mi_f h 14029 := (me_f (c := 14029) q2 g1 rfl rfl).trans (me_f (c := 14029) g2 i1 rfl rfl)
  have k32 : mi_f h3 14032 = mi_f h 14032 := (me_f (c := 14032) q2 g1 rfl rfl).trans (me_f (c := 14032) g2 i1 rfl rfl)
  have k28 : mi_f h3 14028 = 1 := ((me_f (c := 14028) q2 g1 rfl rfl).trans (me_f (c := 14028) g2 i1 rfl rfl)).trans i2
  have kst : wk_stk h3 = wk_stk h := (wk_stk_fr q2 g1 rfl).trans (wk_stk_fr g2 i1 rfl)
  have eul : wk_ul ((2, 0, 0) :: wk_stk h) = wk_ul (wk_stk h) := by rw [wk_ul_o, Int.zero_add]
  -- the open end is pushed
  have fr : ∀ h4 : sm_H, ab_Fr [(14029, 14030), (14031, 14032), (21120, 21121), (21248, 21249), (21376, 21377)] h3 h4 → ab_Fr wr_W1 h h4 ∧ mi_f h4 14034 = mi_f h 14034 ∧ mi_f h4 14033 = mi_f h 14033 ∧ mi_f h4 14044 = mi_f h3 14044 ∧ mi_f h4 14032 = mi_f h 14032 := fun h4 r4 => ⟨((g2.wide (fun c hc => ab_swr_ok (by decide) hc)).trans (q2.wide (fun c hc => ab_swr_ok (by decide) hc))).trans (r4.wide (fun c hc => ab_swr_ok (by decide) hc)), ((me_f (c := 14034) r4 q1 rfl rfl).trans (me_f (c := 14034) q2 g1 rfl rfl)).trans (me_f (c := 14034) g2 i1 rfl rfl), ((me_f (c := 14033) r4 q1 rfl rfl).trans (me_f (c := 14033) q2 g1 rfl rfl)).trans (me_f (c := 14033) g2 i1 rfl rfl), me_f (c := 14044) r4 q1 rfl rfl, (me_f (c := 14032) r4 q1 rfl rfl).trans k32⟩
  refine mt_unI q1 ok oo on (hw3 _ rfl) ?_ ?_ ?_
  · intro b1 c1
    refine ⟨by omega, fun h4 r1 r2 r3 a5 a6 a7 r4 => ?_⟩
    obtain ⟨f1, f2, f3, f4, f5⟩ := fr h4 r4
    refine ⟨rfl, r1, f1, f2, f3, ?_⟩
    rcases q3 with ⟨e1, e2⟩ | ⟨e1, t, e2, e3⟩
    · exact Or.inl ⟨by rw [e1]; rfl, f4.trans e2⟩
    · have eT := (gm_c_t e2).2.2.2.1
      refine Or.inr ⟨f4.trans e1, ((2, 0, 0) :: wk_stk h, gm_d t), ?_, ?_, gx_R_d e3 r4 q1 rfl rfl rfl (by omega) (by omega) r3, ?_⟩
      · rw [e2, Option.bind_some, if_neg (by omega)]
      · have := wk_push1 (by omega) r2 a5 a6 a7
        rw [kst] at this
        exact this
      · rw [f5, i5]
        exact eul.symm
  · intro b1 b2 c1 c2
    refine ⟨by omega, fun h4 r1 r2 r3 a5 a6 a7 r4 => ?_⟩
    obtain ⟨f1, f2, f3, f4, f5⟩ := fr h4 r4
    rcases q3 with ⟨e1, e2⟩ | ⟨e1, t, e2, e3⟩
    · exact ⟨rfl, r1, f1, f2, f3, Or.inl ⟨by rw [e1]; rfl, f4.trans e2⟩⟩
    · exact absurd e1 c2
  · intro b1 b2 c1 c2
    refine ⟨by omega, fun h4 r1 r2 r3 a5 a6 a7 r4 => ?_⟩
    obtain ⟨f1, f2, f3, f4, f5⟩ := fr h4 r4
    rcases q3 with ⟨e1, e2⟩ | ⟨e1, t, e2, e3⟩
    · exfalso; omega
    · obtain ⟨t1, t2, t3, t4, t5⟩ := gm_c_t e2
      have est := wk_push1 (by omega) r2 a5 a6 a7
      rw [kst] at est
      have hg : wk_gc (mi_a h) (mi_a h4) := wk_gc_fr f1 i1 rfl
      have hk : gx_k h4 = gx_k h := gx_k_fr f1 i1 rfl rfl
      have dD : gm_D (gm_d t) = gm_D t + 1 := by unfold gm_d; rw [gm_D_mk]
      have dF : gm_F (gm_d t) = gm_F t := by unfold gm_d; rw [gm_F_mk]
      rw [e2, Option.bind_some, if_pos c1]
      have hi4 : gx_in h4 (gm_d t) := ⟨r1, (me_f (c := 14028) r4 q1 rfl rfl).trans k28, f4.trans e1, by omega, by rw [est, eul, f5]; exact i5, by omega, by omega, gx_R_d e3 r4 q1 rfl rfl rfl (by omega) (by omega) r3, by omega, by omega, by omega⟩
      refine ⟨_, me_singlex (d := d) hi4 (wk_us_g hg hu) (by omega), ?_⟩
      intro w h5 hw5 hq5
      have e := hq5.1
      subst e
      refine mt_unJ hq5.2.1 ok oo on ?_
      intro h6 u1 u2
      have e6 := me_nil u2
      subst e6
      rw [gm_sg_g hg, hk, est] at hq5
      exact gx_Q_fr i1 f1 f2 f3 hq5
/-- from where pairs have been looked at -/
theorem un24x (hi : gx_in h s) (hD9 : gm_D s ≤ 990) (hu : wk_us h zu) (ht : mi_f h 14029 ≤ 2985) (oo : mi_in zo) : me_E (d + 6) 210 24 [some (.inr (.inr 109)), some (.inl zu), some (.inl zo), none, none] [] h (gx_Q h (gm_u (mi_a h) (gx_k h) zu (wk_stk h) s)) := by
  obtain ⟨i1, i2, i3, i4, i5, i6, i7, i8, i9, i10, i11⟩ := id hi
  have hu0 := hu.1
  have hu1 := hu.2.1
  have ok : mi_in zu := ⟨by omega, by omega⟩
  have e35 : mi_f h 14035 = gm_F s := i8.2.2.1
  obtain ⟨y, hy⟩ : ∃ y, gm_x (gm_X s) = y := ⟨_, rfl⟩
  have Fnil : ∀ {h1 : sm_H}, ab_Fr [] h h1 → ab_Fr [(14047, 14048)] h h1 := fun g => g.wide (fun c hc => by cases hc)
  refine mt_unB i1 ok oo ?_ ?_ ?_ ?_ ?_ ?_ ?_ ?_ ?_
  · intro c1 c2
    refine ⟨by omega, fun h1 g1 g2 => ?_⟩
    have e3 := me_nil g2
    subst e3
    refine ⟨_, me_singlex (d := d) hi hu (by omega), ?_⟩
    intro w h3 hw3 hq
    have e := hq.1
    subst e
    refine mt_unK hq.2.1 ok oo ?_
    intro h6 u1 u2
    have e6 := me_nil u2
    subst e6
    unfold gm_u
    rw [if_neg c1, if_neg c2]
    exact hq
  · intro b c1 c2 c3
    exact absurd i2 c3
  · intro b1 b2 c1 c2 c3
    exact absurd i2 c3
  · intro b1 b2 c1 c2 c3 c4
    obtain ⟨z, hz⟩ : ∃ z, gm_v y 2 = z := ⟨_, rfl⟩
    have nf : ¬ gm_F s < 0 := by omega
    refine ⟨by omega, fun h1 g1 g2 => ?_⟩
    have e3 := me_nil g2
    subst e3
    refine ⟨_, me_drawx g1 (by decide) (by decide), ?_⟩
    intro w h3 hw3 hq
    obtain ⟨q1, q2, q3, q4⟩ := hq
    have R2 := gx_R_x i8 q2 g1 q3
    have ex : mx_l h1 14047 = gm_X s := i8.2.1
    rw [ex, hy, hz] at q4
    rw [hy] at R2
    subst q4
    refine mt_unF q1 ok oo (hw3 _ rfl) ?_
    intro h4 g4 g5
    unfold gm_u
    rw [if_neg c1, if_pos c2, gm_n_1 nf hy hz, gm_y_1 nf hy]
    exact un208x hi hD9 hu ht oo (hw3 _ rfl) g4 (q2.trans (g5.wide (fun c hc => by cases hc))) (gx_R_fr0 R2 g5 q1 rfl) (gm_D_mk _ _ _ _ _) (gm_F_mk _ _ _ _ _)
  · intro b1 b2 c1 c2 c3 c4
    have nf : gm_F s < 0 := by omega
    refine ⟨by omega, fun h1 g1 g2 => ?_⟩
    unfold gm_u
    rw [if_neg c1, if_pos c2, gm_n_0 nf, gm_y_0 nf]
    exact un208x hi hD9 hu ht oo ⟨by decide, by decide⟩ g1 (Fnil g2) (gx_R_fr0 i8 g2 i1 rfl) rfl rfl
  · intro b1 c1 c2
    exact absurd i2 c2
  · intro b1 b2 c1 c2
    exact absurd i2 c2
  · intro b1 b2 c1 c2 c3
    obtain ⟨z, hz⟩ : ∃ z, gm_v y 3 = z := ⟨_, rfl⟩
    have nf : ¬ gm_F s < 0 := by omega
    refine ⟨by omega, fun h1 g1 g2 => ?_⟩
    have e3 := me_nil g2
    subst e3
    refine ⟨_, me_drawx g1 (by decide) (by decide), ?_⟩
    intro w h3 hw3 hq
    obtain ⟨q1, q2, q3, q4⟩ := hq
    have R2 := gx_R_x i8 q2 g1 q3
    have ex : mx_l h1 14047 = gm_X s := i8.2.1
    rw [ex, hy, hz] at q4
    rw [hy] at R2
    subst q4
    refine mt_unC q1 ok oo (hw3 _ rfl) ?_
    intro h4 g4 g5
    unfold gm_u
    rw [if_pos c1, gm_n_1 nf hy hz, gm_y_1 nf hy]
    exact un83x hi hu0 hu1 ht oo (hw3 _ rfl) g4 (q2.trans (g5.wide (fun c hc => by cases hc))) (gx_R_fr0 R2 g5 q1 rfl) (gm_D_mk _ _ _ _ _)
  · intro b1 b2 c1 c2 c3
    have nf : gm_F s < 0 := by omega
    refine ⟨by omega, fun h1 g1 g2 => ?_⟩
    unfold gm_u
    rw [if_pos c1, gm_n_0 nf, gm_y_0 nf]
    exact un83x hi hu0 hu1 ht oo ⟨by decide, by decide⟩ g1 (Fnil g2) (gx_R_fr0 i8 g2 i1 rfl) rfl
/-- with pairs -/
def ux_Q (h : sm_H) (m : Option gm_C) (w : Option mi_V) (h' : sm_H) : Prop := w = none ∧ ab_Sh sx_sk h' ∧ ((m = none ∧ mi_f h' 14044 = 1) ∨ (mi_f h' 14044 = 0 ∧ ∃ c, m = some c ∧ wk_stk h' = c.1 ∧ gx_R h' c.2 ∧ mi_f h' 14032 = wk_ul c.1))
theorem gx_Q_u {h0 h' : sm_H} {m : Option gm_C} {w : Option mi_V} (hq : gx_Q h0 m w h') : ux_Q h m w h' := ⟨hq.1, hq.2.1, hq.2.2.2.2.2⟩
theorem gx_P_lt {h1 : sm_H} {L : Nat} (hlt : ∀ i, i < L → mi_a h1 168 i = mi_a h 168 i ∧ mi_a h1 169 i = mi_a h 169 i) : ∀ q : List (Nat × Nat), q.length ≤ L → gx_P h q → gx_P h1 q := by
  intro q
  induction q with
  | nil => intro _ _; trivial
  | cons p q ih =>
    intro hl hq
    obtain ⟨a, b, c⟩ := hq
    have hl' : q.length + 1 ≤ L := hl
    obtain ⟨e1, e2⟩ := hlt q.length (by omega)
    exact ⟨e1.trans a, b.imp_right (fun b => e2.trans b), ih (by omega) c⟩
theorem gx_op {h1 : sm_H} (hR : gx_R h s) (hS : ab_Sh sx_sk h) (g2 : mi_f h1 14030 = mi_f h 14030 + 1) (g3 : ∀ i, mi_a h1 168 i = if i = Int.toNat (mi_f h 14030) then mi_f h 14016 else mi_a h 168 i) (g4 : ab_Fr [(14030, 14031), (21504, 21505)] h h1) : gx_R h1 (gm_op 1 s) := by
  obtain ⟨r1, r2, r3, r4, r5, r6⟩ := hR
  have el : Int.toNat (mi_f h 14030) = (gm_P s).length := by omega
  unfold gm_op
  rw [if_pos rfl]
  unfold gx_R
  rw [gm_T_mk, gm_X_mk, gm_F_mk, gm_D_mk, gm_P_mk]
  refine ⟨gx_T_fr r1 g4 hS rfl, (me_l (c := 14047) g4 hS rfl rfl).trans r2, (me_f (c := 14035) g4 hS rfl rfl).trans r3, (me_f (c := 14031) g4 hS rfl rfl).trans r4, ?_, ?_, Or.inl rfl, ?_⟩
  · rw [g2, r5, List.length_cons]
    omega
  · rw [g3, if_pos el.symm]
    exact r1.1
  · refine gx_P_lt (L := (gm_P s).length) (fun i hi => ⟨?_, me_a (k := 169) g4 hS rfl rfl⟩) _ (Nat.le_refl _) r6
    rw [g3, if_neg (by omega)]
theorem me_unitx (hi : gx_in h s) (hD9 : gm_D s ≤ 990) (hu : wk_us h zu) (ht : mi_f h 14029 ≤ 2985) (hz : zo = 0 ∨ zo = 1) (hp : zo = 1 → 0 ≤ mi_f h 14030 ∧ mi_f h 14030 < 64) : me_E (d + 6) 210 0 [some (.inr (.inr 109)), some (.inl zu), some (.inl zo), none, none] [] h (ux_Q h (gm_st (mi_a h) (gx_k h) (0, zu, zo) (wk_stk h) s)) := by
  obtain ⟨i1, i2, i3, i4, i5, i6, i7, i8, i9, i10, i11⟩ := id hi
  have hu0 := hu.1
  have hu1 := hu.2.1
  have oo : mi_in zo := ⟨by omega, by omega⟩
  have ou : mi_in zu := ⟨by omega, by omega⟩
  rw [gm_st_0]
  refine mt_unA i1 ou oo ?_ ?_
  · intro c h1 g1 g2
    have e1 := me_nil g2
    subst e1
    have e : gm_op zo s = s := by
      unfold gm_op
      rw [if_neg (by omega)]
    rw [e]
    exact (un24x hi hD9 hu ht oo).imp (fun w h' hq => gx_Q_u hq)
  · intro b1 b2 c
    have z1 : zo = 1 := by omega
    have hp := hp z1
    refine ⟨by omega, fun h1 g1 g2 g3 g4 => ?_⟩
    rw [z1] at oo ⊢
    have est : wk_stk h1 = wk_stk h := wk_stk_fr g4 i1 rfl
    have e29 : mi_f h1 14029 = mi_f h 14029 := me_f (c := 14029) g4 i1 rfl rfl
    have e32 : mi_f h1 14032 = mi_f h 14032 := me_f (c := 14032) g4 i1 rfl rfl
    have hg : wk_gc (mi_a h) (mi_a h1) := wk_gc_fr g4 i1 rfl
    have hk : gx_k h1 = gx_k h := gx_k_fr g4 i1 rfl rfl
    have eF : gm_F (gm_op 1 s) = gm_F s := by unfold gm_op; rw [if_pos rfl, gm_F_mk]
    have eD : gm_D (gm_op 1 s) = gm_D s := by unfold gm_op; rw [if_pos rfl, gm_D_mk]
    have hi1 : gx_in h1 (gm_op 1 s) := ⟨g1, (me_f (c := 14028) g4 i1 rfl rfl).trans i2, (me_f (c := 14044) g4 i1 rfl rfl).trans i3, by omega, by rw [est, e32]; exact i5, by omega, by omega, gx_op i8 i1 g2 g3 g4, by omega, by omega, by omega⟩
    have key := un24x (d := d) (zo := 1) hi1 (by omega) (wk_us_g hg hu) (by omega) oo
    have eu : gm_u (mi_a h1) (gx_k h1) zu (wk_stk h1) (gm_op 1 s) = gm_u (mi_a h) (gx_k h) zu (wk_stk h) (gm_op 1 s) := by
      unfold gm_u
      rw [hk, est, hg 122 (by decide)]
      simp only [gm_sg_g hg]
    rw [eu] at key
    exact key.imp (fun w h' hq => gx_Q_u hq)
end GX8
