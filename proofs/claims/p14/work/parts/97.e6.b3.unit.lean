/-! again, unit of the reference, in parsing, exactly -/
theorem pm_up_get : ∀ (a : Nat) (T : List (Int × Int × Int)) (k : Nat), (pm_up a T)[k]? = if k = a then (T[k]?).map (fun x => (x.1, x.2.1 + 1, x.2.2)) else T[k]? := by
  intro a
  induction a with
  | zero =>
    intro T k
    cases T with
    | nil =>
      show ([] : List (Int × Int × Int))[k]? = _
      split <;> rfl
    | cons x q =>
      cases k with
      | zero => rfl
      | succ k => rfl
  | succ a ih =>
    intro T k
    cases T with
    | nil =>
      show ([] : List (Int × Int × Int))[k]? = _
      split <;> rfl
    | cons x q =>
      cases k with
      | zero => rfl
      | succ k =>
        show (pm_up a q)[k]? = if k + 1 = a + 1 then (q[k]?).map _ else q[k]?
        rw [ih]
        by_cases c : k = a
        · rw [if_pos c, if_pos (by omega)]
        · rw [if_neg c, if_neg (by omega)]
def px_we (wr : List (Nat × Nat)) : Bool := ab_in wr 19456 || ab_in wr 19712 || ab_in wr 17152 || ab_in wr 17280 || ab_in wr 16896 || ab_in wr 17664
theorem px_E_fr {h h' : sm_H} {wr : List (Nat × Nat)} (hF : ab_Fr wr h h') (hS : ab_Sh sx_sk h) (hw : px_we wr = false) : px_E h' = px_E h := by
  unfold px_we at hw
  simp only [Bool.or_eq_false_iff] at hw
  obtain ⟨⟨⟨⟨⟨w1, w2⟩, w3⟩, w4⟩, w5⟩, w6⟩ := hw
  have e1 : ∀ i, mi_a h' 152 i = mi_a h 152 i := fun i => me_a (k := 152) hF hS rfl w1
  have e2 : ∀ i, mx_b h' 154 i = mx_b h 154 i := fun i => me_b (k := 154) hF hS rfl w2
  have e3 : ∀ i, mx_b h' 134 i = mx_b h 134 i := fun i => me_b (k := 134) hF hS rfl w3
  have e4 : ∀ i, mx_b h' 135 i = mx_b h 135 i := fun i => me_b (k := 135) hF hS rfl w4
  have e5 : ∀ i, mi_a h' 132 i = mi_a h 132 i := fun i => me_a (k := 132) hF hS rfl w5
  have e6 : ∀ i, mx_b h' 138 i = mx_b h 138 i := fun i => me_b (k := 138) hF hS rfl w6
  unfold px_E
  simp only [e1, e2, e3, e4, e5, e6]
theorem px_V_fr {h h' : sm_H} {wr : List (Nat × Nat)} (hV : px_V h) (hF : ab_Fr wr h h') (hS : ab_Sh sx_sk h) (w1 : ab_in wr 14011 = false) (w2 : ab_in wr 19712 = false) : px_V h' := by
  intro i hi
  rw [me_f (c := 14011) hF hS rfl w1] at hi
  rw [me_b (k := 154) hF hS rfl w2]
  exact hV i hi
theorem px_tok_fr {h h' : sm_H} {wr : List (Nat × Nat)} (ht : wk_tok 0 h) (hF : ab_Fr wr h h') (hS : ab_Sh sx_sk h) (w1 : ab_in wr 14011 = false) (w2 : ab_in wr 19456 = false) (w3 : ab_in wr 14033 = false) : wk_tok 0 h' := fun _ => by
  rw [me_f (c := 14033) hF hS rfl w3, me_f (c := 14011) hF hS rfl w1, me_a (k := 152) hF hS rfl w2]
  exact ht rfl
theorem pm_en_g {l : Int} {s : gm_S} {g g' : wk_g} (hg : wk_gc g g') {i : Int} {r : List wk_E} : pm_en l g' i r s = pm_en l g i r s := by
  unfold pm_en
  rw [hg 114 (by decide)]
theorem pm_sg_g {l : Int} {s : gm_S} {g g' : wk_g} (hg : wk_gc g g') {E : pm_E} {u : Int} {r : List wk_E} : pm_sg l g' E u r s = pm_sg l g E u r s := by
  unfold pm_sg
  rw [hg 119 (by decide), hg 120 (by decide), hg 115 (by decide), pm_en_g hg]
theorem px_W_g {h h' : sm_H} {u : Int} (hg : wk_gc (mi_a h) (mi_a h')) (hW : px_W h u) : px_W h' u := by
  unfold px_W
  rw [hg 119 (by decide), hg 120 (by decide)]
  exact hW
section PX3
variable {h : sm_H} {d : Nat} {zu zo za : Int} {s : gm_S}
theorem px_Q_fr {h1 h' : sm_H} {m : Option gm_C} {w : Option mi_V} (hF : ab_Fr wr_W1 h h1) (hq : pxm_Q h1 m w h') : pxm_Q h m w h' := by
  obtain ⟨q0, q1, q2, q3⟩ := hq
  exact ⟨q0, q1, hF.trans q2, q3⟩
theorem gx_T_up {h h' : sm_H} {T : List (Int × Int × Int)} {a : Nat} (hT : gx_T h T) (ha : a < T.length) (ho : mi_a h 160 a = (a : Int)) (hv0 : 0 ≤ (mx_b h 163 a).toInt) (hv1 : (mx_b h 163 a).toInt ≤ 1000000) (e16 : mi_f h' 14016 = mi_f h 14016) (e158 : ∀ i, mi_a h' 158 i = mi_a h 158 i) (e159 : ∀ i, mi_a h' 159 i = mi_a h 159 i) (e160 : ∀ i, mi_a h' 160 i = mi_a h 160 i) (e163 : ∀ i, mx_b h' 163 i = if i = a then mx_b h 163 a + Int64.ofNat 1 else mx_b h 163 i) : gx_T h' (pm_up a T) := by
  obtain ⟨t1, t2, t3⟩ := hT
  unfold gx_T
  rw [pm_up_len, e16]
  simp only [e158, e159, e160]
  refine ⟨t1, fun k hk => ?_, t3⟩
  obtain ⟨a1, a2, a3⟩ := t2 k hk
  refine ⟨a1, a2, ?_, a3.2⟩
  have a3 := a3.1
  rw [pm_up_get, e163]
  by_cases c : k = a
  · subst c
    have e1 : (Int64.ofNat 1).toInt = 1 := rfl
    have e2 : (mx_b h 163 k + Int64.ofNat 1).toInt = (mx_b h 163 k).toInt + 1 := by
      rw [Int64.toInt_add, e1]
      exact Int.bmod_eq_of_le (by omega) (by omega)
    rw [ho, Int.toNat_natCast] at a3 ⊢
    rw [if_pos rfl, if_pos rfl, a3, e2]
    rfl
  · have n : (mi_a h 160 k).toNat ≠ a := fun e => c (t3 k a hk ha (by omega))
    rw [if_neg c, if_neg n]
    exact a3
theorem me_againp (hi : px_in h s) (hu : wk_us h zu) (hW : px_W h zu) (ht : mi_f h 14029 ≤ 2985) (a0 : 0 ≤ za) (a1 : za < gm_len s) (a2 : mi_a h 160 za.toNat = za) (v0 : 0 ≤ (mx_b h 163 za.toNat).toInt) (v1 : (mx_b h 163 za.toNat).toInt ≤ 1000000) : me_E (d + 6) 227 0 [some (.inr (.inr 109)), some (.inl zu), some (.inl za), none] [] h (pxm_Q h (pm_ag 0 (mi_a h) (px_E h) zu za (wk_stk h) s)) := by
  obtain ⟨i1, i2, i3, i4, i5, i6, i7, i8, i9, i10, i11, i12, i13⟩ := id hi
  have hu0 := hu.1
  have hu1 := hu.2.1
  have ok : mi_in zu := ⟨by omega, by omega⟩
  obtain ⟨r1, r2, r3, r4, r5, r6⟩ := id i9
  dsimp only at r1 r2 r3 r4 r5 r6
  have r16 : mi_f h 14016 = gm_len s := r1.1
  have b16 := me_fb (c := 14016) i1 rfl
  have b11 := me_fb (c := 14011) i1 rfl
  have hza : mi_in za := ⟨by omega, by omega⟩
  obtain ⟨n0, n1, n2⟩ := i10 rfl
  have eK : pm_h (px_E h) zu s = px_bit (mx_b h 134 zu.toNat) (mi_a h 152 (mi_f h 14033).toNat) := by
    show px_bit _ (mi_a h 152 (gm_F s).toNat) = _
    rw [r2]
  refine mt_agA i1 ok hza ?_ ?_ ?_
  · intro b c1 c2
    exact absurd i2 c1
  · intro b1 b2 c1 c2
    exact absurd i2 c1
  · intro b c1
    refine ⟨by omega, fun h1 g1 g2 => ?_⟩
    have e3 := me_nil g2
    subst e3
    refine ⟨_, me_hasx i1 n0 (by omega), ?_⟩
    intro w h3 hw hq
    obtain ⟨rfl, rfl⟩ := hq
    rw [← eK]
    unfold pm_ag
    by_cases ch : pm_h (px_E h3) zu s = true
    · rw [if_pos ch, if_pos ch]
      refine mt_agB i1 ok hza ⟨by decide, by decide⟩ ?_ ?_ ?_
      · intro b1 b2 c2 c3
        exact absurd i2 c3
      · intro b1 b2 c2 c3
        refine ⟨by omega, fun h4 g4 g5 x5 x6 x7 x8 g6 => ?_⟩
        have est := wk_push1 i5 g5 x5 x6 x7
        have hg : wk_gc (mi_a h3) (mi_a h4) := wk_gc_fr g6 i1 rfl
        have hE : px_E h4 = px_E h3 := px_E_fr g6 i1 rfl
        have e32 : mi_f h4 14032 = mi_f h3 14032 := me_f (c := 14032) g6 i1 rfl rfl
        have e34 : mi_f h4 14034 = mi_f h3 14034 := me_f (c := 14034) g6 i1 rfl rfl
        obtain ⟨y1, y2, y3, y4⟩ := pm_inc_e (s := s) (a := za)
        have hR4 : px_R h4 (wk_stk h4, pm_inc za s) := by
          unfold px_R gm_len
          dsimp only
          rw [y1, y2, y3, y4]
          refine ⟨gx_T_up r1 (by unfold gm_len at a1; omega) (by omega) v0 v1 (me_f (c := 14016) g6 i1 rfl rfl) (fun i => me_a (k := 158) g6 i1 rfl rfl) (fun i => me_a (k := 159) g6 i1 rfl rfl) (fun i => me_a (k := 160) g6 i1 rfl rfl) x8, (me_f (c := 14033) g6 i1 rfl rfl).trans r2, (me_f (c := 14031) g6 i1 rfl rfl).trans r3, (me_f (c := 14030) g6 i1 rfl rfl).trans r4, gx_P_fr g6 i1 rfl _ r5, fun x hx x5 => ?_⟩
          rw [pm_up_len, me_a (k := 160) g6 i1 rfl rfl]
          rw [est] at hx
          rcases List.mem_cons.mp hx with rfl | hx
          · exact ⟨a0, a1, a2⟩
          · exact r6 x hx x5
        have hi4 : px_in h4 (pm_inc za s) := ⟨g4, (me_f (c := 14028) g6 i1 rfl rfl).trans i2, (me_f (c := 14044) g6 i1 rfl rfl).trans i3, by omega, by omega, by rw [est, wk_ul_c (by decide), e32]; exact i6, by omega, by omega, hR4, px_tok_fr i10 g6 i1 rfl rfl rfl, px_V_fr i11 g6 i1 rfl rfl, by rw [y3]; exact i12, by rw [y3]; exact i13⟩
        refine ⟨_, me_singlep (d := d) hi4 (wk_us_g hg hu) (px_W_g hg hW) (by omega), ?_⟩
        intro w h5 hw5 hq
        have e := hq.1
        subst e
        refine mt_agC hq.2.1 ok hza ⟨by decide, by decide⟩ ?_
        intro h6 u1 u2
        have e6 := me_nil u2
        subst e6
        rw [pm_sg_g hg, hE, est] at hq
        exact px_Q_fr (g6.wide (fun c hc => ab_swr_ok (by decide) hc)) hq
      · intro c2
        exact absurd c2 (by decide)
    · rw [if_neg ch, if_neg ch]
      refine mt_agB i1 ok hza ⟨by decide, by decide⟩ ?_ ?_ ?_
      · intro b1 b2 c2
        exact absurd rfl c2
      · intro b1 b2 c2
        exact absurd rfl c2
      · intro c2 h4 g4 g5
        have e5 := me_nil g5
        subst e5
        exact ⟨rfl, g4, ab_Fr.refl, Or.inr ⟨i3, i4, (wk_stk h4, s), rfl, rfl, i9, i6⟩⟩
/-- a many -/
theorem un83p (hi : px_in h s) (hu0 : 0 ≤ zu) (hu1 : zu < 60) (ht : mi_f h 14029 ≤ 2985) (oo : mi_in zo) : me_E (d + 6) 210 83 [some (.inr (.inr 109)), some (.inl zu), some (.inl zo), none, none] [.inl 0] h (pxm_Q h ((gm_c 5 0 s).map (fun t => ((5, zu, gm_len s) :: (2, 0, 0) :: wk_stk h, gm_d t)))) := by
  obtain ⟨i1, i2, i3, i4, i5, i6, i7, i8, i9, i10, i11, i12, i13⟩ := hi
  have ok : mi_in zu := ⟨by omega, by omega⟩
  have ez : ((Int32.ofInt (0 : Int)).toInt64).toInt = 0 := by decide
  refine mt_unD i1 ok oo ⟨by decide, by decide⟩ ?_
  intro h2 p1 p2
  have e2 := me_nil p2
  subst e2
  refine ⟨_, me_comesp i1 i2 ⟨by decide, by decide⟩ i9, ?_⟩
  intro w h3 hw3 hq
  obtain ⟨q1, q2, ⟨z, rfl⟩, q3⟩ := hq
  rw [ez] at q3
  have k29 : mi_f h3 14029 = mi_f h2 14029 := me_f (c := 14029) q2 i1 rfl rfl
  have k32 : mi_f h3 14032 = mi_f h2 14032 := me_f (c := 14032) q2 i1 rfl rfl
  have k28 : mi_f h3 14028 = 0 := (me_f (c := 14028) q2 i1 rfl rfl).trans i2
  have kst : wk_stk h3 = wk_stk h2 := wk_stk_fr q2 i1 rfl
  refine mt_unE q1 ok oo ⟨by decide, by decide⟩ (hw3 _ rfl) ?_ ?_
  · intro b1 b2 c1
    exfalso; omega
  · intro b1 b2 c1
    refine ⟨by omega, fun h4 r1 r2 r3 a5 a6 a7 r4 => ?_⟩
    have hF : ab_Fr wr_W1 h2 h4 := (q2.wide (fun c hc => ab_swr_ok (by decide) hc)).trans (r4.wide (fun c hc => ab_swr_ok (by decide) hc))
    have l44 : mi_f h4 14044 = mi_f h3 14044 := me_f (c := 14044) r4 q1 rfl rfl
    have l34 : mi_f h4 14034 = mi_f h2 14034 := (me_f (c := 14034) r4 q1 rfl rfl).trans (me_f (c := 14034) q2 i1 rfl rfl)
    refine ⟨rfl, r1, hF, ?_⟩
    rcases q3 with ⟨e1, e2⟩ | ⟨e1, ew, eo, t, e2, e3⟩
    · exact Or.inl ⟨by rw [e1]; rfl, Or.inl (l44.trans e2)⟩
    · obtain ⟨-, x2, x3, x4, x5⟩ := gm_c_e e2
      injection ew with ew
      injection ew with ew
      subst ew
      have est := wk_push2 (by omega) r2 a5 a6 a7
      rw [kst] at est
      have nn : 0 ≤ gm_len s := by unfold gm_len; omega
      have R := px_R_d e3 r4 q1 rfl rfl rfl rfl (by omega) (by omega) r3
      refine Or.inr ⟨l44.trans e1, by omega, ((5, zu, gm_len s) :: (2, 0, 0) :: wk_stk h2, gm_d t), by rw [e2]; rfl, est, ⟨R.1, R.2.1, R.2.2.1, R.2.2.2.1, R.2.2.2.2.1, fun x hx x5 => ?_⟩, ?_⟩
      · rcases List.mem_cons.mp hx with rfl | hx
        · refine ⟨nn, ?_, ?_⟩
          · show gm_len s < gm_len (gm_d t)
            rw [gm_d_e.1]
            omega
          · show mi_a h4 160 (gm_len s).toNat = gm_len s
            rw [me_a (k := 160) r4 q1 rfl rfl]
            exact eo
        · rcases List.mem_cons.mp hx with rfl | hx
          · exact absurd x5 (show ¬ (2 : Int) = 5 by decide)
          · exact R.2.2.2.2.2 x hx x5
      · rw [me_f (c := 14032) r4 q1 rfl rfl, k32, i6]
        show wk_ul (wk_stk h2) = wk_ul ((5, zu, gm_len s) :: (2, 0, 0) :: wk_stk h2)
        rw [wk_ul_c (by decide), wk_ul_o, Int.zero_add]
/-- a maybe -/
theorem un208p {zn : Int} (hi : px_in h s) (hD9 : gm_D s ≤ 990) (hu : wk_us h zu) (hW : px_W h zu) (ht : mi_f h 14029 ≤ 2985) (oo : mi_in zo) (on : mi_in zn) : me_E (d + 6) 210 208 [some (.inr (.inr 109)), some (.inl zu), some (.inl zo), none, none] [.inl zn] h (pxm_Q h ((gm_c 6 zn s).bind (fun t => if 0 < zn then pm_sg 0 (mi_a h) (px_E h) zu ((2, 0, 0) :: wk_stk h) (gm_d t) else some ((2, 0, 0) :: wk_stk h, gm_d t)))) := by
  obtain ⟨i1, i2, i3, i4, i5, i6, i7, i8, i9, i10, i11, i12, i13⟩ := hi
  have hu0 := hu.1
  have hu1 := hu.2.1
  have ok : mi_in zu := ⟨by omega, by omega⟩
  have ez : ((Int32.ofInt zn).toInt64).toInt = zn := by rw [Int32.toInt_toInt64, mi_ti on]
  refine mt_unH i1 ok oo on ?_
  intro h2 p1 p2
  have e2 := me_nil p2
  subst e2
  refine ⟨_, me_comesp i1 i2 ⟨by decide, by decide⟩ i9, ?_⟩
  intro w h3 hw3 hq
  obtain ⟨q1, q2, ⟨z, rfl⟩, q3⟩ := hq
  rw [ez] at q3
  have k29 : mi_f h3 14029 = mi_f h2 14029 := me_f (c := 14029) q2 i1 rfl rfl
  have k32 : mi_f h3 14032 = mi_f h2 14032 := me_f (c := 14032) q2 i1 rfl rfl
  have k28 : mi_f h3 14028 = 0 := (me_f (c := 14028) q2 i1 rfl rfl).trans i2
  have kst : wk_stk h3 = wk_stk h2 := wk_stk_fr q2 i1 rfl
  have eul : wk_ul ((2, 0, 0) :: wk_stk h2) = wk_ul (wk_stk h2) := by rw [wk_ul_o, Int.zero_add]
  have fr : ∀ h4 : sm_H, ab_Fr [(14029, 14030), (14031, 14032), (21120, 21121), (21248, 21249), (21376, 21377)] h3 h4 → ab_Fr wr_W1 h2 h4 ∧ mi_f h4 14034 = mi_f h2 14034 ∧ mi_f h4 14044 = mi_f h3 14044 ∧ mi_f h4 14032 = mi_f h2 14032 := fun h4 r4 => ⟨(q2.wide (fun c hc => ab_swr_ok (by decide) hc)).trans (r4.wide (fun c hc => ab_swr_ok (by decide) hc)), (me_f (c := 14034) r4 q1 rfl rfl).trans (me_f (c := 14034) q2 i1 rfl rfl), me_f (c := 14044) r4 q1 rfl rfl, (me_f (c := 14032) r4 q1 rfl rfl).trans k32⟩
  have st2 : ∀ x ∈ ((2, 0, 0) :: wk_stk h2 : List wk_E), x.1 = 5 → x ∈ wk_stk h2 := fun x hx x5 => by
    rcases List.mem_cons.mp hx with rfl | hx
    · exact absurd x5 (show ¬ (2 : Int) = 5 by decide)
    · exact hx
  refine mt_unI q1 ok oo on (hw3 _ rfl) ?_ ?_ ?_
  · intro b1 c1
    refine ⟨by omega, fun h4 r1 r2 r3 a5 a6 a7 r4 => ?_⟩
    obtain ⟨f1, f2, f4, f5⟩ := fr h4 r4
    refine ⟨rfl, r1, f1, ?_⟩
    rcases q3 with ⟨e1, e2⟩ | ⟨e1, -, -, t, e2, e3⟩
    · exact Or.inl ⟨by rw [e1]; rfl, Or.inl (f4.trans e2)⟩
    · have eT := (gm_c_t e2).2.2.2.1
      refine Or.inr ⟨f4.trans e1, by omega, ((2, 0, 0) :: wk_stk h2, gm_d t), ?_, ?_, px_R_st (px_R_d e3 r4 q1 rfl rfl rfl rfl (by omega) (by omega) r3) st2, ?_⟩
      · rw [e2, Option.bind_some, if_neg (by omega)]
      · have := wk_push1 (by omega) r2 a5 a6 a7
        rw [kst] at this
        exact this
      · rw [f5, i6]
        exact eul.symm
  · intro b1 b2 c1 c2
    refine ⟨by omega, fun h4 r1 r2 r3 a5 a6 a7 r4 => ?_⟩
    obtain ⟨f1, f2, f4, f5⟩ := fr h4 r4
    rcases q3 with ⟨e1, e2⟩ | ⟨e1, -, -, t, e2, e3⟩
    · exact ⟨rfl, r1, f1, Or.inl ⟨by rw [e1]; rfl, Or.inl (f4.trans e2)⟩⟩
    · exact absurd e1 c2
  · intro b1 b2 c1 c2
    refine ⟨by omega, fun h4 r1 r2 r3 a5 a6 a7 r4 => ?_⟩
    obtain ⟨f1, f2, f4, f5⟩ := fr h4 r4
    rcases q3 with ⟨e1, e2⟩ | ⟨e1, -, -, t, e2, e3⟩
    · exfalso; omega
    · obtain ⟨t1, t2, t3, t4, t5⟩ := gm_c_t e2
      have est := wk_push1 (by omega) r2 a5 a6 a7
      rw [kst] at est
      have hg : wk_gc (mi_a h2) (mi_a h4) := wk_gc_fr f1 i1 rfl
      have hE : px_E h4 = px_E h2 := px_E_fr f1 i1 rfl
      have dD : gm_D (gm_d t) = gm_D t + 1 := by unfold gm_d; rw [gm_D_mk]
      rw [e2, Option.bind_some, if_pos c1]
      have R4 : px_R h4 (wk_stk h4, gm_d t) := by
        rw [est]
        exact px_R_st (px_R_d e3 r4 q1 rfl rfl rfl rfl (by omega) (by omega) r3) st2
      have tk : wk_tok 0 h4 := px_tok_fr (px_tok_fr i10 q2 i1 rfl rfl rfl) r4 q1 rfl rfl rfl
      have hi4 : px_in h4 (gm_d t) := ⟨r1, (me_f (c := 14028) r4 q1 rfl rfl).trans k28, f4.trans e1, by omega, by omega, by rw [est, eul, f5]; exact i6, by omega, by omega, R4, tk, px_V_fr (px_V_fr i11 q2 i1 rfl rfl) r4 q1 rfl rfl, by omega, by omega⟩
      refine ⟨_, me_singlep (d := d) hi4 (wk_us_g hg hu) (px_W_g hg hW) (by omega), ?_⟩
      intro w h5 hw5 hq5
      have e := hq5.1
      subst e
      refine mt_unJ hq5.2.1 ok oo on ?_
      intro h6 u1 u2
      have e6 := me_nil u2
      subst e6
      rw [pm_sg_g hg, hE, est] at hq5
      exact px_Q_fr f1 hq5
theorem un24p (hi : px_in h s) (hD9 : gm_D s ≤ 990) (hu : wk_us h zu) (hW : px_W h zu) (ht : mi_f h 14029 ≤ 2985) (oo : mi_in zo) : me_E (d + 6) 210 24 [some (.inr (.inr 109)), some (.inl zu), some (.inl zo), none, none] [] h (pxm_Q h (pm_u 0 (mi_a h) (px_E h) zu (wk_stk h) s)) := by
  obtain ⟨i1, i2, i3, i4, i5, i6, i7, i8, i9, i10, i11, i12, i13⟩ := id hi
  have hu0 := hu.1
  have hu1 := hu.2.1
  have ok : mi_in zu := ⟨by omega, by omega⟩
  have b11 := me_fb (c := 14011) i1 rfl
  obtain ⟨n0, n1, n2⟩ := i10 rfl
  have r2 : mi_f h 14033 = gm_F s := i9.2.1
  have eK : pm_h (px_E h) zu s = px_bit (mx_b h 134 zu.toNat) (mi_a h 152 (mi_f h 14033).toNat) := by
    show px_bit _ (mi_a h 152 (gm_F s).toNat) = _
    rw [r2]
  refine mt_unB i1 ok oo ?_ ?_ ?_ ?_ ?_ ?_ ?_ ?_ ?_
  · intro c1 c2
    refine ⟨by omega, fun h1 g1 g2 => ?_⟩
    have e3 := me_nil g2
    subst e3
    refine ⟨_, me_singlep (d := d) hi hu hW (by omega), ?_⟩
    intro w h3 hw3 hq
    have e := hq.1
    subst e
    refine mt_unK hq.2.1 ok oo ?_
    intro h6 u1 u2
    have e6 := me_nil u2
    subst e6
    unfold pm_u
    rw [if_neg c1, if_neg c2]
    exact hq
  · intro b c1 c2 c3 c4
    refine ⟨by omega, fun h1 g1 g2 => ?_⟩
    have e3 := me_nil g2
    subst e3
    refine ⟨_, me_hasx i1 n0 (by omega), ?_⟩
    intro w h3 hw3 hq
    obtain ⟨rfl, rfl⟩ := hq
    rw [← eK]
    unfold pm_u
    rw [if_neg c1, if_pos c2]
    by_cases ch : pm_h (px_E h3) zu s = true
    · simp only [if_pos ch]
      refine mt_unG i1 ok oo ⟨by decide, by decide⟩ ?_ ?_
      · intro c
        exact absurd c (by decide)
      · intro c h4 g4 g5
        have e5 := me_nil g5
        subst e5
        have := un208p (d := d) (zo := zo) (zn := 1) hi hD9 hu hW ht oo ⟨by decide, by decide⟩
        simp only [if_pos (show (0 : Int) < 1 by decide)] at this
        exact this
    · simp only [if_neg ch]
      refine mt_unG i1 ok oo ⟨by decide, by decide⟩ ?_ ?_
      · intro c h4 g4 g5
        have e5 := me_nil g5
        subst e5
        have := un208p (d := d) (zo := zo) (zn := 0) hi hD9 hu hW ht oo ⟨by decide, by decide⟩
        simp only [if_neg (show ¬ (0 : Int) < 0 by decide)] at this
        exact this
      · intro c
        exact absurd rfl c
  · intro b1 b2 c1 c2 c3 c4
    exfalso; omega
  · intro b1 b2 c1 c2 c3
    exfalso; omega
  · intro b1 b2 c1 c2 c3
    exfalso; omega
  · intro b1 c1 c2 c3
    refine ⟨by omega, fun h1 g1 g2 => ?_⟩
    have e3 := me_nil g2
    subst e3
    unfold pm_u
    rw [if_pos c1]
    exact un83p hi hu0 hu1 ht oo
  · intro b1 b2 c1 c2 c3
    exfalso; omega
  · intro b1 b2 c1 c2
    exfalso; omega
  · intro b1 b2 c1 c2
    exfalso; omega
/-- with pairs -/
def up_Q (h : sm_H) (m : Option gm_C) (w : Option mi_V) (h' : sm_H) : Prop := w = none ∧ ab_Sh sx_sk h' ∧ ((m = none ∧ (mi_f h' 14044 = 1 ∨ 0 ≤ mi_f h' 14034)) ∨ (mi_f h' 14044 = 0 ∧ mi_f h' 14034 < 0 ∧ ∃ c, m = some c ∧ wk_stk h' = c.1 ∧ px_R h' c ∧ mi_f h' 14032 = wk_ul c.1))
theorem px_Q_u {h0 h' : sm_H} {m : Option gm_C} {w : Option mi_V} (hq : pxm_Q h0 m w h') : up_Q h m w h' := ⟨hq.1, hq.2.1, hq.2.2.2⟩
theorem px_op {h1 : sm_H} {r : List wk_E} (hR : px_R h (r, s)) (hS : ab_Sh sx_sk h) (g2 : mi_f h1 14030 = mi_f h 14030 + 1) (g3 : ∀ i, mi_a h1 168 i = if i = Int.toNat (mi_f h 14030) then mi_f h 14016 else mi_a h 168 i) (g4 : ab_Fr [(14030, 14031), (21504, 21505)] h h1) : px_R h1 (r, gm_op 1 s) := by
  obtain ⟨r1, r2, r3, r4, r5, r6⟩ := hR
  dsimp only at r1 r2 r3 r4 r5 r6
  unfold gm_op
  rw [if_pos rfl]
  unfold px_R gm_len
  dsimp only
  simp only [gm_T_mk, gm_F_mk, gm_D_mk, gm_P_mk]
  refine ⟨gx_T_fr r1 g4 hS rfl, (me_f (c := 14033) g4 hS rfl rfl).trans r2, (me_f (c := 14031) g4 hS rfl rfl).trans r3, by rw [g2, r4]; show _ = (((gm_P s).length + 1 : Nat) : Int); omega, ⟨?_, Or.inl rfl, ?_⟩, fun x hx x5 => ?_⟩
  · rw [g3, if_pos (by omega)]
    exact r1.1
  · refine gx_P_lt (L := (gm_P s).length) (fun i hi => ⟨?_, me_a (k := 169) g4 hS rfl rfl⟩) _ (Nat.le_refl _) r5
    rw [g3, if_neg (by omega)]
  · obtain ⟨a1, a2, a3⟩ := r6 x hx x5
    exact ⟨a1, a2, (me_a (k := 160) g4 hS rfl rfl).trans a3⟩
theorem pm_u_g {l : Int} {g g' : wk_g} {E : pm_E} {u : Int} {r : List wk_E} (hg : wk_gc g g') : pm_u l g' E u r s = pm_u l g E u r s := by
  unfold pm_u
  rw [hg 122 (by decide), pm_sg_g hg]
  simp only [pm_sg_g hg]
theorem me_unitp (hi : px_in h s) (hD9 : gm_D s ≤ 990) (hu : wk_us h zu) (hW : px_W h zu) (ht : mi_f h 14029 ≤ 2985) (hz : zo = 0 ∨ zo = 1) (hp : zo = 1 → 0 ≤ mi_f h 14030 ∧ mi_f h 14030 < 64) : me_E (d + 6) 210 0 [some (.inr (.inr 109)), some (.inl zu), some (.inl zo), none, none] [] h (up_Q h (pm_st (mi_a h) (px_E h) 0 (0, zu, zo) (wk_stk h) s)) := by
  obtain ⟨i1, i2, i3, i4, i5, i6, i7, i8, i9, i10, i11, i12, i13⟩ := id hi
  have hu0 := hu.1
  have hu1 := hu.2.1
  have oo : mi_in zo := ⟨by omega, by omega⟩
  have ou : mi_in zu := ⟨by omega, by omega⟩
  rw [pm_st_0]
  refine mt_unA i1 ou oo ?_ ?_
  · intro c h1 g1 g2
    have e1 := me_nil g2
    subst e1
    have e : gm_op zo s = s := by
      unfold gm_op
      rw [if_neg (by omega)]
    rw [e]
    exact (un24p hi hD9 hu hW ht oo).imp (fun w h' hq => px_Q_u hq)
  · intro b1 b2 c
    have z1 : zo = 1 := by omega
    have hp := hp z1
    refine ⟨by omega, fun h1 g1 g2 g3 g4 => ?_⟩
    rw [z1] at oo ⊢
    have est : wk_stk h1 = wk_stk h := wk_stk_fr g4 i1 rfl
    have e29 : mi_f h1 14029 = mi_f h 14029 := me_f (c := 14029) g4 i1 rfl rfl
    have e32 : mi_f h1 14032 = mi_f h 14032 := me_f (c := 14032) g4 i1 rfl rfl
    have e34 : mi_f h1 14034 = mi_f h 14034 := me_f (c := 14034) g4 i1 rfl rfl
    have hg : wk_gc (mi_a h) (mi_a h1) := wk_gc_fr g4 i1 rfl
    have hE : px_E h1 = px_E h := px_E_fr g4 i1 rfl
    have eD : gm_D (gm_op 1 s) = gm_D s := by unfold gm_op; rw [if_pos rfl, gm_D_mk]
    have hi1 : px_in h1 (gm_op 1 s) := ⟨g1, (me_f (c := 14028) g4 i1 rfl rfl).trans i2, (me_f (c := 14044) g4 i1 rfl rfl).trans i3, by omega, by omega, by rw [est, e32]; exact i6, by omega, by omega, by rw [est]; exact px_op i9 i1 g2 g3 g4, px_tok_fr i10 g4 i1 rfl rfl rfl, px_V_fr i11 g4 i1 rfl rfl, by omega, by omega⟩
    have key := un24p (d := d) (zo := 1) hi1 (by omega) (wk_us_g hg hu) (px_W_g hg hW) (by omega) oo
    rw [hE, est, pm_u_g hg] at key
    exact key.imp (fun w h' hq => px_Q_u hq)
end PX3
/-! choose, swap of the reference, in parsing, exactly -/
theorem pm_it_5 {g : wk_g} : ∀ (n : Nat) (u : Int), ∀ x ∈ wk_it g n u, x.1 ≠ 5 := by
  intro n
  induction n with
  | zero => intro u x hx; cases hx
  | succ n ih =>
    intro u x hx
    unfold wk_it at hx
    by_cases c : u < 0
    · rw [if_pos c] at hx
      cases hx
    · rw [if_neg c] at hx
      by_cases c2 : 0 ≤ g 124 u.toNat
      · rw [if_pos c2] at hx
        rcases List.mem_cons.mp hx with rfl | hx
        · show (0 : Int) ≠ 5
          decide
        rcases List.mem_cons.mp hx with rfl | hx
        · show (3 : Int) ≠ 5
          decide
        rcases List.mem_cons.mp hx with rfl | hx
        · show (0 : Int) ≠ 5
          decide
        rcases List.mem_cons.mp hx with rfl | hx
        · show (4 : Int) ≠ 5
          decide
        exact ih _ x hx
      · rw [if_neg c2] at hx
        rcases List.mem_cons.mp hx with rfl | hx
        · show (0 : Int) ≠ 5
          decide
        exact ih _ x hx
section PX4
variable {h : sm_H} {d : Nat} {zf : Int} {s : gm_S}
theorem me_choosep {U : Int} (hi : px_in h s) (hf0 : 0 ≤ zf) (hf1 : zf < 80) (hf : wk_fa (mi_a h) zf) (hC : wk_C (mi_a h) U) (hfi : ∀ j : Nat, (j : Int) < mi_a h 130 zf.toNat → mi_a h 126 (wk_alt (mi_a h) j (mi_a h 129 zf.toNat)).toNat < 0 ∨ mi_a h 126 (wk_alt (mi_a h) j (mi_a h 129 zf.toNat)).toNat < U) (hlen : ∀ j : Nat, (j : Int) < mi_a h 130 zf.toNat → ((wk_it (mi_a h) 61 (mi_a h 126 (wk_alt (mi_a h) j (mi_a h 129 zf.toNat)).toNat)).length : Int) + mi_f h 14029 + 1 ≤ 2999) : me_E (d + 6) 223 0 [some (.inr (.inr 109)), some (.inl zf), none, none, none, none] [] h (pxm_Q h (pm_fo (mi_a h) (px_E h) zf (wk_stk h) s)) := by
  obtain ⟨i1, i2, i3, i4, i5, i6, i7, i8, i9, i10, i11, i12, i13⟩ := hi
  have of : mi_in zf := ⟨by omega, by omega⟩
  have b11 := me_fb (c := 14011) i1 rfl
  obtain ⟨n0, n1, n2⟩ := i10 rfl
  have n160 : mi_f h 14033 ≤ 160 := by clear hlen hfi; omega
  have eF : mi_f h 14033 = gm_F s := i9.2.1
  have st2 : ∀ {g : wk_g} {n : Nat} {u : Int}, ∀ x ∈ wk_it g n u ++ (2, 0, 0) :: wk_stk h, x.1 = 5 → x ∈ wk_stk h := fun {g n u} x hx x5 => by
    rcases List.mem_append.mp hx with hx | hx
    · exact absurd x5 (pm_it_5 n u x hx)
    · rcases List.mem_cons.mp hx with rfl | hx
      · exact absurd x5 (show ¬ (2 : Int) = 5 by decide)
      · exact hx
  have st1 : ∀ {g : wk_g} {n : Nat} {u : Int}, ∀ x ∈ wk_it g n u ++ wk_stk h, x.1 = 5 → x ∈ wk_stk h := fun {g n u} x hx x5 => by
    rcases List.mem_append.mp hx with hx | hx
    · exact absurd x5 (pm_it_5 n u x hx)
    · exact hx
  -- behind the choice
  have go80 : ∀ j : Nat, (j : Int) < mi_a h 130 zf.toNat → me_E (d + 6) 223 80 [some (.inr (.inr 109)), some (.inl zf), some (.inl (0 : Int)), some (.inl (mi_a h 129 zf.toNat)), none, none] [.inl (j : Int)] h (pxm_Q h ((gm_c 4 (j : Int) s).map (fun t => (wk_it (mi_a h) 61 (mi_a h 126 (wk_alt (mi_a h) j (mi_a h 129 zf.toNat)).toNat) ++ (2, 0, 0) :: wk_stk h, gm_d t)))) := by
    intro j hz1
    have b130 := me_ab (k := 130) (i := zf.toNat) i1 rfl (by decide) (by clear hlen hfi; omega)
    have oz : mi_in (j : Int) := ⟨by clear hlen hfi; omega, by clear hlen hfi; omega⟩
    refine mt_chD i1 of ⟨by decide, by decide⟩ (mi_inT _) oz ?_ ?_
    · intro c h2' r1 r2
      have e2 := me_nil r2
      subst e2
      refine mt_chD2 i1 of oz (mi_inT _) ?_
      intro h3 s1' s2
      have e3 := me_nil s2
      subst e3
      have ez : ((Int32.ofInt (j : Int)).toInt64).toInt = (j : Int) := by rw [Int32.toInt_toInt64, mi_ti oz]
      refine ⟨_, me_comesp (d := d + 5) i1 i2 ⟨by decide, by decide⟩ i9, ?_⟩
      intro w h4 hw hq
      obtain ⟨q1, q2, ⟨z, rfl⟩, q3⟩ := hq
      rw [ez] at q3
      have n29 : mi_f h4 14029 = mi_f h3 14029 := me_f (c := 14029) q2 i1 rfl rfl
      have n32 : mi_f h4 14032 = mi_f h3 14032 := me_f (c := 14032) q2 i1 rfl rfl
      have nst : wk_stk h4 = wk_stk h3 := wk_stk_fr q2 i1 rfl
      have nF : ab_Fr wr_W1 h3 h4 := q2.wide (fun c hc => ab_swr_ok (by decide) hc)
      have hlj := hlen j hz1
      refine mt_chE q1 of oz (mi_inT _) (hw _ rfl) ?_
      intro b1
      refine ⟨by clear hlen hfi; omega, fun h5 t1 t2 t3 a5 a6 a7 t4 => ?_⟩
      have est := wk_push1 (by omega) t2 a5 a6 a7
      rw [nst] at est
      have F5 : ab_Fr wr_W1 h3 h5 := nF.trans (t4.wide (fun c hc => ab_swr_ok (by decide) hc))
      have hg : wk_gc (mi_a h3) (mi_a h5) := wk_gc_fr F5 i1 rfl
      have hC5 : wk_C (mi_a h5) U := by
        refine ⟨hC.1, fun u u0 u1 => ?_⟩
        rw [hg 124 (by decide), hg 125 (by decide), hg 124 (by decide)]
        exact hC.2 u u0 u1
      have hf5 : wk_fa (mi_a h5) zf := by
        unfold wk_fa
        rw [hg 130 (by decide), hg 129 (by decide), wk_alt_g hg]
        refine ⟨hf.1, hf.2.1, fun j hj => ?_⟩
        rw [wk_alt_g hg]
        exact hf.2.2 j hj
      have ea : wk_alt (mi_a h5) j (mi_a h5 129 zf.toNat) = wk_alt (mi_a h3) j (mi_a h3 129 zf.toNat) := by rw [wk_alt_g hg, hg 129 (by decide)]
      have haj := hf.2.2 j hz1
      have hfj := hfi j hz1
      generalize hA : wk_alt (mi_a h3) j (mi_a h3 129 zf.toNat) = A at ea haj hfj hlj
      have key := ch127 (d := d) (Q := pxm_Q h3 ((gm_c 4 (j : Int) s).map (fun t => (wk_it (mi_a h3) 61 (mi_a h3 126 A.toNat) ++ (2, 0, 0) :: wk_stk h3, gm_d t)))) t1 of hf0 hf1 hf5 (j := j) (by rw [hg 130 (by decide)]; exact hz1) (fun zj ozj => by
        rw [ea]
        refine (ch146 (U := U) t1 of oz (fun v hv => by cases hv; exact ozj) hC5 haj.1 haj.2 (by rw [hg 126 (by decide)]; exact hfj) (by clear hlen hfi; omega) (by rw [wk_it_g hg, hg 126 (by decide)]; clear hlen hfi; omega)).imp (fun w h' hq => ?_)
        obtain ⟨p1, p2, p3, p4, p5⟩ := hq
        have F6 : ab_Fr wr_W1 h3 h' := F5.trans (p3.wide (fun c hc => ab_swr_ok (by decide) hc))
        have e44 : mi_f h' 14044 = mi_f h4 14044 := (me_f (c := 14044) p3 t1 rfl rfl).trans (me_f (c := 14044) t4 q1 rfl rfl)
        have e34 : mi_f h' 14034 = mi_f h3 14034 := ((me_f (c := 14034) p3 t1 rfl rfl).trans (me_f (c := 14034) t4 q1 rfl rfl)).trans (me_f (c := 14034) q2 i1 rfl rfl)
        refine ⟨p1, p2, F6, ?_⟩
        rcases q3 with ⟨e1, e2⟩ | ⟨e1, -, -, t, e2, e3⟩
        · exact Or.inl ⟨by rw [e1]; rfl, Or.inl (e44.trans e2)⟩
        · have eT := (gm_c_t e2).2.2.2.1
          refine Or.inr ⟨e44.trans e1, by rw [e34]; exact i4, (wk_it (mi_a h3) 61 (mi_a h3 126 A.toNat) ++ (2, 0, 0) :: wk_stk h3, gm_d t), by rw [e2]; rfl, ?_, px_R_st (px_R_fr (px_R_d e3 t4 q1 rfl rfl rfl rfl (by clear hlen hfi; omega) (by clear hlen hfi; omega) t3) p3 t1 rfl rfl rfl rfl rfl) st2, ?_⟩
          · rw [p5, wk_it_g hg, hg 126 (by decide), est]
          · rw [me_f (c := 14032) p3 t1 rfl rfl, me_f (c := 14032) t4 q1 rfl rfl, n32, i6]
            exact wk_ul_it2.symm) (j + 1) 0 (by clear hlen hfi; omega) (Nat.zero_le _)
      rw [hg 129 (by decide)] at key
      exact key
    · intro b c
      exfalso; clear hlen hfi; omega
  refine mt_chA i1 of ?_ ?_ ?_ ?_ ?_
  · intro c1
    have h1c : (1 : Int) ≤ mi_a h 130 zf.toNat := hf.1
    have h0l : ((0 : Nat) : Int) < mi_a h 130 zf.toNat := by clear hlen hfi; omega
    have hl0 := hlen 0 h0l
    have ha0 := hf.2.2 0 h0l
    have hf0' := hfi 0 h0l
    refine ⟨by clear hlen hfi; omega, fun h1 g1 g2 => ?_⟩
    have e1 := me_nil g2
    subst e1
    unfold pm_fo
    rw [if_neg (by clear hlen hfi; omega)]
    refine (ch146 (U := U) g1 of ⟨by decide, by decide⟩ (fun v hv => by cases hv) hC ha0.1 ha0.2 hf0' i5 (by
      clear hlen hfi
      omega)).imp (fun w h' hq => ?_)
    obtain ⟨p1, p2, p3, p4, p5⟩ := hq
    exact ⟨p1, p2, p3.wide (fun c hc => ab_swr_ok (by decide) hc), Or.inr ⟨(me_f (c := 14044) p3 g1 rfl rfl).trans i3, by rw [me_f (c := 14034) p3 g1 rfl rfl]; exact i4, _, rfl, p5, px_R_st (px_R_fr i9 p3 g1 rfl rfl rfl rfl rfl) st1, by rw [me_f (c := 14032) p3 g1 rfl rfl, i6]; exact wk_ul_it.symm⟩⟩
  · intro b1 b2 c1 c2 c3 c4
    exact absurd i2 c2
  · intro b1 b2 c1 c2 c3 c4
    exact absurd i2 c2
  · intro b1 b2 c1 c2 c3
    exact absurd i2 c2
  · intro b1 c1 c2
    refine ⟨by clear hlen hfi; omega, fun h1 g1 g2 => ?_⟩
    have e1 := me_nil g2
    subst e1
    refine ⟨_, me_directedx (d := d + 4) i1 n0 n160 hf0 hf1 hf eF, ?_⟩
    intro w h3 hw hq
    obtain ⟨rfl, rfl⟩ := hq
    unfold pm_fo
    rw [if_pos c1]
    cases hz : pm_w (mi_a h3) (px_E h3) zf s with
    | none =>
      refine mt_chB i1 of ⟨by decide, by decide⟩ (mi_inT _) ⟨by decide, by decide⟩ ?_
      intro h4 g3 g4
      have e4 := me_nil g4
      subst e4
      refine mt_chD i1 of ⟨by decide, by decide⟩ (mi_inT _) ⟨by decide, by decide⟩ ?_ ?_
      · intro c
        exact absurd c (by decide)
      · intro b c
        have bf := me_ab (k := 153) (i := (mi_f h4 14033).toNat) i1 rfl (by decide) (by clear hlen hfi; omega)
        refine ⟨by clear hlen hfi; omega, fun h5 k1 k2 k3 => ⟨rfl, k1, k3.wide (fun c hc => ab_swr_ok (by decide) hc), Or.inl ⟨rfl, Or.inr (by rw [k2]; exact bf.1)⟩⟩⟩
    | some n =>
      obtain ⟨j, j1, j2, -⟩ := pm_dr_e _ _ _ _ hz
      have ej : n = (j : Int) := by clear hlen hfi; omega
      subst ej
      have b130 := me_ab (k := 130) (i := zf.toNat) i1 rfl (by decide) (by clear hlen hfi; omega)
      refine mt_chB i1 of ⟨by decide, by decide⟩ (mi_inT _) ⟨by show (-2147483648 : Int) ≤ (j : Int); clear hlen hfi; omega, by show (j : Int) ≤ 2147483647; clear hlen hfi; omega⟩ ?_
      intro h4 g3 g4
      have e4 := me_nil g4
      subst e4
      exact go80 j (by clear hlen hfi; omega)
theorem me_swapp {r : List wk_E} {p : Nat × Nat} {q : List (Nat × Nat)} (hS : ab_Sh sx_sk h) (hR : px_R h (r, s)) (hP : gm_P s = p :: q) (hq : q.length < 64) (p0 : p.2 ≠ 0) (p1 : p.1 ≤ p.2) (p2 : p.2 ≤ (gm_T s).length) (hlt : ∀ x ∈ r, x.1 = 5 → x.2.2 < (p.1 : Int)) : me_E d 226 0 [some (.inr (.inr 109)), none, none, none, none] [] h (fun w h' => w = none ∧ ab_Sh sx_sk h' ∧ ab_Fr wr_sw h h' ∧ px_R h' (r, gm_tu s)) := by
  have b16 := me_fb (c := 14016) hS rfl
  obtain ⟨r1, r2, r3, r4, r5, r6⟩ := hR
  dsimp only at r1 r2 r3 r4 r5 r6
  have r16 := r1.1
  rw [hP] at r4 r5
  rw [List.length_cons] at r4
  obtain ⟨a1, a2, a3⟩ := r5
  have a2 := a2.resolve_left p0
  have ei : (mi_f h 14030 - 1).toNat = q.length := by omega
  refine mt_swA hS ?_
  intro b
  rw [ei, a1, a2]
  refine ⟨by omega, fun h1 g1 g2 g3 => ?_⟩
  have e16 : mi_f h1 14016 = mi_f h 14016 := me_f (c := 14016) g3 hS rfl rfl
  refine (sw34x (mi_f h 14016) (by omega) (by omega) (by omega) (by omega) b16.2 200 0 h1 (by omega) (by decide) (by omega) e16 g1 (fun i hi => by omega)).imp (fun w h' hq' => ?_)
  obtain ⟨q1, q2, q3, q4, q5⟩ := hq'
  have e160 : mi_a h1 160 = mi_a h 160 := funext fun i => me_a (k := 160) g3 hS rfl rfl
  rw [e160] at q5
  have F : ab_Fr wr_sw h h' := (g3.wide (fun c hc => ab_swr_ok (by decide) hc)).trans q3
  refine ⟨q1, q2, F, ?_⟩
  have etu : gm_tu s = (gm_X s, gm_F s, gm_rot p.1 p.2 (gm_T s), gm_D s, q) := by
    unfold gm_tu
    rw [hP]
  rw [etu]
  unfold px_R gm_len
  dsimp only
  simp only [gm_T_mk, gm_F_mk, gm_D_mk, gm_P_mk, gm_rot_len]
  refine ⟨gx_T_sw r1 p1 p2 (me_f (c := 14016) F hS rfl rfl) (fun i => me_a (k := 158) F hS rfl rfl) (fun i => me_a (k := 159) F hS rfl rfl) (fun i => me_b (k := 163) F hS rfl rfl) (fun i => ?_), (me_f (c := 14033) F hS rfl rfl).trans r2, (me_f (c := 14031) F hS rfl rfl).trans r3, by rw [q4, g2, r4]; omega, gx_P_fr F hS rfl _ a3, fun x hx x5 => ?_⟩
  · rw [q5, r16]
  · obtain ⟨x1, x2, x3⟩ := r6 x hx x5
    have x4 := hlt x hx x5
    refine ⟨x1, x2, ?_⟩
    rw [q5]
    unfold sw_o
    rw [if_pos (by omega)]
    exact x3
end PX4
/-! the parsing walk purely: what holds of each of its states -/
/-- an open many stands ahead of the pairs that were opened later -/
def pm_al : List wk_E → List Int → Prop
  | [], _ => True
  | e :: r, B => if e.1 = 0 ∧ e.2.2 = 1 then pm_al r (1000 :: B) else if e.1 = 4 then (match B with | [] => True | b :: q => (∀ x ∈ r, x.1 = 5 → x.2.2 < b) ∧ pm_al r q) else pm_al r B
def pm_bg (P : List (Nat × Nat)) : List Int := P.map (fun p => (p.1 : Int))
theorem pm_al_o {r : List wk_E} {B : List Int} {a b c : Int} (h0 : ¬ (a = 0 ∧ c = 1)) (h4 : a ≠ 4) : pm_al ((a, b, c) :: r) B = pm_al r B := by
  rw [pm_al.eq_def]
  dsimp only
  rw [if_neg h0, if_neg h4]
theorem pm_al_1 {r : List wk_E} {B : List Int} {b : Int} : pm_al ((0, b, 1) :: r) B = pm_al r (1000 :: B) := by
  rw [pm_al.eq_def]
  dsimp only
  rw [if_pos ⟨rfl, rfl⟩]
theorem pm_al_4 {r : List wk_E} {q : List Int} {x b c : Int} : pm_al ((4, b, c) :: r) (x :: q) = ((∀ y ∈ r, y.1 = 5 → y.2.2 < x) ∧ pm_al r q) := by
  rw [pm_al.eq_def]
  dsimp only
  rw [if_neg (fun e => absurd (show (4 : Int) = 0 from e.1) (by decide)), if_pos rfl]
theorem pm_al_b {b b' : Int} {B : List Int} : ∀ (r : List wk_E) (C : List Int), (∀ x ∈ r, x.1 = 5 → x.2.2 < b') → pm_al r (C ++ b :: B) → pm_al r (C ++ b' :: B) := by
  intro r
  induction r with
  | nil => intro C _ _; exact trivial
  | cons e r ih =>
    intro C hb h
    obtain ⟨x, y, z⟩ := e
    have hb' : ∀ x ∈ r, x.1 = 5 → x.2.2 < b' := fun x hx => hb x (List.mem_cons_of_mem _ hx)
    by_cases c0 : x = 0 ∧ z = 1
    · obtain ⟨rfl, rfl⟩ := c0
      rw [pm_al_1] at h ⊢
      exact ih (1000 :: C) hb' h
    · by_cases c4 : x = 4
      · subst c4
        cases C with
        | nil =>
          rw [List.nil_append] at h ⊢
          rw [pm_al_4] at h ⊢
          exact ⟨hb', h.2⟩
        | cons k C =>
          rw [List.cons_append] at h ⊢
          rw [pm_al_4] at h ⊢
          exact ⟨h.1, ih C hb' h.2⟩
      · rw [pm_al_o c0 c4] at h ⊢
        exact ih C hb' h
theorem pm_al_it {g : wk_g} {r : List wk_E} {B : List Int} (hr : ∀ x ∈ r, x.1 = 5 → x.2.2 < 1000) : ∀ (n : Nat) (u : Int), pm_al r B → pm_al (wk_it g n u ++ r) B := by
  intro n
  induction n with
  | zero => intro u h; exact h
  | succ n ih =>
    intro u h
    unfold wk_it
    by_cases c : u < 0
    · rw [if_pos c]
      exact h
    · rw [if_neg c]
      by_cases c2 : 0 ≤ g 124 u.toNat
      · rw [if_pos c2]
        show pm_al ((0, u, 1) :: (3, 0, 0) :: (0, g 124 u.toNat, 0) :: (4, 0, 0) :: (wk_it g n (g 125 u.toNat) ++ r)) B
        rw [pm_al_1, pm_al_o (by omega) (by decide), pm_al_o (by omega) (by decide), pm_al_4]
        refine ⟨fun x hx x5 => ?_, ih _ h⟩
        rcases List.mem_append.mp hx with hx | hx
        · exact absurd x5 (pm_it_5 _ _ x hx)
        · exact hr x hx x5
      · rw [if_neg c2]
        show pm_al ((0, u, 0) :: (wk_it g n (g 125 u.toNat) ++ r)) B
        rw [pm_al_o (by omega) (by decide)]
        exact ih _ h
def pm_I (c : gm_C) : Prop := gm_D c.2 = gm_outs c.1 ∧ gm_D c.2 ≤ gm_len c.2 ∧ (1 ≤ gm_len c.2 ∧ gm_len c.2 ≤ 100) ∧ gm_fl c.1 (gm_fg (gm_P c.2)) ∧ pm_al c.1 (pm_bg (gm_P c.2)) ∧ ∀ x ∈ c.1, x.1 = 5 → 0 ≤ x.2.2 ∧ x.2.2 < gm_len c.2
section PMI
variable {g : wk_g} {E : pm_E} {l : Int} {s : gm_S} {r : List wk_E} {c : gm_C}
/-- what stands on the top is no open one and no pair -/
theorem pm_I_c {a b z : Int} (h : pm_I (r, s)) (h2 : a ≠ 2) (h0 : ¬ (a = 0 ∧ z = 1)) (h3 : a ≠ 3) (h4 : a ≠ 4) (h5 : a = 5 → 0 ≤ z ∧ z < gm_len s) : pm_I ((a, b, z) :: r, s) := by
  obtain ⟨j1, j2, j3, j4, j5, j6⟩ := h
  dsimp only at j1 j2 j3 j4 j5 j6
  unfold pm_I
  dsimp only
  rw [gm_outs_o h2, gm_fl_o h0 h3 h4, pm_al_o h0 h4]
  refine ⟨j1, j2, j3, j4, j5, fun x hx x5 => ?_⟩
  rcases List.mem_cons.mp hx with rfl | hx
  · exact h5 x5
  · exact j6 x hx x5
/-- a node, in which others are to stand -/
theorem pm_I_d {k v : Int} {t : gm_S} {w : Int} (h : pm_I (r, s)) (h1 : gm_c k v s = some t) : pm_I ((2, w, 0) :: r, gm_d t) := by
  obtain ⟨j1, j2, j3, j4, j5, j6⟩ := h
  dsimp only at j1 j2 j3 j4 j5 j6
  obtain ⟨a1, a2, a3, a4, a5⟩ := gm_c_e h1
  obtain ⟨d1, d2, d3, d4⟩ := gm_d_e (t := t)
  unfold pm_I
  dsimp only
  rw [gm_outs_2, gm_fl_o (by omega) (by decide) (by decide), pm_al_o (by omega) (by decide), d1, d3, d4, a2, a4, a5]
  refine ⟨by omega, by omega, by omega, j4, j5, fun x hx x5 => ?_⟩
  rcases List.mem_cons.mp hx with rfl | hx
  · exact absurd x5 (show ¬ (2 : Int) = 5 by decide)
  · have := j6 x hx x5
    omega
theorem pm_I_e {t : gm_S} (h : pm_I (r, s)) (h1 : gm_D t = gm_D s) (h2 : gm_P t = gm_P s) (h3 : gm_len s ≤ gm_len t) (h4 : gm_len t ≤ 100) : pm_I (r, t) := by
  obtain ⟨j1, j2, j3, j4, j5, j6⟩ := h
  dsimp only at j1 j2 j3 j4 j5 j6
  unfold pm_I
  dsimp only
  rw [h1, h2]
  refine ⟨j1, by omega, by omega, j4, j5, fun x hx x5 => ?_⟩
  have := j6 x hx x5
  omega
theorem pm_lf_l {o w : Int} {t : gm_S} (h : pm_lf E o w s = some t) (hs : gm_len s ≤ 100) : gm_len t ≤ 100 := by
  have fin : ∀ (k v : Int), (gm_c k v s).map pm_nx = some t → gm_len t ≤ 100 := by
    intro k v h
    obtain ⟨t1, h1, h2⟩ := Option.map_eq_some_iff.mp h
    obtain ⟨a1, a2, -⟩ := gm_c_e h1
    subst h2
    have : gm_len (pm_nx t1) = gm_len t1 := by unfold gm_len; rw [pm_nx_e.2.1]
    omega
  unfold pm_lf at h
  split at h
  · split at h
    · exact fin _ _ h
    · cases h
  · split at h
    · split at h
      · exact fin _ _ h
      · cases h
    · split at h
      · split at h
        · injection h with h
          subst h
          have : gm_len (pm_nx s) = gm_len s := by unfold gm_len; rw [pm_nx_e.2.1]
          omega
        · cases h
      · injection h with h
        subst h
        exact hs
theorem pm_sg_I {u : Int} (hJ : pm_I (r, s)) (h : pm_sg l g E u r s = some c) : pm_I c := by
  unfold pm_sg at h
  by_cases c9 : g 119 u.toNat = 9
  · rw [if_pos c9] at h
    unfold pm_en at h
    by_cases cu : 12 ≤ l + wk_ul r
    · rw [if_pos cu] at h
      cases h
    · rw [if_neg cu] at h
      obtain ⟨t, t1, t2⟩ := Option.map_eq_some_iff.mp h
      subst t2
      exact pm_I_c (pm_I_d hJ t1) (by decide) (by omega) (by decide) (by decide) (fun e => absurd e (by decide))
  rw [if_neg c9] at h
  by_cases c10 : g 119 u.toNat = 10
  · rw [if_pos c10] at h
    injection h with h
    subst h
    exact pm_I_c hJ (by decide) (by omega) (by decide) (by decide) (fun e => absurd e (by decide))
  rw [if_neg c10] at h
  obtain ⟨t, t1, t2⟩ := Option.map_eq_some_iff.mp h
  subst t2
  obtain ⟨q1, q2, q3, -⟩ := pm_lf_e t1
  exact pm_I_e hJ q1 q2 q3 (pm_lf_l t1 hJ.2.2.1.2)
theorem pm_op_I {o u : Int} (h : pm_I ((0, u, o) :: r, s)) : pm_I (r, gm_op o s) := by
  obtain ⟨j1, j2, j3, j4, j5, j6⟩ := h
  dsimp only at j1 j2 j3 j4 j5 j6
  rw [gm_outs_o (by decide)] at j1
  have j7 : ∀ x ∈ r, x.1 = 5 → 0 ≤ x.2.2 ∧ x.2.2 < gm_len s := fun x hx => j6 x (List.mem_cons_of_mem _ hx)
  by_cases c1 : o = 1
  · subst c1
    rw [gm_fl_1] at j4
    rw [pm_al_1] at j5
    have j5 := pm_al_b (b' := gm_len s) r [] (fun x hx x5 => (j7 x hx x5).2) j5
    unfold gm_op pm_I gm_len
    unfold gm_len at j2 j3 j5 j7
    dsimp only
    simp only [if_pos, gm_T_mk, gm_D_mk, gm_P_mk]
    exact ⟨j1, j2, j3, j4, j5, j7⟩
  · rw [gm_fl_o (fun e => c1 e.2) (by decide) (by decide)] at j4
    rw [pm_al_o (fun e => c1 e.2) (by decide)] at j5
    unfold gm_op
    rw [if_neg c1]
    exact ⟨j1, j2, j3, j4, j5, j7⟩
theorem pm_u_I {u : Int} (hJ : pm_I (r, s)) (h : pm_u l g E u r s = some c) : pm_I c := by
  unfold pm_u at h
  by_cases w1 : g 122 u.toNat = 1
  · rw [if_pos w1] at h
    obtain ⟨t, t1, t2⟩ := Option.map_eq_some_iff.mp h
    subst t2
    refine pm_I_c (pm_I_d hJ t1) (by decide) (by omega) (by decide) (by decide) (fun _ => ?_)
    rw [gm_d_e.1, (gm_c_e t1).2.1]
    have := hJ.2.2.1
    dsimp only at this
    omega
  rw [if_neg w1] at h
  by_cases w2 : g 122 u.toNat = 2
  · rw [if_pos w2] at h
    obtain ⟨t, t1, t2⟩ := Option.bind_eq_some_iff.mp h
    by_cases ch : pm_h E u s = true
    · rw [if_pos ch] at t2
      exact pm_sg_I (pm_I_d hJ t1) t2
    · rw [if_neg ch] at t2
      injection t2 with t2
      subst t2
      exact pm_I_d hJ t1
  rw [if_neg w2] at h
  exact pm_sg_I hJ h
theorem pm_I_it {n : Nat} {u : Int} (h : pm_I (r, s)) : pm_I (wk_it g n u ++ r, s) := by
  obtain ⟨j1, j2, j3, j4, j5, j6⟩ := h
  dsimp only at j1 j2 j3 j4 j5 j6
  unfold pm_I
  dsimp only
  rw [gm_outs_a, gm_outs_it, gm_fl_it]
  refine ⟨by omega, j2, j3, j4, pm_al_it (fun x hx x5 => ?_) _ _ j5, fun x hx x5 => ?_⟩
  · have := j6 x hx x5
    omega
  · rcases List.mem_append.mp hx with hx | hx
    · exact absurd x5 (pm_it_5 _ _ x hx)
    · exact j6 x hx x5
theorem pm_fo_I {f : Int} (hJ : pm_I (r, s)) (h : pm_fo g E f r s = some c) : pm_I c := by
  unfold pm_fo at h
  by_cases w1 : 1 < g 130 f.toNat
  · rw [if_pos w1] at h
    obtain ⟨n, -, h⟩ := Option.bind_eq_some_iff.mp h
    obtain ⟨t, t1, t2⟩ := Option.map_eq_some_iff.mp h
    subst t2
    exact pm_I_it (pm_I_d hJ t1)
  · rw [if_neg w1] at h
    injection h with h
    subst h
    exact pm_I_it hJ
theorem pm_I_r {e : wk_E} (h : pm_I (e :: r, s)) (h0 : ¬ (e.1 = 0 ∧ e.2.2 = 1)) (h2 : e.1 ≠ 2) (h3 : e.1 ≠ 3) (h4 : e.1 ≠ 4) : pm_I (r, s) := by
  obtain ⟨a, b, z⟩ := e
  obtain ⟨j1, j2, j3, j4, j5, j6⟩ := h
  dsimp only at j1 j2 j3 j4 j5 j6
  rw [gm_outs_o h2] at j1
  rw [gm_fl_o h0 h3 h4] at j4
  rw [pm_al_o h0 h4] at j5
  exact ⟨j1, j2, j3, j4, j5, fun x hx => j6 x (List.mem_cons_of_mem _ hx)⟩
theorem pm_st_I {e : wk_E} (he : e.1 = 0 ∨ e.1 = 1 ∨ e.1 = 2 ∨ e.1 = 3 ∨ e.1 = 4 ∨ e.1 = 5) (hI : pm_I (e :: r, s)) (h : pm_st g E l e r s = some c) : pm_I c := by
  obtain ⟨a, b, z⟩ := e
  dsimp only at he
  rcases he with rfl | rfl | rfl | rfl | rfl | rfl
  · rw [pm_st_0] at h
    exact pm_u_I (pm_op_I hI) h
  · rw [pm_st_1] at h
    exact pm_fo_I (pm_I_r hI (fun e => absurd (show (1 : Int) = 0 from e.1) (by decide)) (show (1 : Int) ≠ 2 by decide) (show (1 : Int) ≠ 3 by decide) (show (1 : Int) ≠ 4 by decide)) h
  · rw [pm_st_2] at h
    injection h with h
    subst h
    obtain ⟨j1, j2, j3, j4, j5, j6⟩ := hI
    dsimp only at j1 j2 j3 j4 j5 j6
    rw [gm_outs_2] at j1
    rw [gm_fl_o (by omega) (by decide) (by decide)] at j4
    rw [pm_al_o (by omega) (by decide)] at j5
    unfold pm_I gm_len
    dsimp only
    simp only [gm_T_mk, gm_D_mk, gm_P_mk]
    unfold gm_len at j2 j3 j6
    exact ⟨by omega, by omega, j3, j4, j5, fun x hx => j6 x (List.mem_cons_of_mem _ hx)⟩
  · rw [pm_st_3] at h
    injection h with h
    subst h
    obtain ⟨j1, j2, j3, j4, j5, j6⟩ := hI
    dsimp only at j1 j2 j3 j4 j5 j6
    rw [gm_outs_o (by decide)] at j1
    rw [pm_al_o (by omega) (by decide)] at j5
    unfold gm_mid pm_I gm_len
    dsimp only
    simp only [gm_T_mk, gm_D_mk, gm_P_mk]
    unfold gm_len at j2 j3 j6
    refine ⟨j1, j2, j3, ?_, ?_, fun x hx => j6 x (List.mem_cons_of_mem _ hx)⟩
    · cases hP : gm_P s with
      | nil =>
        rw [hP] at j4
        exact absurd j4 gm_fl_30
      | cons p q =>
        rw [hP] at j4
        have j4 : gm_fl ((3, b, z) :: r) (decide (p.2 ≠ 0) :: gm_fg q) := j4
        rw [gm_fl_3] at j4
        have et : decide ((gm_T s).length ≠ 0) = true := decide_eq_true (by omega)
        show gm_fl r (decide ((gm_T s).length ≠ 0) :: gm_fg q)
        rw [et]
        exact j4
    · cases hP : gm_P s with
      | nil => rw [hP] at j5; exact j5
      | cons p q => rw [hP] at j5; exact j5
  · rw [pm_st_4] at h
    injection h with h
    subst h
    obtain ⟨j1, j2, j3, j4, j5, j6⟩ := hI
    dsimp only at j1 j2 j3 j4 j5 j6
    rw [gm_outs_o (by decide)] at j1
    cases hP : gm_P s with
    | nil =>
      rw [hP] at j4
      exact absurd j4 gm_fl_40
    | cons p q =>
      rw [hP] at j4 j5
      have j4 : gm_fl ((4, b, z) :: r) (decide (p.2 ≠ 0) :: gm_fg q) := j4
      have j5 : pm_al ((4, b, z) :: r) ((p.1 : Int) :: pm_bg q) := j5
      rw [gm_fl_4] at j4
      rw [pm_al_4] at j5
      have etu : gm_tu s = (gm_X s, gm_F s, gm_rot p.1 p.2 (gm_T s), gm_D s, q) := by
        unfold gm_tu
        rw [hP]
      rw [etu]
      unfold pm_I gm_len
      dsimp only
      simp only [gm_T_mk, gm_D_mk, gm_P_mk, gm_rot_len]
      unfold gm_len at j2 j3 j6
      exact ⟨j1, j2, j3, j4.2, j5.2, fun x hx => j6 x (List.mem_cons_of_mem _ hx)⟩
  · rw [pm_st_5] at h
    have hJ := pm_I_r hI (fun e => absurd (show (5 : Int) = 0 from e.1) (by decide)) (show (5 : Int) ≠ 2 by decide) (show (5 : Int) ≠ 3 by decide) (show (5 : Int) ≠ 4 by decide)
    unfold pm_ag at h
    by_cases ch : pm_h E b s = true
    · rw [if_pos ch] at h
      obtain ⟨-, -, y3, y4⟩ := pm_inc_e (s := s) (a := z)
      have y2 := pm_inc_len (s := s) (a := z)
      have hJ2 : pm_I (r, pm_inc z s) := pm_I_e hJ y3 y4 (by omega) (by have := hJ.2.2.1.2; dsimp only at this; omega)
      refine pm_sg_I (pm_I_c hJ2 (by decide) (by omega) (by decide) (by decide) (fun _ => ?_)) h
      rw [y2]
      exact hI.2.2.2.2.2 _ (List.mem_cons_self ..) rfl
    · rw [if_neg ch] at h
      injection h with h
      subst h
      exact hJ
end PMI
/-! the parsing walk of the reference, exactly: the loop -/
section PLG
variable {g g' : wk_g} {E : pm_E} {l : Int} {s : gm_S} {r : List wk_E}
theorem pm_dr_g (hg : wk_gc g g') {p : Int → Bool} : ∀ (m : Nat) (a n : Int), pm_dr g' p m a n = pm_dr g p m a n := by
  intro m
  induction m with
  | zero => intro a n; rfl
  | succ m ih => intro a n; rw [pm_dr_s, pm_dr_s, hg 128 (by decide), ih]
theorem pm_fo_g (hg : wk_gc g g') {f : Int} : pm_fo g' E f r s = pm_fo g E f r s := by
  unfold pm_fo pm_w
  simp only [pm_dr_g hg, hg 130 (by decide), hg 129 (by decide), wk_alt_g hg, hg 126 (by decide), wk_it_g hg]
theorem pm_ag_g (hg : wk_gc g g') {u a : Int} : pm_ag l g' E u a r s = pm_ag l g E u a r s := by
  unfold pm_ag
  rw [pm_sg_g hg]
end PLG
theorem pm_SI_pot {g : wk_g} {Y : wk_Y} {Z : wk_P} (hL : wk_L g Y) (hx : pm_x Y) : ∀ (r : List wk_E) (q : Nat) (p l : Int), wk_SI Y Z r q p l → 0 ≤ pm_pot Y r := by
  intro r
  induction r with
  | nil => intro q p l _; exact Int.le_refl _
  | cons e r ih =>
    intro q p l h
    obtain ⟨a, b, c⟩ := e
    have hu : ∀ (x1 x2 x3 x4 : Int), a = 0 → wk_U Y b x1 x2 x3 x4 → 0 ≤ pm_e2 Y (a, b, c) := by
      intro x1 x2 x3 x4 e0 hU
      subst e0
      rw [pm_e_0]
      have := (hL.2.2.1 b hU.1 hU.2.1).1.1
      omega
    have ho : a ≠ 0 → a ≠ 1 → 0 ≤ pm_e2 Y (a, b, c) := by
      intro e0 e1
      rw [pm_e_o e0 e1]
      decide
    show 0 ≤ pm_e2 Y (a, b, c) + pm_pot Y r
    unfold wk_SI at h
    dsimp only at h
    rcases h with ⟨-, h1, -, h3, h4⟩ | ⟨-, h1, -, h3, h4⟩ | ⟨-, h1, -, -, h4⟩ | ⟨-, h1, -, h4⟩ | ⟨-, h1, -, h3, h4⟩ | ⟨-, h1, -, -, h4⟩ | ⟨-, h1, -, h4⟩ | ⟨-, h1, h3, h4⟩ | ⟨-, h1, -, h4⟩ | ⟨-, h1, -, -, -, -, h4⟩
    · have := hu _ _ _ _ h1 h3
      have := ih _ _ _ h4
      omega
    · have := hu _ _ _ _ h1 h3
      have := ih _ _ _ h4
      omega
    · have := ho (by omega) (by omega)
      have := ih _ _ _ h4
      omega
    · have := ho (by omega) (by omega)
      have := ih _ _ _ h4
      omega
    · have := hu _ _ _ _ h1 h3
      have := ih _ _ _ h4
      omega
    · have := ho (by omega) (by omega)
      have := ih _ _ _ h4
      omega
    · have := ho (by omega) (by omega)
      have := ih _ _ _ h4
      omega
    · subst h1
      rw [pm_e_1]
      have := hx b h3.1 h3.2.1
      have := ih _ _ _ h4
      omega
    · have := ho (by omega) (by omega)
      have := ih _ _ _ h4
      omega
    · have := ho (by omega) (by omega)
      have := ih _ _ _ h4
      omega
def pl_I (Y : wk_Y) (h0 : sm_H) (c0 : gm_C) (zt : Int) (h : sm_H) : Prop := wl_I Y h0 0 (ta_I h0) zt h ∧ ∃ s, px_R h (wk_stk h, s) ∧ pw_to (pm_st (mi_a h0) (px_E h0) 0) zt.toNat c0 (wk_stk h, s) ∧ pm_I (wk_stk h, s)
def pl_NO (h0 : sm_H) (c0 : gm_C) : Prop := ∃ n e r s, pw_to (pm_st (mi_a h0) (px_E h0) 0) n c0 (e :: r, s) ∧ pm_st (mi_a h0) (px_E h0) 0 e r s = none
def pl_H (Y : wk_Y) (h0 : sm_H) (c0 : gm_C) (zt : Int) (h : sm_H) : Prop := (ab_Sh sx_sk h ∧ ab_Fr wr_WK h0 h ∧ (mi_f h 14044 = 1 ∨ 0 ≤ mi_f h 14034) ∧ pl_NO h0 c0) ∨ pl_I Y h0 c0 zt h
def pl_S (Y : wk_Y) (h0 : sm_H) (c0 : gm_C) (zt : Int) (B : List wk_E) (s : gm_S) : Prop := (B = [] ∨ zt = 40000) ∧ pw_to (pm_st (mi_a h0) (px_E h0) 0) zt.toNat c0 (B, s) ∧ gm_len s ≤ 100 ∧ gm_F s ≤ 160 ∧ 0 ≤ pm_pot Y B
def pl_End (Y : wk_Y) (h0 : sm_H) (c0 : gm_C) (w : Option mi_V) (h' : sm_H) : Prop := w = none ∧ ab_Sh sx_sk h' ∧ ab_Fr wr_WK h0 h' ∧ (((mi_f h' 14044 = 1 ∨ 0 ≤ mi_f h' 14034) ∧ (pl_NO h0 c0 ∨ ∃ zt B s, 0 ≤ zt ∧ zt ≤ 40000 ∧ pl_S Y h0 c0 zt B s ∧ pm_K (px_E h0) s ≠ 0)) ∨ (mi_f h' 14044 = 0 ∧ mi_f h' 14034 < 0 ∧ ∃ zt s, 0 ≤ zt ∧ zt ≤ 40000 ∧ pl_S Y h0 c0 zt (wk_stk h') s ∧ px_R h' (wk_stk h', s) ∧ pm_K (px_E h0) s = 0))
section PLM
variable {d : Nat} {h0 : sm_H} {Y : wk_Y} {c0 : gm_C} {zt : Int}
theorem pl_next {h h1 h' : sm_H} {e : wk_E} {s : gm_S} {v : Option mi_V} {hq : sm_H} (he : e.1 = 0 ∨ e.1 = 1 ∨ e.1 = 2 ∨ e.1 = 3 ∨ e.1 = 4 ∨ e.1 = 5) (z0 : 0 ≤ zt) (hst : wk_stk h = e :: wk_stk h1) (hto : pw_to (pm_st (mi_a h0) (px_E h0) 0) zt.toNat c0 (wk_stk h, s)) (hI : pm_I (wk_stk h, s)) (hW : wl_H Y h0 0 (ta_I h0) (zt + 1) h') (hU : up_Q hq (pm_st (mi_a h0) (px_E h0) 0 e (wk_stk h1) s) v h') : pl_H Y h0 c0 (zt + 1) h' := by
  rw [hst] at hto hI
  have et : (zt + 1).toNat = zt.toNat + 1 := by omega
  obtain ⟨-, u1, u2⟩ := hU
  rcases hW with ⟨w1, w2, w3⟩ | hI'
  · have w3 : mi_f h' 14044 = 1 ∨ 0 ≤ mi_f h' 14034 := w3.imp id (fun x => x.2)
    rcases u2 with ⟨u2, -⟩ | ⟨u2, u3, -⟩
    · exact Or.inl ⟨w1, w2, w3, _, _, _, _, hto, u2⟩
    · exfalso; omega
  · have i4 := hI'.1.2.2.2.1
    have i5 := hI'.1.2.2.2.2.1
    rcases u2 with ⟨-, u2⟩ | ⟨-, -, c, u3, u4, u5, u6⟩
    · exfalso; omega
    · obtain ⟨A, t⟩ := c
      dsimp only at u4 u6
      subst u4
      refine Or.inr ⟨hI', t, u5, ?_, ?_⟩
      · rw [et]
        exact pw_app (pw_one u3) _ _ hto
      · exact pm_st_I he hI u3
theorem pl_in {h h1 : sm_H} {s : gm_S} {e : wk_E} (hS0 : ab_Sh sx_sk h0) (hV0 : px_V h0) (hi : wk_in 0 h1) (hS : ab_Sh sx_sk h) (hF : ab_Fr wr_WK h0 h) (g3 : ab_Fr [(14029, 14030)] h h1) (hR : px_R h (e :: wk_stk h1, s)) (hI : pm_I (e :: wk_stk h1, s)) : px_in h1 s := by
  obtain ⟨i1, i2, i3, i4, i5, i6, i7, i8, i9, i10, i11⟩ := hi
  obtain ⟨j1, j2, j3, -⟩ := hI
  dsimp only at j1 j2 j3
  have := gm_outs_nn (e :: wk_stk h1)
  have F : ab_Fr wr_WK h0 h1 := hF.trans (g3.wide (fun c hc => ab_swr_ok (by decide) hc))
  exact ⟨i1, i2, i4, i5, i7, i10.symm, i8, i9, px_R_fr (px_R_st hR (fun x hx _ => List.mem_cons_of_mem _ hx)) g3 hS rfl rfl rfl rfl rfl, i6, px_V_fr hV0 F hS0 rfl rfl, by omega, by omega⟩
theorem pl_g {h h1 : sm_H} (hS0 : ab_Sh sx_sk h0) (hF : ab_Fr wr_WK h0 h) (g3 : ab_Fr [(14029, 14030)] h h1) : wk_gc (mi_a h0) (mi_a h1) ∧ px_E h1 = px_E h0 := by
  have F : ab_Fr wr_WK h0 h1 := hF.trans (g3.wide (fun c hc => ab_swr_ok (by decide) hc))
  exact ⟨wk_gc_fr F hS0 rfl, px_E_fr F hS0 rfl⟩
theorem pl_u {h h1 : sm_H} {w a : Int} (hS0 : ab_Sh sx_sk h0) (hL : wk_L (mi_a h) Y) (hV0 : px_V h0) (hW0 : ∀ u, 0 ≤ u → u < wk_u Y → px_W h0 u) (hG : pl_I Y h0 c0 zt h) (z0 : 0 ≤ zt) (z1 : zt < 40000) (ht : 0 < mi_f h 14029) (g1 : ab_Sh sx_sk h1) (g2 : mi_f h1 14029 = mi_f h 14029 - 1) (g3 : ab_Fr [(14029, 14030)] h h1) (e0 : mi_a h 165 (mi_f h 14029 - 1).toNat = 0) (ew : mi_a h 166 (mi_f h 14029 - 1).toNat = w) (ea : mi_a h 167 (mi_f h 14029 - 1).toNat = a) (ha : a = 0 ∨ a = 1) : me_E (d + 6) 210 0 [some (.inr (.inr 109)), some (.inl w), some (.inl a), none, none] [] h1 (fun v h' => v = none ∧ pl_H Y h0 c0 (zt + 1) h') := by
  obtain ⟨hI, s, hR, hto, hJ⟩ := hG
  obtain ⟨e1, hg, hn, hag, hK2, hV2, hZ, e30, e32, e16, hlen⟩ := wl_pop hI ht g1 g2 g3
  rw [e0, ew, ea] at e1
  have hSI := hI.2.2.1
  rw [e1] at hSI
  have hU : wk_U Y w ((wk_stk h1).length : Int) (mi_f h 14030) (mi_f h 14032) (1 - a) := by
    rcases ha with rfl | rfl
    · exact (wk_unit0 hSI).1
    · exact (wk_unit1 hSI).1
  obtain ⟨u1, u2, u3, u4, u5, u6, u7⟩ := hU
  obtain ⟨⟨a1, -, -, a4, a5⟩, -⟩ := hL.2.2.1 w u1 u2
  have hd := (hL.2.2.2 _ a4 a5).2.1
  have hi := wl_in1 hI ht g1 g2 g3 (by omega)
  have hJ' := hJ
  have hR' := hR
  rw [e1] at hJ' hR'
  obtain ⟨k1, k3⟩ := pl_g hS0 hI.2.1 g3
  refine ((wl_u (d := d) (ta_T hS0) hL hI z0 z1 ht g1 g2 g3 e0 ew ea ha).and (me_unitp (d := d) (pl_in hS0 hV0 hi hI.1.1 hI.2.1 g3 hR' hJ') (by have j2 := hJ'.2.1; have j3 := hJ'.2.2.1.2; dsimp only at j2 j3; omega) (wl_us hL hg u1 u2) (px_W_g k1 (hW0 w u1 u2)) (by omega) ha (fun z => by omega))).imp (fun v h' hq => ?_)
  obtain ⟨⟨q1, q2⟩, q3⟩ := hq
  refine ⟨q1, ?_⟩
  rw [pm_st_0, pm_u_g k1, k3, ← pm_st_0] at q3
  exact pl_next (Or.inl rfl) z0 e1 hto hJ q2 q3
theorem pl_f {h h1 : sm_H} {f a : Int} (hS0 : ab_Sh sx_sk h0) (hL : wk_L (mi_a h) Y) (hV0 : px_V h0) (hW0 : ∀ u, 0 ≤ u → u < wk_u Y → px_W h0 u) (hG : pl_I Y h0 c0 zt h) (z0 : 0 ≤ zt) (z1 : zt < 40000) (ht : 0 < mi_f h 14029) (g1 : ab_Sh sx_sk h1) (g2 : mi_f h1 14029 = mi_f h 14029 - 1) (g3 : ab_Fr [(14029, 14030)] h h1) (e0 : mi_a h 165 (mi_f h 14029 - 1).toNat = 1) (ew : mi_a h 166 (mi_f h 14029 - 1).toNat = f) (ea : mi_a h 167 (mi_f h 14029 - 1).toNat = a) : me_E (d + 6) 223 0 [some (.inr (.inr 109)), some (.inl f), none, none, none, none] [] h1 (fun v h' => v = none ∧ pl_H Y h0 c0 (zt + 1) h') := by
  obtain ⟨hI, s, hR, hto, hJ⟩ := hG
  obtain ⟨e1, hg, hn, hag, hK2, hV2, hZ, e30, e32, e16, hlen⟩ := wl_pop hI ht g1 g2 g3
  rw [e0, ew, ea] at e1
  have hSI := hI.2.2.1
  rw [e1] at hSI
  obtain ⟨hF, hb⟩ := wk_form hSI
  have hL1 : wk_L (mi_a h1) Y := wk_L_g hL hg
  obtain ⟨f1, f2, -⟩ := id hF
  obtain ⟨d1, d2, d3, d4, dB, d5⟩ := hL1.2.2.2 f f1 f2
  have hf80 := hL.2.1
  have hi := wl_in1 hI ht g1 g2 g3 (by omega)
  have hJ' := hJ
  have hR' := hR
  rw [e1] at hJ' hR'
  obtain ⟨k1, k3⟩ := pl_g hS0 hI.2.1 g3
  refine ((wl_f (d := d) (ta_T hS0) hL hI z0 z1 ht g1 g2 g3 e0 ew ea).and (me_choosep (d := d) (U := wk_u Y) (pl_in hS0 hV0 hi hI.1.1 hI.2.1 g3 hR' hJ') f1 (by omega) ⟨d3, d4, fun j hj => ⟨(d5 j hj).1, (d5 j hj).2.1⟩⟩ (wk_L_C hL1) (fun j hj => ?_) (fun j hj => ?_))).imp (fun v h' hq => ?_)
  · rcases (d5 j hj).2.2 with x | x
    · exact Or.inl x
    · exact Or.inr x.1
  · have := (wl_D hL1 hF hb hj).1
    omega
  · obtain ⟨⟨q1, q2⟩, q3⟩ := hq
    refine ⟨q1, ?_⟩
    have q3 := px_Q_u (h := h1) q3
    rw [pm_fo_g k1, k3, ← pm_st_1 (l := 0) (a := a)] at q3
    exact pl_next (Or.inr (Or.inl rfl)) z0 e1 hto hJ q2 q3
theorem pl_a {h h1 : sm_H} {w a : Int} (hS0 : ab_Sh sx_sk h0) (hL : wk_L (mi_a h) Y) (hV0 : px_V h0) (hW0 : ∀ u, 0 ≤ u → u < wk_u Y → px_W h0 u) (hG : pl_I Y h0 c0 zt h) (z0 : 0 ≤ zt) (z1 : zt < 40000) (ht : 0 < mi_f h 14029) (g1 : ab_Sh sx_sk h1) (g2 : mi_f h1 14029 = mi_f h 14029 - 1) (g3 : ab_Fr [(14029, 14030)] h h1) (e0 : mi_a h 165 (mi_f h 14029 - 1).toNat = 5) (ew : mi_a h 166 (mi_f h 14029 - 1).toNat = w) (ea : mi_a h 167 (mi_f h 14029 - 1).toNat = a) : me_E (d + 6) 227 0 [some (.inr (.inr 109)), some (.inl w), some (.inl a), none] [] h1 (fun v h' => v = none ∧ pl_H Y h0 c0 (zt + 1) h') := by
  obtain ⟨hI, s, hR, hto, hJ⟩ := hG
  obtain ⟨e1, hg, hn, hag, hK2, hV2, hZ, e30, e32, e16, hlen⟩ := wl_pop hI ht g1 g2 g3
  rw [e0, ew, ea] at e1
  have hSI := hI.2.2.1
  rw [e1] at hSI
  obtain ⟨⟨u1, u2, u3, u4, u5, u6, u7⟩, hb⟩ := wk_again hSI
  obtain ⟨⟨a1, -⟩, -⟩ := hL.2.2.1 w u1 u2
  have hi := wl_in1 hI ht g1 g2 g3 (by omega)
  have hJ' := hJ
  have hR' := hR
  rw [e1] at hJ' hR'
  obtain ⟨k1, k3⟩ := pl_g hS0 hI.2.1 g3
  obtain ⟨b1, b2, b3⟩ := hR'.2.2.2.2.2 _ (List.mem_cons_self ..) rfl
  dsimp only at b1 b2 b3
  obtain ⟨-, -, v1, v0⟩ := (ta_T (Y := Y) hS0).2.1 rfl zt h w a _ hI z0 z1 e1
  have eV : wk_V 0 h a.toNat = (mx_b h1 163 a.toNat).toInt := by
    unfold wk_V
    rw [if_neg (by decide), me_b (k := 163) g3 hI.1.1 rfl rfl]
  rw [eV] at v0 v1
  refine ((wl_a (d := d) (ta_T hS0) hL hI z0 z1 ht g1 g2 g3 e0 ew ea).and (me_againp (d := d) (pl_in hS0 hV0 hi hI.1.1 hI.2.1 g3 hR' hJ') (wl_us hL hg u1 u2) (px_W_g k1 (hW0 w u1 u2)) (by omega) b1 b2 ((me_a (k := 160) g3 hI.1.1 rfl rfl).trans b3) v0 v1)).imp (fun v h' hq => ?_)
  obtain ⟨⟨q1, q2⟩, q3⟩ := hq
  refine ⟨q1, ?_⟩
  have q3 := px_Q_u (h := h1) q3
  rw [pm_ag_g k1, k3, ← pm_st_5] at q3
  exact pl_next (Or.inr (Or.inr (Or.inr (Or.inr (Or.inr rfl))))) z0 e1 hto hJ q2 q3
theorem pl_ux {h' hq : sm_H} {r : List wk_E} {t : gm_S} (q1 : ab_Sh sx_sk h') (e44 : mi_f h' 14044 = 0) (e34 : mi_f h' 14034 < 0) (est : wk_stk h' = r) (hR : px_R h' (r, t)) (e32 : mi_f h' 14032 = wk_ul r) : up_Q hq (some (r, t)) none h' := ⟨rfl, q1, Or.inr ⟨e44, e34, (r, t), rfl, est, hR, e32⟩⟩
theorem pl_247 {zh : Int} {q3 q4 : Option mi_V} {h : sm_H} (hS0 : ab_Sh sx_sk h0) (hL0 : wk_L (mi_a h0) Y) (hx : pm_x Y) (oh : mi_in zh) (ot : mi_in zt) (o3 : ∀ v, q3 = some v → mi_ok v) (o4 : ∀ v, q4 = some v → mi_ok v) (h1 : 0 ≤ zt) (h2 : zt ≤ 40000) (hH : pl_H Y h0 c0 zt h) (he : wl_I Y h0 0 (ta_I h0) zt h → mi_f h 14029 ≤ 0 ∨ zt = 40000) : me_E (d + 7) 206 247 [some (.inr (.inr 109)), some (.inl zh), some (.inl zt), q3, q4] [] h (pl_End Y h0 c0) := by
  have hS : ab_Sh sx_sk h := by
    rcases hH with hH | hH
    · exact hH.1
    · exact hH.1.1.1
  have bad : (mi_f h 14044 = 1 ∨ 0 ≤ mi_f h 14034) → pl_End Y h0 c0 none h := by
    intro b
    rcases hH with ⟨k1, k2, k3, k4⟩ | hG
    · exact ⟨rfl, k1, k2, Or.inl ⟨k3, Or.inl k4⟩⟩
    · have i4 := hG.1.1.2.2.2.1
      have i5 := hG.1.1.2.2.2.2.1
      exfalso; omega
  have good : mi_f h 14034 < 0 → mi_f h 14044 = 0 → ∃ s, pl_S Y h0 c0 zt (wk_stk h) s ∧ px_R h (wk_stk h, s) ∧ ab_Fr wr_WK h0 h ∧ wk_tok 0 h ∧ (px_E h0).1 (gm_F s) = mi_a h 152 (mi_f h 14033).toNat := by
    intro b1 b2
    rcases hH with ⟨k1, k2, k3, k4⟩ | ⟨hI, s, hR, hto, hJ⟩
    · exfalso; omega
    · have tk := hI.1.2.2.2.2.2.1
      obtain ⟨t0, t1, -⟩ := tk rfl
      have b11 := me_fb (c := 14011) hS rfl
      have e33 : mi_f h 14033 = gm_F s := hR.2.1
      refine ⟨s, ⟨?_, hto, hJ.2.2.1.2, by omega, pm_SI_pot hL0 hx _ _ _ _ hI.2.2.1⟩, hR, hI.2.1, tk, ?_⟩
      · rcases he hI with e | e
        · refine Or.inl ?_
          have := hI.1.2.2.2.2.2.2.1
          have e0 : mi_f h 14029 = 0 := by omega
          unfold wk_stk
          rw [e0]
          rfl
        · exact Or.inr e
      · show mi_a h0 152 (gm_F s).toNat = _
        rw [← e33, me_a (k := 152) hI.2.1 hS0 rfl rfl]
  have m0 : mi_f h 14028 ≠ 0 → pl_End Y h0 c0 none h := by
    intro b
    rcases hH with ⟨k1, k2, k3, k4⟩ | hG
    · exact ⟨rfl, k1, k2, Or.inl ⟨k3, Or.inl k4⟩⟩
    · exact absurd hG.1.1.2.1 b
  refine mt_waE hS oh ot o3 o4 ?_ ?_ ?_ ?_ ?_
  · intro b c h3 r1 r2
    have e3 := me_nil r2
    subst e3
    exact m0 c
  · intro b1 b2 c1 c2 h3 r1 r2
    have e3 := me_nil r2
    subst e3
    exact bad (Or.inr c2)
  · intro b1 b2 b3 c1 c2 c3 h3 r1 r2
    have e3 := me_nil r2
    subst e3
    exact bad (Or.inl (by omega))
  · intro b1 b2 b3 b4 c1 c2 c3 c4
    obtain ⟨s, p1, p2, p3, p4, p5⟩ := good c2 c3
    obtain ⟨t0, t1, -⟩ := p4 rfl
    have b11 := me_fb (c := 14011) hS rfl
    refine ⟨by omega, fun h3 r1 r2 => ?_⟩
    have e3 := me_nil r2
    subst e3
    exact ⟨rfl, hS, p3, Or.inr ⟨c3, c2, zt, s, h1, h2, p1, p2, p5.trans c4⟩⟩
  · intro b1 b2 b3 b4 c1 c2 c3 c4
    obtain ⟨s, p1, p2, p3, p4, p5⟩ := good c2 c3
    obtain ⟨t0, t1, -⟩ := p4 rfl
    have b11 := me_fb (c := 14011) hS rfl
    have bf := me_ab (k := 153) (i := (mi_f h 14033).toNat) hS rfl (by decide) (by omega)
    refine ⟨by omega, fun h3 r1 r2 r3 => ⟨rfl, r1, p3.trans (r3.wide (fun c hc => ab_swr_ok (by decide) hc)), Or.inl ⟨Or.inr (by rw [r2]; exact bf.1), Or.inr ⟨zt, _, s, h1, h2, p1, fun e => c4 (p5.symm.trans e)⟩⟩⟩⟩
theorem pl_T0 {h' : sm_H} (s3 : wk_stk h' = [(1, mi_a h0 114 0, 0), (2, 1, 0)]) (s4 : wk_n 0 h' = 1) : ta_I h0 0 h' := by
  refine ⟨?_, fun i hi => ?_, fun K V k1 k2 k3 => ?_⟩
  · rw [s3]
    trivial
  · rw [s3] at hi
    obtain ⟨e, he, e5, -⟩ := hi
    simp only [List.mem_cons, List.not_mem_nil, or_false] at he
    rcases he with rfl | rfl
    · exact absurd e5 (show ¬ (1 : Int) = 5 from by decide)
    · exact absurd e5 (show ¬ (2 : Int) = 5 from by decide)
  · rw [s3, s4]
    rfl
theorem pl_loop {zh : Int} (hS0 : ab_Sh sx_sk h0) (hL0 : wk_L (mi_a h0) Y) (hx : pm_x Y) (hV0 : px_V h0) (hW0 : ∀ u, 0 ≤ u → u < wk_u Y → px_W h0 u) (oh : mi_in zh) : ∀ (N : Nat) (zt : Int) (q3 q4 : Option mi_V) (h : sm_H), 40000 - zt < N → 0 ≤ zt → zt ≤ 40000 → (∀ v, q3 = some v → mi_ok v) → (∀ v, q4 = some v → mi_ok v) → pl_H Y h0 c0 zt h → me_E (d + 7) 206 52 [some (.inr (.inr 109)), some (.inl zh), some (.inl zt), q3, q4] [] h (pl_End Y h0 c0) := by
  intro N
  induction N with
  | zero => intro zt q3 q4 h hN z0 z1; exfalso; omega
  | succ N ih =>
    intro zt q3 q4 h hN z0 z1 o3 o4 hH
    have ot : mi_in zt := ⟨by omega, by omega⟩
    have hS : ab_Sh sx_sk h := by
      rcases hH with hH | hH
      · exact hH.1
      · exact hH.1.1.1
    have toI : mi_f h 14034 < 0 → mi_f h 14044 = 0 → pl_I Y h0 c0 zt h := fun b' b => by
      rcases hH with hH | hH
      · exfalso
        have := hH.2.2.1
        omega
      · exact hH
    have o2 : ∀ x : Int32, ∀ v : mi_V, some (Sum.inl x.toInt : mi_V) = some v → mi_ok v := fun x v e => by
      cases e
      exact mi_inT x
    have nx : ∀ (x y : Int32) (h' : sm_H), zt < 40000 → pl_H Y h0 c0 (zt + 1) h' → ab_Sh sx_sk h' ∧ me_E (d + 7) 206 52 [some (.inr (.inr 109)), some (.inl zh), some (.inl (zt + 1)), some (.inl x.toInt), some (.inl y.toInt)] [] h' (pl_End Y h0 c0) := fun x y h' hlt hq => by
      refine ⟨?_, ih (zt + 1) _ _ h' (by omega) (by omega) (by omega) (o2 x) (o2 y) hq⟩
      rcases hq with hq | hq
      · exact hq.1
      · exact hq.1.1.1
    have nx175 : ∀ (x y : Int32) (h' : sm_H), zt < 40000 → pl_H Y h0 c0 (zt + 1) h' → me_E (d + 7) 206 175 [some (.inr (.inr 109)), some (.inl zh), some (.inl zt), some (.inl x.toInt), some (.inl y.toInt)] [] h' (pl_End Y h0 c0) := fun x y h' hlt hq => mt_wb175 (nx x y h' hlt hq).1 oh ot (mi_inT x) (mi_inT y) ⟨by omega, fun h3 r1 r2 => by
      have e3 := me_nil r2
      subst e3
      exact (nx x y _ hlt hq).2⟩
    have nx183 : ∀ (x y : Int32) (h' : sm_H), zt < 40000 → pl_H Y h0 c0 (zt + 1) h' → me_E (d + 7) 206 183 [some (.inr (.inr 109)), some (.inl zh), some (.inl zt), some (.inl x.toInt), some (.inl y.toInt)] [] h' (pl_End Y h0 c0) := fun x y h' hlt hq => mt_wb183 (nx x y h' hlt hq).1 oh ot (mi_inT x) (mi_inT y) ⟨by omega, fun h3 r1 r2 => by
      have e3 := me_nil r2
      subst e3
      exact (nx x y _ hlt hq).2⟩
    have nx208 : ∀ (x y : Int32) (h' : sm_H), zt < 40000 → pl_H Y h0 c0 (zt + 1) h' → me_E (d + 7) 206 208 [some (.inr (.inr 109)), some (.inl zh), some (.inl zt), some (.inl x.toInt), some (.inl y.toInt)] [] h' (pl_End Y h0 c0) := fun x y h' hlt hq => mt_wb208 (nx x y h' hlt hq).1 oh ot (mi_inT x) (mi_inT y) ⟨by omega, fun h3 r1 r2 => by
      have e3 := me_nil r2
      subst e3
      exact (nx x y _ hlt hq).2⟩
    have nx218 : ∀ (x y : Int32) (h' : sm_H), zt < 40000 → pl_H Y h0 c0 (zt + 1) h' → me_E (d + 7) 206 218 [some (.inr (.inr 109)), some (.inl zh), some (.inl zt), some (.inl x.toInt), some (.inl y.toInt)] [] h' (pl_End Y h0 c0) := fun x y h' hlt hq => mt_wb218 (nx x y h' hlt hq).1 oh ot (mi_inT x) (mi_inT y) ⟨by omega, fun h3 r1 r2 => by
      have e3 := me_nil r2
      subst e3
      exact (nx x y _ hlt hq).2⟩
    have stk1 : ∀ (h1 : sm_H) (wr : List (Nat × Nat)), 0 < mi_f h 14029 → mi_f h1 14029 = mi_f h 14029 - 1 → ab_Fr wr h h1 → (ab_in wr 21120 || ab_in wr 21248 || ab_in wr 21376) = false → wk_stk h1 = wk_st h (mi_f h 14029 - 1).toNat := by
      intro h1 wr c2 g2 g5 hw
      simp only [Bool.or_eq_false_iff] at hw
      unfold wk_stk
      rw [g2]
      exact wk_st_eq _ (fun i _ => ⟨me_a (k := 165) g5 hS rfl hw.1.1, me_a (k := 166) g5 hS rfl hw.1.2, me_a (k := 167) g5 hS rfl hw.2⟩)
    refine mt_waC hS oh ot o3 o4 ?_ ?_ ?_ ?_ ?_ ?_ ?_ ?_ ?_ ?_ ?_ ?_
    · intro c h1 g1 g2
      have e1 := me_nil g2
      subst e1
      exact pl_247 hS0 hL0 hx oh ot o3 o4 z0 z1 hH (fun _ => Or.inr (by omega))
    · intro b1 c1 c2 h1 g1 g2
      have e1 := me_nil g2
      subst e1
      exact pl_247 hS0 hL0 hx oh ot o3 o4 z0 z1 hH (fun _ => Or.inl c2)
    · intro b1 b2 c1 c2 c3 h1 g1 g2
      have e1 := me_nil g2
      subst e1
      exact pl_247 hS0 hL0 hx oh ot o3 o4 z0 z1 hH (fun hI => by have := hI.1.2.2.2.2.1; omega)
    · intro b1 b2 b3 c1 c2 c3 c4 h1 g1 g2
      have e1 := me_nil g2
      subst e1
      exact pl_247 hS0 hL0 hx oh ot o3 o4 z0 z1 hH (fun hI => by have := hI.1.2.2.2.1; omega)
    · intro b1 b2 b3 c1 c2 c3 c4 s k
      have hG := toI c3 c4
      have hI := hG.1
      have hL : wk_L (mi_a h) Y := wk_L_g hL0 (wk_gc_fr hI.2.1 hS0 rfl)
      have hb29 := hI.2.2.2.2.1
      have htop := hI.2.2.1
      rw [wk_stk_pop c2] at htop
      have hcs := wk_cases htop
      dsimp only at hcs
      refine ⟨by omega, fun h1 g1 g2 g3 => ⟨_, pl_u (d := d) hS0 hL hV0 hW0 hG z0 c1 c2 g1 g2 g3 (by omega) rfl (by omega) (by omega), fun v h' ov hq => ?_⟩⟩
      obtain ⟨rfl, hq⟩ := hq
      exact nx175 _ _ h' c1 hq
    · intro b1 b2 b3 c1 c2 c3 c4 s k
      have hG := toI c3 c4
      have hI := hG.1
      have hL : wk_L (mi_a h) Y := wk_L_g hL0 (wk_gc_fr hI.2.1 hS0 rfl)
      have hb29 := hI.2.2.2.2.1
      have htop := hI.2.2.1
      rw [wk_stk_pop c2] at htop
      have hcs := wk_cases htop
      dsimp only at hcs
      refine ⟨by omega, fun h1 g1 g2 g3 => ⟨_, pl_u (d := d) hS0 hL hV0 hW0 hG z0 c1 c2 g1 g2 g3 (by omega) rfl (by omega) (by omega), fun v h' ov hq => ?_⟩⟩
      obtain ⟨rfl, hq⟩ := hq
      exact nx175 _ _ h' c1 hq
    · intro b1 b2 b3 c1 c2 c3 c4 s
      have hG := toI c3 c4
      have hI := hG.1
      have hL : wk_L (mi_a h) Y := wk_L_g hL0 (wk_gc_fr hI.2.1 hS0 rfl)
      have hb29 := hI.2.2.2.2.1
      refine ⟨by omega, fun h1 g1 g2 g3 => ⟨_, pl_f (d := d) hS0 hL hV0 hW0 hG z0 c1 c2 g1 g2 g3 (by omega) rfl rfl, fun v h' ov hq => ?_⟩⟩
      obtain ⟨rfl, hq⟩ := hq
      exact nx183 _ _ h' c1 hq
    · intro b1 b2 b3 b4 c1 c2 c3 c4 s
      obtain ⟨hI, gs, hR, hto, hJ⟩ := toI c3 c4
      have hb29 := hI.2.2.2.2.1
      have htop := hI.2.2.1
      have hst := wk_stk_pop c2
      have es : mi_a h 165 (mi_f h 14029 - 1).toNat = 2 := by omega
      rw [es] at hst
      rw [hst] at htop
      obtain ⟨w1, w2, w3, w4, w5⟩ := wk_out htop
      refine ⟨by omega, fun h1 g1 g2 g3 g4 g5 => ?_⟩
      have e30 : mi_f h1 14030 = mi_f h 14030 := me_f (c := 14030) g5 hS rfl rfl
      have e16 : mi_f h1 14016 = mi_f h 14016 := me_f (c := 14016) g5 hS rfl rfl
      have k1 := stk1 h1 _ c2 g2 g5 rfl
      have hW : wl_H Y h0 0 (ta_I h0) (zt + 1) h1 := Or.inr (wl_rest (ta_T hS0) hI z0 c1 c2 g2 hst (Or.inl rfl) g1 g5 (by decide) (by
        rw [e30, g4]
        exact wk_SI_Z _ _ _ _ w5 (fun i _ => ⟨me_a (k := 168) g5 hS rfl rfl, me_a (k := 169) g5 hS rfl rfl⟩) (by show mi_f h 14016 ≤ mi_f h1 14016; omega)) (by omega) (by have := hI.2.2.2.2.2; omega))
      refine (nx _ _ h1 c1 (pl_next (hq := h) (v := none) (h1 := h1) (Or.inr (Or.inr (Or.inl rfl))) z0 (by rw [k1]; exact hst) hto hJ hW ?_)).2
      rw [pm_st_2]
      have jd := hJ.1
      have jl := hJ.2.1
      have jn := hJ.2.2.1
      dsimp only at jd jl jn
      rw [hst, gm_outs_2] at jd
      have := gm_outs_nn (wk_st h (mi_f h 14029 - 1).toNat)
      obtain ⟨r1, r2, r3, r4, r5, r6⟩ := hR
      dsimp only at r1 r2 r3 r4 r5 r6
      refine pl_ux g1 ((me_f (c := 14044) g5 hS rfl rfl).trans c4) (by rw [me_f (c := 14034) g5 hS rfl rfl]; exact c3) rfl ?_ ?_
      · unfold px_R gm_len
        dsimp only
        simp only [gm_T_mk, gm_F_mk, gm_D_mk, gm_P_mk]
        refine ⟨gx_T_fr r1 g5 hS rfl, (me_f (c := 14033) g5 hS rfl rfl).trans r2, ?_, e30.trans r4, gx_P_fr g5 hS rfl _ r5, fun x hx x5 => ?_⟩
        · rw [g3, r3]
          exact (gx_wrap (by omega) (by omega)).1
        · rw [k1] at hx
          obtain ⟨y1, y2, y3⟩ := r6 x (by rw [hst]; exact List.mem_cons_of_mem _ hx) x5
          exact ⟨y1, y2, (me_a (k := 160) g5 hS rfl rfl).trans y3⟩
      · have i10 := hI.1.2.2.2.2.2.2.2.2.2.1
        rw [hst, wk_ul_o] at i10
        rw [g4, k1]
        omega
    · intro b1 b2 b3 b4 b5 c1 c2 c3 c4 s
      obtain ⟨hI, gs, hR, hto, hJ⟩ := toI c3 c4
      have hb29 := hI.2.2.2.2.1
      have hp60 := hI.2.2.2.2.2
      have htop := hI.2.2.1
      have hst := wk_stk_pop c2
      have es : mi_a h 165 (mi_f h 14029 - 1).toNat = 3 := by omega
      rw [es] at hst
      rw [hst] at htop
      obtain ⟨w1, w2, w3⟩ := wk_mid htop
      refine ⟨by omega, fun h1 g1 g2 g4 g5 => ?_⟩
      have e30 : mi_f h1 14030 = mi_f h 14030 := me_f (c := 14030) g5 hS rfl rfl
      have e32 : mi_f h1 14032 = mi_f h 14032 := me_f (c := 14032) g5 hS rfl rfl
      have e16 : mi_f h1 14016 = mi_f h 14016 := me_f (c := 14016) g5 hS rfl rfl
      have k1 := stk1 h1 _ c2 g2 g5 rfl
      have hW : wl_H Y h0 0 (ta_I h0) (zt + 1) h1 := Or.inr (wl_rest (ta_T hS0) hI z0 c1 c2 g2 hst (Or.inr (Or.inl rfl)) g1 g5 (by decide) (by
        rw [e30, e32]
        refine wk_middle (wk_SI_Z (Z' := wl_Z h1) _ _ _ _ w3 (fun i hi => ⟨me_a (k := 168) g5 hS rfl rfl, ?_⟩) (by show mi_f h 14016 ≤ mi_f h1 14016; omega)) ?_
        · rw [if_neg (by decide)] at hi
          show mi_a h1 169 i = mi_a h 169 i
          rw [g4, if_neg (by omega)]
        · have w2 : 0 ≤ mi_a h 168 (mi_f h 14030 - 1).toNat ∧ mi_a h 168 (mi_f h 14030 - 1).toNat ≤ mi_f h 14016 := w2
          show 0 ≤ mi_a h1 168 (mi_f h 14030 - 1).toNat ∧ mi_a h1 168 (mi_f h 14030 - 1).toNat ≤ mi_a h1 169 (mi_f h 14030 - 1).toNat ∧ mi_a h1 169 (mi_f h 14030 - 1).toNat ≤ mi_f h1 14016
          rw [g4, if_pos rfl, me_a (k := 168) g5 hS rfl rfl, e16]
          exact ⟨w2.1, w2.2, Int.le_refl _⟩) (by rw [e32]; exact hI.1.2.2.2.2.2.2.2.2.1) (by omega))
      refine (nx _ _ h1 c1 (pl_next (hq := h) (v := none) (h1 := h1) (Or.inr (Or.inr (Or.inr (Or.inl rfl)))) z0 (by rw [k1]; exact hst) hto hJ hW ?_)).2
      rw [pm_st_3]
      obtain ⟨r1, r2, r3, r4, r5, r6⟩ := hR
      dsimp only at r1 r2 r3 r4 r5 r6
      refine pl_ux g1 ((me_f (c := 14044) g5 hS rfl rfl).trans c4) (by rw [me_f (c := 14034) g5 hS rfl rfl]; exact c3) rfl ?_ ?_
      · unfold px_R gm_mid gm_len
        dsimp only
        simp only [gm_T_mk, gm_F_mk, gm_D_mk, gm_P_mk]
        refine ⟨gx_T_fr r1 g5 hS rfl, (me_f (c := 14033) g5 hS rfl rfl).trans r2, (me_f (c := 14031) g5 hS rfl rfl).trans r3, ?_, ?_, fun x hx x5 => ?_⟩
        · rw [e30, r4]
          cases gm_P gs with
          | nil => rfl
          | cons p q => rfl
        · cases hP : gm_P gs with
          | nil => exact trivial
          | cons p q =>
            rw [hP] at r4 r5
            rw [List.length_cons] at r4
            obtain ⟨x1, x2, x3⟩ := r5
            have ei : (mi_f h 14030 - 1).toNat = q.length := by omega
            refine ⟨(me_a (k := 168) g5 hS rfl rfl).trans x1, Or.inr ?_, gx_P_lt (L := q.length) (fun i hi => ⟨me_a (k := 168) g5 hS rfl rfl, ?_⟩) _ (Nat.le_refl _) x3⟩
            · rw [g4, if_pos ei.symm]
              exact r1.1
            · rw [g4, if_neg (by omega)]
        · rw [k1] at hx
          obtain ⟨y1, y2, y3⟩ := r6 x (by rw [hst]; exact List.mem_cons_of_mem _ hx) x5
          exact ⟨y1, y2, (me_a (k := 160) g5 hS rfl rfl).trans y3⟩
      · have i10 := hI.1.2.2.2.2.2.2.2.2.2.1
        rw [hst, wk_ul_c (by decide)] at i10
        rw [e32, k1]
        exact i10.symm
    · intro b1 b2 b3 c1 c2 c3 c4 s
      obtain ⟨hI, gs, hR, hto, hJ⟩ := toI c3 c4
      have hb29 := hI.2.2.2.2.1
      have hp60 := hI.2.2.2.2.2
      have htop := hI.2.2.1
      have hst := wk_stk_pop c2
      have es : mi_a h 165 (mi_f h 14029 - 1).toNat = 4 := by omega
      rw [es] at hst
      rw [hst] at htop
      obtain ⟨w1, w2, w3⟩ := wk_turn htop
      have w2 : 0 ≤ mi_a h 168 (mi_f h 14030 - 1).toNat ∧ mi_a h 168 (mi_f h 14030 - 1).toNat ≤ mi_a h 169 (mi_f h 14030 - 1).toNat ∧ mi_a h 169 (mi_f h 14030 - 1).toNat ≤ mi_f h 14016 := w2
      refine ⟨by omega, fun h1 g1 g2 g3 => ?_⟩
      have e30 : mi_f h1 14030 = mi_f h 14030 := me_f (c := 14030) g3 hS rfl rfl
      have e16 : mi_f h1 14016 = mi_f h 14016 := me_f (c := 14016) g3 hS rfl rfl
      have e168 : mi_a h1 168 (mi_f h 14030 - 1).toNat = mi_a h 168 (mi_f h 14030 - 1).toNat := me_a (k := 168) g3 hS rfl rfl
      have e169 : mi_a h1 169 (mi_f h 14030 - 1).toNat = mi_a h 169 (mi_f h 14030 - 1).toNat := me_a (k := 169) g3 hS rfl rfl
      -- the pair on the top
      obtain ⟨p, q, hP, hp0⟩ : ∃ p q, gm_P gs = p :: q ∧ p.2 ≠ 0 := by
        have j5 := hJ.2.2.2.1
        dsimp only at j5
        rw [hst] at j5
        cases hP : gm_P gs with
        | nil =>
          rw [hP] at j5
          exact absurd j5 gm_fl_40
        | cons p q =>
          rw [hP] at j5
          have j5 : gm_fl ((4, mi_a h 166 (mi_f h 14029 - 1).toNat, mi_a h 167 (mi_f h 14029 - 1).toNat) :: wk_st h (mi_f h 14029 - 1).toNat) (decide (p.2 ≠ 0) :: gm_fg q) := j5
          rw [gm_fl_4] at j5
          exact ⟨p, q, rfl, of_decide_eq_true j5.1⟩
      have hlt : ∀ x ∈ wk_st h (mi_f h 14029 - 1).toNat, x.1 = 5 → x.2.2 < (p.1 : Int) := by
        have j6 := hJ.2.2.2.2.1
        dsimp only at j6
        rw [hst, hP] at j6
        have j6 : pm_al ((4, mi_a h 166 (mi_f h 14029 - 1).toNat, mi_a h 167 (mi_f h 14029 - 1).toNat) :: wk_st h (mi_f h 14029 - 1).toNat) ((p.1 : Int) :: pm_bg q) := j6
        rw [pm_al_4] at j6
        exact j6.1
      have hR' : px_R h (wk_st h (mi_f h 14029 - 1).toNat, gs) := px_R_st hR (fun x hx _ => by rw [hst]; exact List.mem_cons_of_mem _ hx)
      obtain ⟨r1, r2, r3, r4, r5, r6⟩ := id hR
      dsimp only at r1 r2 r3 r4 r5 r6
      have r16 := r1.1
      rw [hP] at r4 r5
      rw [List.length_cons] at r4
      obtain ⟨x1, x2, x3⟩ := r5
      have x2 := x2.resolve_left hp0
      have ei : (mi_f h 14030 - 1).toNat = q.length := by omega
      rw [ei, x1, x2, r16] at w2
      refine ⟨_, (me_swap (d := d + 6) g1 (by omega) (by omega) (by rw [e30, e168, ei, x1]; omega) (by rw [e30, e168, e169, ei, x1, x2]; omega) (by rw [e30, e169, e16, ei, x2]; omega)).and (me_swapp (d := d + 6) g1 (px_R_fr hR' g3 hS rfl rfl rfl rfl rfl) hP (by omega) hp0 (by omega) (by omega) hlt), fun v h' ov hq => ?_⟩
      obtain ⟨⟨rfl, q1, q2, q3⟩, ⟨-, -, -, q4⟩⟩ := hq
      have hF : ab_Fr ([(14029, 14031), (18560, 18561), (20480, 20481)]) h h' := (g3.wide (fun c hc => ab_swr_ok (by decide) hc)).trans (q2.wide (fun c hc => ab_swr_ok (by decide) hc))
      have f29 : mi_f h' 14029 = mi_f h 14029 - 1 := (me_f (c := 14029) q2 g1 rfl rfl).trans g2
      have f16 : mi_f h' 14016 = mi_f h 14016 := me_f (c := 14016) hF hS rfl rfl
      have f32 : mi_f h' 14032 = mi_f h 14032 := me_f (c := 14032) hF hS rfl rfl
      have f30 : mi_f h' 14030 = mi_f h 14030 - 1 := by omega
      have k1 := stk1 h' _ c2 f29 hF rfl
      have hW : wl_H Y h0 0 (ta_I h0) (zt + 1) h' := Or.inr (wl_rest (ta_T hS0) hI z0 c1 c2 f29 hst (Or.inr (Or.inr rfl)) q1 hF (by decide) (by
        rw [f30, f32]
        exact wk_SI_Z _ _ _ _ w3 (fun i _ => ⟨me_a (k := 168) hF hS rfl rfl, me_a (k := 169) hF hS rfl rfl⟩) (by show mi_f h 14016 ≤ mi_f h' 14016; omega)) (by rw [f32]; exact hI.1.2.2.2.2.2.2.2.2.1) (by omega))
      refine nx208 _ _ h' c1 (pl_next (hq := h) (v := none) (h1 := h') (Or.inr (Or.inr (Or.inr (Or.inr (Or.inl rfl))))) z0 (by rw [k1]; exact hst) hto hJ hW ?_)
      rw [pm_st_4]
      refine pl_ux q1 ((me_f (c := 14044) hF hS rfl rfl).trans c4) (by rw [me_f (c := 14034) hF hS rfl rfl]; exact c3) rfl (by rw [k1]; exact q4) ?_
      have i10 := hI.1.2.2.2.2.2.2.2.2.2.1
      rw [hst, wk_ul_c (by decide)] at i10
      rw [f32, k1]
      exact i10.symm
    · intro b1 b2 b3 c1 c2 c3 c4 s
      have hG := toI c3 c4
      have hI := hG.1
      have hL : wk_L (mi_a h) Y := wk_L_g hL0 (wk_gc_fr hI.2.1 hS0 rfl)
      have hb29 := hI.2.2.2.2.1
      refine ⟨by omega, fun h1 g1 g2 g3 => ⟨_, pl_a (d := d) hS0 hL hV0 hW0 hG z0 c1 c2 g1 g2 g3 (by omega) rfl rfl, fun v h' ov hq => ?_⟩⟩
      obtain ⟨rfl, hq⟩ := hq
      exact nx218 _ _ h' c1 hq
    · intro b1 b2 b3 b4 c1 c2 c3 c4 s
      exfalso
      have hI := (toI c3 c4).1
      have htop := hI.2.2.1
      rw [wk_stk_pop c2] at htop
      have hcs := wk_cases htop
      dsimp only at hcs
      omega
/-- from the begin -/
theorem me_walkp {h : sm_H} (hS : ab_Sh sx_sk h) (hL : wk_L (mi_a h) Y) (hx : pm_x Y) (hr : wk_Lrule Y (mi_a h 114 0)) (hV : px_V h) (hW : ∀ u, 0 ≤ u → u < wk_u Y → px_W h u) (htok : mi_a h 152 (mi_f h 14011).toNat = 0) (X : Int64) : me_E (d + 7) 206 0 [some (.inr (.inr 109)), some (.inl (0 : Int)), none, none, none] [] h (pl_End Y h ([(1, mi_a h 114 0, 0), (2, 1, 0)], (X, 0, [(1, 0, 0)], 1, []))) := by
  have oh : mi_in 0 := ⟨by decide, by decide⟩
  refine mt_waA hS oh ?_
  intro h1 g1 f16 f28 f29 f30 f31 f32 f33 f34 f44 g2
  have est : wk_stk h1 = [] := by unfold wk_stk; rw [f29]; rfl
  have e14 : mi_a h1 114 (Int.toNat 0) = mi_a h 114 0 := me_a (k := 114) g2 hS rfl rfl
  have f11 : mi_f h1 14011 = mi_f h 14011 := me_f (c := 14011) g2 hS rfl rfl
  have b11 := me_fb (c := 14011) hS rfl
  have hR1 : px_R h1 (wk_stk h1, (X, 0, [], 0, [])) := by
    unfold px_R
    dsimp only
    simp only [gm_T_mk, gm_F_mk, gm_D_mk, gm_P_mk]
    refine ⟨⟨f16, fun k hk => absurd hk (Nat.not_lt_zero _), fun k j hk => absurd hk (Nat.not_lt_zero _)⟩, f33, f31, f30, trivial, fun x hx => ?_⟩
    rw [est] at hx
    cases hx
  refine ⟨_, (me_enter (d := d + 4) 0 g1 f28 (by decide) (by decide) (by omega) (by omega) (by omega) (by omega) (fun e => absurd e (by decide))).and (me_enterp (d := d + 4) g1 f28 (by omega) (by omega) (by omega) (by rw [est, f32]; rfl) (by omega) (by omega) (by decide) (by decide) hR1 (by rw [gm_D_mk]; decide) (by rw [gm_D_mk]; decide)), fun v h2 ov hq => ?_⟩
  obtain ⟨⟨rfl, q1, q2, q3, q4⟩, qx⟩ := hq
  have hF : ab_Fr wr_WK h h2 := (g2.wide (fun c hc => ab_swr_ok (by decide) hc)).trans (q2.wide (fun c hc => ab_swr_ok (by decide) hc))
  have een : pm_en 0 (mi_a h1) 0 (wk_stk h1) (X, 0, [], 0, []) = some ([(1, mi_a h 114 0, 0), (2, 1, 0)], (X, 0, [(1, 0, 0)], 1, [])) := by
    unfold pm_en gm_c
    rw [est, if_neg (show ¬ (12 : Int) ≤ 0 + wk_ul [] by decide), gm_X_mk, gm_F_mk, gm_T_mk, gm_D_mk, gm_P_mk, if_neg (show ¬ 100 ≤ ([] : List (Int × Int × Int)).length by decide), e14]
    rfl
  rw [een] at qx
  obtain ⟨-, -, -, q5⟩ := qx
  refine mt_waB q1 oh ?_
  intro h3 r1 r2
  have e3 := me_nil r2
  subst e3
  refine pl_loop hS hL hx hV hW oh 40001 0 none none _ (by decide) (by decide) (by decide) (fun v e => by cases e) (fun v e => by cases e) ?_
  rcases q5 with ⟨q5, -⟩ | ⟨q5, q5', c, q6, q7, q8, q9⟩
  · cases q5
  · injection q6 with q6
    subst q6
    dsimp only at q7 q9
    rcases q4 with q4 | ⟨-, p5, p6, p7, p8, p9⟩
    · exfalso; omega
    · obtain ⟨v1, v2, v3, v4⟩ := p9
      have p30 : mi_f h3 14030 = 0 := (me_f (c := 14030) q2 g1 rfl rfl).trans f30
      have p28 : mi_f h3 14028 = 0 := (me_f (c := 14028) q2 g1 rfl rfl).trans f28
      have p33 : mi_f h3 14033 = 0 := q8.2.1
      have p11 : mi_f h3 14011 = mi_f h 14011 := me_f (c := 14011) hF hS rfl rfl
      have ul : wk_ul [(1, mi_a h 114 0, 0), (2, 1, 0)] = 1 := by
        rw [wk_ul_c (by decide)]
        rfl
      have e16 : mi_f h3 14016 = 1 := q8.1.1
      have tk : wk_tok 0 h3 := fun _ => by
        rw [p33, p11, me_a (k := 152) hF hS rfl rfl]
        exact ⟨by decide, b11.1, htok⟩
      have en : wk_n 0 h3 = 1 := by unfold wk_n; rw [if_neg (by decide)]; exact e16
      refine Or.inr ⟨⟨⟨q1, p28, Or.inl rfl, q5, q5', tk, by omega, by omega, by omega, by rw [q7, ul]; omega, by rw [en]; decide⟩, hF, ?_, ?_, by omega, by omega⟩, (X, 0, [(1, 0, 0)], 1, []), by rw [q7]; exact q8, by rw [q7]; rfl, ?_⟩
      · obtain ⟨l1, l2, l3⟩ := hr
        have hd := (hL.2.2.2 _ l1 l2).1
        rw [q7, p30, p6, f32]
        refine wk_pform ⟨l1, l2, ?_, by decide, by omega, by decide, by decide⟩ (wk_pout (Or.inr rfl) (by decide) (by decide) (by decide) ?_)
        · show (1 : Int) + _ - 4 ≤ _
          omega
        · unfold wk_SI
          exact ⟨rfl, rfl, by decide⟩
      · exact pl_T0 q7 en
      · rw [q7]
        unfold pm_I gm_len
        dsimp only
        simp only [gm_T_mk, gm_D_mk, gm_P_mk]
        refine ⟨rfl, by decide, by decide, trivial, trivial, fun x hx x5 => ?_⟩
        rcases List.mem_cons.mp hx with rfl | hx
        · exact absurd x5 (show ¬ (1 : Int) = 5 by decide)
        · rcases List.mem_cons.mp hx with rfl | hx
          · exact absurd x5 (show ¬ (2 : Int) = 5 by decide)
          · cases hx
end PLM
/-! segments of the class: Parsing, its choices -/
set_option maxRecDepth 20000 in
theorem mp_kpen_0 (h : sm_H) (d : Nat) (zk zv : Int) : mj_path [(116, (4, 1, sb_116)), (16, (3, 0, sb_16)), (49, (2, 1, sb_49)), (72, (2, 2, sb_72)), (117, (3, 1, sb_117)), (114, (1, 0, sb_114))] sx_sk h 52 [1, 1, 1, 1, 8, 8, 1] (d + 2, 116, 0, [some (.inr (.inr 106)), some (.inl (zk)), some (.inl (zv)), none], [], [], []) = some ((d + 2, 116, 20, [some (.inr (.inr 106)), some (.inl (zk)), some (.inl (zv)), some (.inl (((mi_f h 13056) + ((1 : Int))) - ((1 : Int))))], [.inl (((mi_f h 13056) + ((1 : Int))) - ((1 : Int)))], [.inl (13056, (mi_f h 13056) + ((1 : Int)))], []), [(mi_f h 13056) < ((100 : Int)), (mi_f h 13056) < ((0 : Int)), (mi_f h 13056) < ((0 : Int)), (mi_f h 13056) < ((0 : Int)), -2147483648 ≤ (mi_f h 13056) + ((1 : Int)) ∧ (mi_f h 13056) + ((1 : Int)) ≤ 2147483647, -2147483648 ≤ ((mi_f h 13056) + ((1 : Int))) - ((1 : Int)) ∧ ((mi_f h 13056) + ((1 : Int))) - ((1 : Int)) ≤ 2147483647, (((mi_f h 13056) + ((1 : Int))) - ((1 : Int))) ≠ ((-1 : Int))]) := rfl
theorem mi_tab_kpen_0 : ∀ e ∈ ([(116, (4, 1, sb_116)), (16, (3, 0, sb_16)), (49, (2, 1, sb_49)), (72, (2, 2, sb_72)), (117, (3, 1, sb_117)), (114, (1, 0, sb_114))] : mi_T), sc_P e.1 = some e.2 := mi_tb mi_P116 (mi_tb mi_P16 (mi_tb mi_P49 (mi_tb mi_P72 (mi_tb mi_P117 (mi_tb mi_P114 (mi_tb_e))))))
set_option maxRecDepth 20000 in
theorem ms_kpen_0 {h : sm_H} {d : Nat} {Q : Option mi_V → sm_H → Prop} {zk zv : Int} (hS : ab_Sh sx_sk h) (ok_zk : mi_in zk) (ok_zv : mi_in zv) (ho : ((mi_f h 13056) < ((100 : Int))) ∧ ((mi_f h 13056) < ((0 : Int))) ∧ ((mi_f h 13056) < ((0 : Int))) ∧ ((mi_f h 13056) < ((0 : Int))) ∧ (-2147483648 ≤ (mi_f h 13056) + ((1 : Int)) ∧ (mi_f h 13056) + ((1 : Int)) ≤ 2147483647) ∧ (-2147483648 ≤ ((mi_f h 13056) + ((1 : Int))) - ((1 : Int)) ∧ ((mi_f h 13056) + ((1 : Int))) - ((1 : Int)) ≤ 2147483647) ∧ ((((mi_f h 13056) + ((1 : Int))) - ((1 : Int))) ≠ ((-1 : Int)))) (kon : ∀ h1, me_W [.inl (13056, (mi_f h 13056) + ((1 : Int)))] h h1 → Q (some (.inl (((mi_f h 13056) + ((1 : Int))) - ((1 : Int))))) h1) : me_E (d + 2) 116 0 [some (.inr (.inr 106)), some (.inl (zk)), some (.inl (zv)), none] [] h Q := mf_seg (mp_kpen_0 h d zk zv) (mi_tab_kpen_0) hS (mi_okL_c (trivial) (mi_okL_c (ok_zk) (mi_okL_c (ok_zv) (mi_okL_n (mi_okL_e))))) (mi_okS_e) (mi_al (ho.1) (mi_al (ho.2.1) (mi_al (ho.2.2.1) (mi_al (ho.2.2.2.1) (mi_al (ho.2.2.2.2.1) (mi_al (ho.2.2.2.2.2.1) (mi_al (ho.2.2.2.2.2.2) (mi_al_e)))))))) (fun h1 W _ hst => mf_ret (M := (4, 1, sb_116)) rfl rfl rfl hst (mi_al_e) (kon h1 W))
set_option maxRecDepth 20000 in
theorem mp_kpen_1 (h : sm_H) (d : Nat) (zk zv : Int) : mj_path [(116, (4, 1, sb_116)), (16, (3, 0, sb_16)), (49, (2, 1, sb_49)), (72, (2, 2, sb_72)), (117, (3, 1, sb_117)), (114, (1, 0, sb_114))] sx_sk h 61 [1, 1, 1, 1, 8, 8, 0] (d + 2, 116, 0, [some (.inr (.inr 106)), some (.inl (zk)), some (.inl (zv)), none], [], [], []) = some ((d + 2, 116, 20, [some (.inr (.inr 106)), some (.inl (zk)), some (.inl (zv)), some (.inl (((mi_f h 13056) + ((1 : Int))) - ((1 : Int))))], [.inl (((mi_f h 13056) + ((1 : Int))) - ((1 : Int)))], [.inl (13571, (1 : Int)), .inl (13572, (1 : Int)), .inl (13056, (mi_f h 13056) + ((1 : Int)))], []), [(mi_f h 13056) < ((100 : Int)), (mi_f h 13056) < ((0 : Int)), (mi_f h 13056) < ((0 : Int)), (mi_f h 13056) < ((0 : Int)), -2147483648 ≤ (mi_f h 13056) + ((1 : Int)) ∧ (mi_f h 13056) + ((1 : Int)) ≤ 2147483647, -2147483648 ≤ ((mi_f h 13056) + ((1 : Int))) - ((1 : Int)) ∧ ((mi_f h 13056) + ((1 : Int))) - ((1 : Int)) ≤ 2147483647, (((mi_f h 13056) + ((1 : Int))) - ((1 : Int))) = ((-1 : Int)), 0 ≤ ((1 : Int)) ∧ ((1 : Int)) ≤ 1, 0 ≤ ((1 : Int)) ∧ ((1 : Int)) ≤ 1, 0 ≤ ((1 : Int)) ∧ ((1 : Int)) ≤ 1, 0 ≤ ((1 : Int)) ∧ ((1 : Int)) ≤ 1]) := rfl
theorem mi_tab_kpen_1 : ∀ e ∈ ([(116, (4, 1, sb_116)), (16, (3, 0, sb_16)), (49, (2, 1, sb_49)), (72, (2, 2, sb_72)), (117, (3, 1, sb_117)), (114, (1, 0, sb_114))] : mi_T), sc_P e.1 = some e.2 := mi_tb mi_P116 (mi_tb mi_P16 (mi_tb mi_P49 (mi_tb mi_P72 (mi_tb mi_P117 (mi_tb mi_P114 (mi_tb_e))))))
set_option maxRecDepth 20000 in
theorem ms_kpen_1 {h : sm_H} {d : Nat} {Q : Option mi_V → sm_H → Prop} {zk zv : Int} (hS : ab_Sh sx_sk h) (ok_zk : mi_in zk) (ok_zv : mi_in zv) (ho : ((mi_f h 13056) < ((100 : Int))) ∧ ((mi_f h 13056) < ((0 : Int))) ∧ ((mi_f h 13056) < ((0 : Int))) ∧ ((mi_f h 13056) < ((0 : Int))) ∧ (-2147483648 ≤ (mi_f h 13056) + ((1 : Int)) ∧ (mi_f h 13056) + ((1 : Int)) ≤ 2147483647) ∧ (-2147483648 ≤ ((mi_f h 13056) + ((1 : Int))) - ((1 : Int)) ∧ ((mi_f h 13056) + ((1 : Int))) - ((1 : Int)) ≤ 2147483647) ∧ ((((mi_f h 13056) + ((1 : Int))) - ((1 : Int))) = ((-1 : Int))) ∧ (0 ≤ ((1 : Int)) ∧ ((1 : Int)) ≤ 1) ∧ (0 ≤ ((1 : Int)) ∧ ((1 : Int)) ≤ 1) ∧ (0 ≤ ((1 : Int)) ∧ ((1 : Int)) ≤ 1) ∧ (0 ≤ ((1 : Int)) ∧ ((1 : Int)) ≤ 1)) (kon : ∀ h1, me_W [.inl (13571, (1 : Int)), .inl (13572, (1 : Int)), .inl (13056, (mi_f h 13056) + ((1 : Int)))] h h1 → Q (some (.inl (((mi_f h 13056) + ((1 : Int))) - ((1 : Int))))) h1) : me_E (d + 2) 116 0 [some (.inr (.inr 106)), some (.inl (zk)), some (.inl (zv)), none] [] h Q := mf_seg (mp_kpen_1 h d zk zv) (mi_tab_kpen_1) hS (mi_okL_c (trivial) (mi_okL_c (ok_zk) (mi_okL_c (ok_zv) (mi_okL_n (mi_okL_e))))) (mi_okS_e) (mi_al (ho.1) (mi_al (ho.2.1) (mi_al (ho.2.2.1) (mi_al (ho.2.2.2.1) (mi_al (ho.2.2.2.2.1) (mi_al (ho.2.2.2.2.2.1) (mi_al (ho.2.2.2.2.2.2.1) (mi_al (ho.2.2.2.2.2.2.2.1) (mi_al (ho.2.2.2.2.2.2.2.2.1) (mi_al (ho.2.2.2.2.2.2.2.2.2.1) (mi_al (ho.2.2.2.2.2.2.2.2.2.2) (mi_al_e)))))))))))) (fun h1 W _ hst => mf_ret (M := (4, 1, sb_116)) rfl rfl rfl hst (mi_al_e) (kon h1 W))
set_option maxRecDepth 20000 in
theorem mp_kpen_2 (h : sm_H) (d : Nat) (zk zv : Int) : mj_path [(116, (4, 1, sb_116)), (16, (3, 0, sb_16)), (49, (2, 1, sb_49)), (72, (2, 2, sb_72)), (117, (3, 1, sb_117)), (114, (1, 0, sb_114))] sx_sk h 76 [1, 0, 0, 0, 0, 0, 0, 8, 8, 1] (d + 2, 116, 0, [some (.inr (.inr 106)), some (.inl (zk)), some (.inl (zv)), none], [], [], []) = some ((d + 2, 116, 20, [some (.inr (.inr 106)), some (.inl (zk)), some (.inl (zv)), some (.inl (((mi_f h 13056) + ((1 : Int))) - ((1 : Int))))], [.inl (((mi_f h 13056) + ((1 : Int))) - ((1 : Int)))], [.inl (13056, (mi_f h 13056) + ((1 : Int))), .inr (.inr (.inl (105, Int.toNat (mi_f h 13056), (0 : Int)))), .inr (.inr (.inl (104, Int.toNat (mi_f h 13056), zv))), .inr (.inr (.inl (103, Int.toNat (mi_f h 13056), zk)))], []), [(mi_f h 13056) < ((100 : Int)), ((0 : Int)) ≤ (mi_f h 13056), (mi_f h 13056) < ((100 : Int)), 0 ≤ (mi_f h 13056) ∧ (mi_f h 13056) < 100, ((0 : Int)) ≤ (mi_f h 13056), (mi_f h 13056) < ((100 : Int)), 0 ≤ (mi_f h 13056) ∧ (mi_f h 13056) < 100, ((0 : Int)) ≤ (mi_f h 13056), (mi_f h 13056) < ((100 : Int)), 0 ≤ (mi_f h 13056) ∧ (mi_f h 13056) < 100, -2147483648 ≤ (mi_f h 13056) + ((1 : Int)) ∧ (mi_f h 13056) + ((1 : Int)) ≤ 2147483647, -2147483648 ≤ ((mi_f h 13056) + ((1 : Int))) - ((1 : Int)) ∧ ((mi_f h 13056) + ((1 : Int))) - ((1 : Int)) ≤ 2147483647, (((mi_f h 13056) + ((1 : Int))) - ((1 : Int))) ≠ ((-1 : Int))]) := rfl
theorem mi_tab_kpen_2 : ∀ e ∈ ([(116, (4, 1, sb_116)), (16, (3, 0, sb_16)), (49, (2, 1, sb_49)), (72, (2, 2, sb_72)), (117, (3, 1, sb_117)), (114, (1, 0, sb_114))] : mi_T), sc_P e.1 = some e.2 := mi_tb mi_P116 (mi_tb mi_P16 (mi_tb mi_P49 (mi_tb mi_P72 (mi_tb mi_P117 (mi_tb mi_P114 (mi_tb_e))))))
set_option maxRecDepth 20000 in
theorem ms_kpen_2 {h : sm_H} {d : Nat} {Q : Option mi_V → sm_H → Prop} {zk zv : Int} (hS : ab_Sh sx_sk h) (ok_zk : mi_in zk) (ok_zv : mi_in zv) (ho : ((mi_f h 13056) < ((100 : Int))) ∧ (((0 : Int)) ≤ (mi_f h 13056)) ∧ ((mi_f h 13056) < ((100 : Int))) ∧ (0 ≤ (mi_f h 13056) ∧ (mi_f h 13056) < 100) ∧ (((0 : Int)) ≤ (mi_f h 13056)) ∧ ((mi_f h 13056) < ((100 : Int))) ∧ (0 ≤ (mi_f h 13056) ∧ (mi_f h 13056) < 100) ∧ (((0 : Int)) ≤ (mi_f h 13056)) ∧ ((mi_f h 13056) < ((100 : Int))) ∧ (0 ≤ (mi_f h 13056) ∧ (mi_f h 13056) < 100) ∧ (-2147483648 ≤ (mi_f h 13056) + ((1 : Int)) ∧ (mi_f h 13056) + ((1 : Int)) ≤ 2147483647) ∧ (-2147483648 ≤ ((mi_f h 13056) + ((1 : Int))) - ((1 : Int)) ∧ ((mi_f h 13056) + ((1 : Int))) - ((1 : Int)) ≤ 2147483647) ∧ ((((mi_f h 13056) + ((1 : Int))) - ((1 : Int))) ≠ ((-1 : Int)))) (kon : ∀ h1, me_W [.inl (13056, (mi_f h 13056) + ((1 : Int))), .inr (.inr (.inl (105, Int.toNat (mi_f h 13056), (0 : Int)))), .inr (.inr (.inl (104, Int.toNat (mi_f h 13056), zv))), .inr (.inr (.inl (103, Int.toNat (mi_f h 13056), zk)))] h h1 → Q (some (.inl (((mi_f h 13056) + ((1 : Int))) - ((1 : Int))))) h1) : me_E (d + 2) 116 0 [some (.inr (.inr 106)), some (.inl (zk)), some (.inl (zv)), none] [] h Q := mf_seg (mp_kpen_2 h d zk zv) (mi_tab_kpen_2) hS (mi_okL_c (trivial) (mi_okL_c (ok_zk) (mi_okL_c (ok_zv) (mi_okL_n (mi_okL_e))))) (mi_okS_e) (mi_al (ho.1) (mi_al (ho.2.1) (mi_al (ho.2.2.1) (mi_al (ho.2.2.2.1) (mi_al (ho.2.2.2.2.1) (mi_al (ho.2.2.2.2.2.1) (mi_al (ho.2.2.2.2.2.2.1) (mi_al (ho.2.2.2.2.2.2.2.1) (mi_al (ho.2.2.2.2.2.2.2.2.1) (mi_al (ho.2.2.2.2.2.2.2.2.2.1) (mi_al (ho.2.2.2.2.2.2.2.2.2.2.1) (mi_al (ho.2.2.2.2.2.2.2.2.2.2.2.1) (mi_al (ho.2.2.2.2.2.2.2.2.2.2.2.2) (mi_al_e)))))))))))))) (fun h1 W _ hst => mf_ret (M := (4, 1, sb_116)) rfl rfl rfl hst (mi_al_e) (kon h1 W))
set_option maxRecDepth 20000 in
theorem mp_kpen_3 (h : sm_H) (d : Nat) (zk zv : Int) : mj_path [(116, (4, 1, sb_116)), (16, (3, 0, sb_16)), (49, (2, 1, sb_49)), (72, (2, 2, sb_72)), (117, (3, 1, sb_117)), (114, (1, 0, sb_114))] sx_sk h 85 [1, 0, 0, 0, 0, 0, 0, 8, 8, 0] (d + 2, 116, 0, [some (.inr (.inr 106)), some (.inl (zk)), some (.inl (zv)), none], [], [], []) = some ((d + 2, 116, 20, [some (.inr (.inr 106)), some (.inl (zk)), some (.inl (zv)), some (.inl (((mi_f h 13056) + ((1 : Int))) - ((1 : Int))))], [.inl (((mi_f h 13056) + ((1 : Int))) - ((1 : Int)))], [.inl (13571, (1 : Int)), .inl (13572, (1 : Int)), .inl (13056, (mi_f h 13056) + ((1 : Int))), .inr (.inr (.inl (105, Int.toNat (mi_f h 13056), (0 : Int)))), .inr (.inr (.inl (104, Int.toNat (mi_f h 13056), zv))), .inr (.inr (.inl (103, Int.toNat (mi_f h 13056), zk)))], []), [(mi_f h 13056) < ((100 : Int)), ((0 : Int)) ≤ (mi_f h 13056), (mi_f h 13056) < ((100 : Int)), 0 ≤ (mi_f h 13056) ∧ (mi_f h 13056) < 100, ((0 : Int)) ≤ (mi_f h 13056), (mi_f h 13056) < ((100 : Int)), 0 ≤ (mi_f h 13056) ∧ (mi_f h 13056) < 100, ((0 : Int)) ≤ (mi_f h 13056), (mi_f h 13056) < ((100 : Int)), 0 ≤ (mi_f h 13056) ∧ (mi_f h 13056) < 100, -2147483648 ≤ (mi_f h 13056) + ((1 : Int)) ∧ (mi_f h 13056) + ((1 : Int)) ≤ 2147483647, -2147483648 ≤ ((mi_f h 13056) + ((1 : Int))) - ((1 : Int)) ∧ ((mi_f h 13056) + ((1 : Int))) - ((1 : Int)) ≤ 2147483647, (((mi_f h 13056) + ((1 : Int))) - ((1 : Int))) = ((-1 : Int)), 0 ≤ ((1 : Int)) ∧ ((1 : Int)) ≤ 1, 0 ≤ ((1 : Int)) ∧ ((1 : Int)) ≤ 1, 0 ≤ ((1 : Int)) ∧ ((1 : Int)) ≤ 1, 0 ≤ ((1 : Int)) ∧ ((1 : Int)) ≤ 1]) := rfl
theorem mi_tab_kpen_3 : ∀ e ∈ ([(116, (4, 1, sb_116)), (16, (3, 0, sb_16)), (49, (2, 1, sb_49)), (72, (2, 2, sb_72)), (117, (3, 1, sb_117)), (114, (1, 0, sb_114))] : mi_T), sc_P e.1 = some e.2 := mi_tb mi_P116 (mi_tb mi_P16 (mi_tb mi_P49 (mi_tb mi_P72 (mi_tb mi_P117 (mi_tb mi_P114 (mi_tb_e))))))
set_option maxRecDepth 20000 in
theorem ms_kpen_3 {h : sm_H} {d : Nat} {Q : Option mi_V → sm_H → Prop} {zk zv : Int} (hS : ab_Sh sx_sk h) (ok_zk : mi_in zk) (ok_zv : mi_in zv) (ho : ((mi_f h 13056) < ((100 : Int))) ∧ (((0 : Int)) ≤ (mi_f h 13056)) ∧ ((mi_f h 13056) < ((100 : Int))) ∧ (0 ≤ (mi_f h 13056) ∧ (mi_f h 13056) < 100) ∧ (((0 : Int)) ≤ (mi_f h 13056)) ∧ ((mi_f h 13056) < ((100 : Int))) ∧ (0 ≤ (mi_f h 13056) ∧ (mi_f h 13056) < 100) ∧ (((0 : Int)) ≤ (mi_f h 13056)) ∧ ((mi_f h 13056) < ((100 : Int))) ∧ (0 ≤ (mi_f h 13056) ∧ (mi_f h 13056) < 100) ∧ (-2147483648 ≤ (mi_f h 13056) + ((1 : Int)) ∧ (mi_f h 13056) + ((1 : Int)) ≤ 2147483647) ∧ (-2147483648 ≤ ((mi_f h 13056) + ((1 : Int))) - ((1 : Int)) ∧ ((mi_f h 13056) + ((1 : Int))) - ((1 : Int)) ≤ 2147483647) ∧ ((((mi_f h 13056) + ((1 : Int))) - ((1 : Int))) = ((-1 : Int))) ∧ (0 ≤ ((1 : Int)) ∧ ((1 : Int)) ≤ 1) ∧ (0 ≤ ((1 : Int)) ∧ ((1 : Int)) ≤ 1) ∧ (0 ≤ ((1 : Int)) ∧ ((1 : Int)) ≤ 1) ∧ (0 ≤ ((1 : Int)) ∧ ((1 : Int)) ≤ 1)) (kon : ∀ h1, me_W [.inl (13571, (1 : Int)), .inl (13572, (1 : Int)), .inl (13056, (mi_f h 13056) + ((1 : Int))), .inr (.inr (.inl (105, Int.toNat (mi_f h 13056), (0 : Int)))), .inr (.inr (.inl (104, Int.toNat (mi_f h 13056), zv))), .inr (.inr (.inl (103, Int.toNat (mi_f h 13056), zk)))] h h1 → Q (some (.inl (((mi_f h 13056) + ((1 : Int))) - ((1 : Int))))) h1) : me_E (d + 2) 116 0 [some (.inr (.inr 106)), some (.inl (zk)), some (.inl (zv)), none] [] h Q := mf_seg (mp_kpen_3 h d zk zv) (mi_tab_kpen_3) hS (mi_okL_c (trivial) (mi_okL_c (ok_zk) (mi_okL_c (ok_zv) (mi_okL_n (mi_okL_e))))) (mi_okS_e) (mi_al (ho.1) (mi_al (ho.2.1) (mi_al (ho.2.2.1) (mi_al (ho.2.2.2.1) (mi_al (ho.2.2.2.2.1) (mi_al (ho.2.2.2.2.2.1) (mi_al (ho.2.2.2.2.2.2.1) (mi_al (ho.2.2.2.2.2.2.2.1) (mi_al (ho.2.2.2.2.2.2.2.2.1) (mi_al (ho.2.2.2.2.2.2.2.2.2.1) (mi_al (ho.2.2.2.2.2.2.2.2.2.2.1) (mi_al (ho.2.2.2.2.2.2.2.2.2.2.2.1) (mi_al (ho.2.2.2.2.2.2.2.2.2.2.2.2.1) (mi_al (ho.2.2.2.2.2.2.2.2.2.2.2.2.2.1) (mi_al (ho.2.2.2.2.2.2.2.2.2.2.2.2.2.2.1) (mi_al (ho.2.2.2.2.2.2.2.2.2.2.2.2.2.2.2.1) (mi_al (ho.2.2.2.2.2.2.2.2.2.2.2.2.2.2.2.2) (mi_al_e)))))))))))))))))) (fun h1 W _ hst => mf_ret (M := (4, 1, sb_116)) rfl rfl rfl hst (mi_al_e) (kon h1 W))
set_option maxRecDepth 20000 in
theorem mp_kpen_4 (h : sm_H) (d : Nat) (zk zv : Int) : mj_path [(116, (4, 1, sb_116)), (16, (3, 0, sb_16)), (49, (2, 1, sb_49)), (72, (2, 2, sb_72)), (117, (3, 1, sb_117)), (114, (1, 0, sb_114))] sx_sk h 25 [0, 0] (d + 2, 116, 0, [some (.inr (.inr 106)), some (.inl (zk)), some (.inl (zv)), none], [], [], []) = some ((d + 2, 116, 20, [some (.inr (.inr 106)), some (.inl (zk)), some (.inl (zv)), some (.inl ((-1 : Int)))], [.inl ((-1 : Int))], [.inl (13571, (1 : Int)), .inl (13572, (1 : Int))], []), [((100 : Int)) ≤ (mi_f h 13056), ((-1 : Int)) = ((-1 : Int)), 0 ≤ ((1 : Int)) ∧ ((1 : Int)) ≤ 1, 0 ≤ ((1 : Int)) ∧ ((1 : Int)) ≤ 1, 0 ≤ ((1 : Int)) ∧ ((1 : Int)) ≤ 1, 0 ≤ ((1 : Int)) ∧ ((1 : Int)) ≤ 1]) := rfl
theorem mi_tab_kpen_4 : ∀ e ∈ ([(116, (4, 1, sb_116)), (16, (3, 0, sb_16)), (49, (2, 1, sb_49)), (72, (2, 2, sb_72)), (117, (3, 1, sb_117)), (114, (1, 0, sb_114))] : mi_T), sc_P e.1 = some e.2 := mi_tb mi_P116 (mi_tb mi_P16 (mi_tb mi_P49 (mi_tb mi_P72 (mi_tb mi_P117 (mi_tb mi_P114 (mi_tb_e))))))
set_option maxRecDepth 20000 in
theorem ms_kpen_4 {h : sm_H} {d : Nat} {Q : Option mi_V → sm_H → Prop} {zk zv : Int} (hS : ab_Sh sx_sk h) (ok_zk : mi_in zk) (ok_zv : mi_in zv) (ho : (((100 : Int)) ≤ (mi_f h 13056)) ∧ (((-1 : Int)) = ((-1 : Int))) ∧ (0 ≤ ((1 : Int)) ∧ ((1 : Int)) ≤ 1) ∧ (0 ≤ ((1 : Int)) ∧ ((1 : Int)) ≤ 1) ∧ (0 ≤ ((1 : Int)) ∧ ((1 : Int)) ≤ 1) ∧ (0 ≤ ((1 : Int)) ∧ ((1 : Int)) ≤ 1)) (kon : ∀ h1, me_W [.inl (13571, (1 : Int)), .inl (13572, (1 : Int))] h h1 → Q (some (.inl ((-1 : Int)))) h1) : me_E (d + 2) 116 0 [some (.inr (.inr 106)), some (.inl (zk)), some (.inl (zv)), none] [] h Q := mf_seg (mp_kpen_4 h d zk zv) (mi_tab_kpen_4) hS (mi_okL_c (trivial) (mi_okL_c (ok_zk) (mi_okL_c (ok_zv) (mi_okL_n (mi_okL_e))))) (mi_okS_e) (mi_al (ho.1) (mi_al (ho.2.1) (mi_al (ho.2.2.1) (mi_al (ho.2.2.2.1) (mi_al (ho.2.2.2.2.1) (mi_al (ho.2.2.2.2.2) (mi_al_e))))))) (fun h1 W _ hst => mf_ret (M := (4, 1, sb_116)) rfl rfl rfl hst (mi_al_e) (kon h1 W))
set_option maxRecDepth 20000 in
theorem mt_kpen {h : sm_H} {d : Nat} {Q : Option mi_V → sm_H → Prop} {zk zv : Int} (hS : ab_Sh sx_sk h) (ok_zk : mi_in zk) (ok_zv : mi_in zv) (k0 : ((-2147483648) ≤ mi_f h 13056 ∧ mi_f h 13056 ≤ 2147483647) → ((mi_f h 13056) < ((100 : Int))) → ((mi_f h 13056) < ((0 : Int))) → ((((mi_f h 13056) + ((1 : Int))) - ((1 : Int))) ≠ ((-1 : Int))) → ((-2147483648 ≤ (mi_f h 13056) + ((1 : Int)) ∧ (mi_f h 13056) + ((1 : Int)) ≤ 2147483647) ∧ (-2147483648 ≤ ((mi_f h 13056) + ((1 : Int))) - ((1 : Int)) ∧ ((mi_f h 13056) + ((1 : Int))) - ((1 : Int)) ≤ 2147483647)) ∧ (∀ h1, ab_Sh sx_sk h1 → mi_f h1 13056 = (mi_f h 13056) + ((1 : Int)) → ab_Fr [(13056, 13057)] h h1 → Q (some (.inl (((mi_f h 13056) + ((1 : Int))) - ((1 : Int))))) h1)) (k1 : ((-2147483648) ≤ mi_f h 13056 ∧ mi_f h 13056 ≤ 2147483647) → ((mi_f h 13056) < ((100 : Int))) → ((mi_f h 13056) < ((0 : Int))) → ((((mi_f h 13056) + ((1 : Int))) - ((1 : Int))) = ((-1 : Int))) → ((-2147483648 ≤ (mi_f h 13056) + ((1 : Int)) ∧ (mi_f h 13056) + ((1 : Int)) ≤ 2147483647) ∧ (-2147483648 ≤ ((mi_f h 13056) + ((1 : Int))) - ((1 : Int)) ∧ ((mi_f h 13056) + ((1 : Int))) - ((1 : Int)) ≤ 2147483647)) ∧ (∀ h1, ab_Sh sx_sk h1 → mi_f h1 13056 = (mi_f h 13056) + ((1 : Int)) → mi_f h1 13571 = (1 : Int) → mi_f h1 13572 = (1 : Int) → ab_Fr [(13056, 13057), (13571, 13573)] h h1 → Q (some (.inl (((mi_f h 13056) + ((1 : Int))) - ((1 : Int))))) h1)) (k2 : ((-2147483648) ≤ mi_f h 13056 ∧ mi_f h 13056 ≤ 2147483647) → ((mi_f h 13056) < ((100 : Int))) → (((0 : Int)) ≤ (mi_f h 13056)) → ((((mi_f h 13056) + ((1 : Int))) - ((1 : Int))) ≠ ((-1 : Int))) → ((0 ≤ (mi_f h 13056) ∧ (mi_f h 13056) < 100) ∧ (-2147483648 ≤ (mi_f h 13056) + ((1 : Int)) ∧ (mi_f h 13056) + ((1 : Int)) ≤ 2147483647) ∧ (-2147483648 ≤ ((mi_f h 13056) + ((1 : Int))) - ((1 : Int)) ∧ ((mi_f h 13056) + ((1 : Int))) - ((1 : Int)) ≤ 2147483647)) ∧ (∀ h1, ab_Sh sx_sk h1 → mi_f h1 13056 = (mi_f h 13056) + ((1 : Int)) → (∀ i, mi_a h1 103 i = if i = Int.toNat (mi_f h 13056) then zk else (mi_a h 103 i)) → (∀ i, mi_a h1 104 i = if i = Int.toNat (mi_f h 13056) then zv else (mi_a h 104 i)) → (∀ i, mi_a h1 105 i = if i = Int.toNat (mi_f h 13056) then (0 : Int) else (mi_a h 105 i)) → ab_Fr [(13056, 13057), (13184, 13185), (13312, 13313), (13440, 13441)] h h1 → Q (some (.inl (((mi_f h 13056) + ((1 : Int))) - ((1 : Int))))) h1)) (k3 : ((-2147483648) ≤ mi_f h 13056 ∧ mi_f h 13056 ≤ 2147483647) → ((mi_f h 13056) < ((100 : Int))) → (((0 : Int)) ≤ (mi_f h 13056)) → ((((mi_f h 13056) + ((1 : Int))) - ((1 : Int))) = ((-1 : Int))) → ((0 ≤ (mi_f h 13056) ∧ (mi_f h 13056) < 100) ∧ (-2147483648 ≤ (mi_f h 13056) + ((1 : Int)) ∧ (mi_f h 13056) + ((1 : Int)) ≤ 2147483647) ∧ (-2147483648 ≤ ((mi_f h 13056) + ((1 : Int))) - ((1 : Int)) ∧ ((mi_f h 13056) + ((1 : Int))) - ((1 : Int)) ≤ 2147483647)) ∧ (∀ h1, ab_Sh sx_sk h1 → mi_f h1 13056 = (mi_f h 13056) + ((1 : Int)) → mi_f h1 13571 = (1 : Int) → mi_f h1 13572 = (1 : Int) → (∀ i, mi_a h1 103 i = if i = Int.toNat (mi_f h 13056) then zk else (mi_a h 103 i)) → (∀ i, mi_a h1 104 i = if i = Int.toNat (mi_f h 13056) then zv else (mi_a h 104 i)) → (∀ i, mi_a h1 105 i = if i = Int.toNat (mi_f h 13056) then (0 : Int) else (mi_a h 105 i)) → ab_Fr [(13056, 13057), (13184, 13185), (13312, 13313), (13440, 13441), (13571, 13573)] h h1 → Q (some (.inl (((mi_f h 13056) + ((1 : Int))) - ((1 : Int))))) h1)) (k4 : ((-2147483648) ≤ mi_f h 13056 ∧ mi_f h 13056 ≤ 2147483647) → (((100 : Int)) ≤ (mi_f h 13056)) → (∀ h1, ab_Sh sx_sk h1 → mi_f h1 13571 = (1 : Int) → mi_f h1 13572 = (1 : Int) → ab_Fr [(13571, 13573)] h h1 → Q (some (.inl ((-1 : Int)))) h1)) : me_E (d + 2) 116 0 [some (.inr (.inr 106)), some (.inl (zk)), some (.inl (zv)), none] [] h Q := Or.elim (mi_em .lt ((mi_f h 13056)) (((100 : Int)))) (fun c0 => Or.elim (mi_em .lt ((mi_f h 13056)) (((0 : Int)))) (fun c1 => Or.elim (mi_em .ne ((((mi_f h 13056) + ((1 : Int))) - ((1 : Int)))) (((-1 : Int)))) (fun c2 => ms_kpen_0 hS ok_zk ok_zv ⟨c0, c1, c1, c1, (k0 (me_fb hS rfl) c0 c1 c2).1.1, (k0 (me_fb hS rfl) c0 c1 c2).1.2, c2⟩ (fun h1 W => (k0 (me_fb hS rfl) c0 c1 c2).2 h1 W.1 (W.2.1 13056) (W.2.2.2.2.2 _ rfl))) (fun c2 => ms_kpen_1 hS ok_zk ok_zv ⟨c0, c1, c1, c1, (k1 (me_fb hS rfl) c0 c1 c2).1.1, (k1 (me_fb hS rfl) c0 c1 c2).1.2, c2, (by decide), (by decide), (by decide), (by decide)⟩ (fun h1 W => (k1 (me_fb hS rfl) c0 c1 c2).2 h1 W.1 (W.2.1 13056) (W.2.1 13571) (W.2.1 13572) (W.2.2.2.2.2 _ rfl)))) (fun c1 => Or.elim (mi_em .ne ((((mi_f h 13056) + ((1 : Int))) - ((1 : Int)))) (((-1 : Int)))) (fun c2 => ms_kpen_2 hS ok_zk ok_zv ⟨c0, c1, c0, (k2 (me_fb hS rfl) c0 c1 c2).1.1, c1, c0, (k2 (me_fb hS rfl) c0 c1 c2).1.1, c1, c0, (k2 (me_fb hS rfl) c0 c1 c2).1.1, (k2 (me_fb hS rfl) c0 c1 c2).1.2.1, (k2 (me_fb hS rfl) c0 c1 c2).1.2.2, c2⟩ (fun h1 W => (k2 (me_fb hS rfl) c0 c1 c2).2 h1 W.1 (W.2.1 13056) (fun i => W.2.2.1 103 i) (fun i => W.2.2.1 104 i) (fun i => W.2.2.1 105 i) (W.2.2.2.2.2 _ rfl))) (fun c2 => ms_kpen_3 hS ok_zk ok_zv ⟨c0, c1, c0, (k3 (me_fb hS rfl) c0 c1 c2).1.1, c1, c0, (k3 (me_fb hS rfl) c0 c1 c2).1.1, c1, c0, (k3 (me_fb hS rfl) c0 c1 c2).1.1, (k3 (me_fb hS rfl) c0 c1 c2).1.2.1, (k3 (me_fb hS rfl) c0 c1 c2).1.2.2, c2, (by decide), (by decide), (by decide), (by decide)⟩ (fun h1 W => (k3 (me_fb hS rfl) c0 c1 c2).2 h1 W.1 (W.2.1 13056) (W.2.1 13571) (W.2.1 13572) (fun i => W.2.2.1 103 i) (fun i => W.2.2.1 104 i) (fun i => W.2.2.1 105 i) (W.2.2.2.2.2 _ rfl))))) (fun c0 => ms_kpen_4 hS ok_zk ok_zv ⟨c0, (by decide), (by decide), (by decide), (by decide), (by decide)⟩ (fun h1 W => (k4 (me_fb hS rfl) c0) h1 W.1 (W.2.1 13571) (W.2.1 13572) (W.2.2.2.2.2 _ rfl)))
set_option maxRecDepth 20000 in
theorem mp_kple_0 (h : sm_H) (d : Nat) (zk : Int) : mj_path [(147, (2, 0, sb_147)), (16, (3, 0, sb_16)), (49, (2, 1, sb_49)), (72, (2, 2, sb_72)), (148, (2, 0, sb_148))] sx_sk h 18 [8, 8, 1] (d + 2, 147, 0, [some (.inr (.inr 106)), some (.inl (zk))], [], [], []) = some ((d + 2, 147, 8, [some (.inr (.inr 106)), some (.inl (zk))], [], [], []), [-2147483648 ≤ (mi_f h 13056) - ((1 : Int)) ∧ (mi_f h 13056) - ((1 : Int)) ≤ 2147483647, -2147483648 ≤ ((mi_f h 13056) - ((1 : Int))) - zk ∧ ((mi_f h 13056) - ((1 : Int))) - zk ≤ 2147483647, zk < ((0 : Int))]) := rfl
theorem mi_tab_kple_0 : ∀ e ∈ ([(147, (2, 0, sb_147)), (16, (3, 0, sb_16)), (49, (2, 1, sb_49)), (72, (2, 2, sb_72)), (148, (2, 0, sb_148))] : mi_T), sc_P e.1 = some e.2 := mi_tb mi_P147 (mi_tb mi_P16 (mi_tb mi_P49 (mi_tb mi_P72 (mi_tb mi_P148 (mi_tb_e)))))
set_option maxRecDepth 20000 in
theorem ms_kple_0 {h : sm_H} {d : Nat} {Q : Option mi_V → sm_H → Prop} {zk : Int} (hS : ab_Sh sx_sk h) (ok_zk : mi_in zk) (ho : (-2147483648 ≤ (mi_f h 13056) - ((1 : Int)) ∧ (mi_f h 13056) - ((1 : Int)) ≤ 2147483647) ∧ (-2147483648 ≤ ((mi_f h 13056) - ((1 : Int))) - zk ∧ ((mi_f h 13056) - ((1 : Int))) - zk ≤ 2147483647) ∧ (zk < ((0 : Int)))) (kon : ∀ h1, me_W [] h h1 → Q none h1) : me_E (d + 2) 147 0 [some (.inr (.inr 106)), some (.inl (zk))] [] h Q := mf_seg (mp_kple_0 h d zk) (mi_tab_kple_0) hS (mi_okL_c (trivial) (mi_okL_c (ok_zk) (mi_okL_e))) (mi_okS_e) (mi_al (ho.1) (mi_al (ho.2.1) (mi_al (ho.2.2) (mi_al_e)))) (fun h1 W _ hst => mf_ret (M := (2, 0, sb_147)) rfl rfl rfl hst (mi_al_e) (kon h1 W))
set_option maxRecDepth 20000 in
theorem mp_kple_1 (h : sm_H) (d : Nat) (zk : Int) : mj_path [(147, (2, 0, sb_147)), (16, (3, 0, sb_16)), (49, (2, 1, sb_49)), (72, (2, 2, sb_72)), (148, (2, 0, sb_148))] sx_sk h 22 [8, 8, 0, 1] (d + 2, 147, 0, [some (.inr (.inr 106)), some (.inl (zk))], [], [], []) = some ((d + 2, 147, 8, [some (.inr (.inr 106)), some (.inl (zk))], [], [], []), [-2147483648 ≤ (mi_f h 13056) - ((1 : Int)) ∧ (mi_f h 13056) - ((1 : Int)) ≤ 2147483647, -2147483648 ≤ ((mi_f h 13056) - ((1 : Int))) - zk ∧ ((mi_f h 13056) - ((1 : Int))) - zk ≤ 2147483647, ((0 : Int)) ≤ zk, ((100 : Int)) ≤ zk]) := rfl
theorem mi_tab_kple_1 : ∀ e ∈ ([(147, (2, 0, sb_147)), (16, (3, 0, sb_16)), (49, (2, 1, sb_49)), (72, (2, 2, sb_72)), (148, (2, 0, sb_148))] : mi_T), sc_P e.1 = some e.2 := mi_tb mi_P147 (mi_tb mi_P16 (mi_tb mi_P49 (mi_tb mi_P72 (mi_tb mi_P148 (mi_tb_e)))))
set_option maxRecDepth 20000 in
theorem ms_kple_1 {h : sm_H} {d : Nat} {Q : Option mi_V → sm_H → Prop} {zk : Int} (hS : ab_Sh sx_sk h) (ok_zk : mi_in zk) (ho : (-2147483648 ≤ (mi_f h 13056) - ((1 : Int)) ∧ (mi_f h 13056) - ((1 : Int)) ≤ 2147483647) ∧ (-2147483648 ≤ ((mi_f h 13056) - ((1 : Int))) - zk ∧ ((mi_f h 13056) - ((1 : Int))) - zk ≤ 2147483647) ∧ (((0 : Int)) ≤ zk) ∧ (((100 : Int)) ≤ zk)) (kon : ∀ h1, me_W [] h h1 → Q none h1) : me_E (d + 2) 147 0 [some (.inr (.inr 106)), some (.inl (zk))] [] h Q := mf_seg (mp_kple_1 h d zk) (mi_tab_kple_1) hS (mi_okL_c (trivial) (mi_okL_c (ok_zk) (mi_okL_e))) (mi_okS_e) (mi_al (ho.1) (mi_al (ho.2.1) (mi_al (ho.2.2.1) (mi_al (ho.2.2.2) (mi_al_e))))) (fun h1 W _ hst => mf_ret (M := (2, 0, sb_147)) rfl rfl rfl hst (mi_al_e) (kon h1 W))
set_option maxRecDepth 20000 in
theorem mp_kple_2 (h : sm_H) (d : Nat) (zk : Int) : mj_path [(147, (2, 0, sb_147)), (16, (3, 0, sb_16)), (49, (2, 1, sb_49)), (72, (2, 2, sb_72)), (148, (2, 0, sb_148))] sx_sk h 26 [8, 8, 0, 0] (d + 2, 147, 0, [some (.inr (.inr 106)), some (.inl (zk))], [], [], []) = some ((d + 2, 147, 8, [some (.inr (.inr 106)), some (.inl (zk))], [], [.inr (.inr (.inl (105, Int.toNat zk, ((mi_f h 13056) - ((1 : Int))) - zk)))], []), [-2147483648 ≤ (mi_f h 13056) - ((1 : Int)) ∧ (mi_f h 13056) - ((1 : Int)) ≤ 2147483647, -2147483648 ≤ ((mi_f h 13056) - ((1 : Int))) - zk ∧ ((mi_f h 13056) - ((1 : Int))) - zk ≤ 2147483647, ((0 : Int)) ≤ zk, zk < ((100 : Int)), 0 ≤ zk ∧ zk < 100]) := rfl
theorem mi_tab_kple_2 : ∀ e ∈ ([(147, (2, 0, sb_147)), (16, (3, 0, sb_16)), (49, (2, 1, sb_49)), (72, (2, 2, sb_72)), (148, (2, 0, sb_148))] : mi_T), sc_P e.1 = some e.2 := mi_tb mi_P147 (mi_tb mi_P16 (mi_tb mi_P49 (mi_tb mi_P72 (mi_tb mi_P148 (mi_tb_e)))))
set_option maxRecDepth 20000 in
theorem ms_kple_2 {h : sm_H} {d : Nat} {Q : Option mi_V → sm_H → Prop} {zk : Int} (hS : ab_Sh sx_sk h) (ok_zk : mi_in zk) (ho : (-2147483648 ≤ (mi_f h 13056) - ((1 : Int)) ∧ (mi_f h 13056) - ((1 : Int)) ≤ 2147483647) ∧ (-2147483648 ≤ ((mi_f h 13056) - ((1 : Int))) - zk ∧ ((mi_f h 13056) - ((1 : Int))) - zk ≤ 2147483647) ∧ (((0 : Int)) ≤ zk) ∧ (zk < ((100 : Int))) ∧ (0 ≤ zk ∧ zk < 100)) (kon : ∀ h1, me_W [.inr (.inr (.inl (105, Int.toNat zk, ((mi_f h 13056) - ((1 : Int))) - zk)))] h h1 → Q none h1) : me_E (d + 2) 147 0 [some (.inr (.inr 106)), some (.inl (zk))] [] h Q := mf_seg (mp_kple_2 h d zk) (mi_tab_kple_2) hS (mi_okL_c (trivial) (mi_okL_c (ok_zk) (mi_okL_e))) (mi_okS_e) (mi_al (ho.1) (mi_al (ho.2.1) (mi_al (ho.2.2.1) (mi_al (ho.2.2.2.1) (mi_al (ho.2.2.2.2) (mi_al_e)))))) (fun h1 W _ hst => mf_ret (M := (2, 0, sb_147)) rfl rfl rfl hst (mi_al_e) (kon h1 W))
set_option maxRecDepth 20000 in
theorem mt_kple {h : sm_H} {d : Nat} {Q : Option mi_V → sm_H → Prop} {zk : Int} (hS : ab_Sh sx_sk h) (ok_zk : mi_in zk) (k0 : ((-2147483648) ≤ mi_f h 13056 ∧ mi_f h 13056 ≤ 2147483647) → (zk < ((0 : Int))) → ((-2147483648 ≤ (mi_f h 13056) - ((1 : Int)) ∧ (mi_f h 13056) - ((1 : Int)) ≤ 2147483647) ∧ (-2147483648 ≤ ((mi_f h 13056) - ((1 : Int))) - zk ∧ ((mi_f h 13056) - ((1 : Int))) - zk ≤ 2147483647)) ∧ (∀ h1, ab_Sh sx_sk h1 → ab_Fr [] h h1 → Q none h1)) (k1 : ((-2147483648) ≤ mi_f h 13056 ∧ mi_f h 13056 ≤ 2147483647) → (((0 : Int)) ≤ zk) → (((100 : Int)) ≤ zk) → ((-2147483648 ≤ (mi_f h 13056) - ((1 : Int)) ∧ (mi_f h 13056) - ((1 : Int)) ≤ 2147483647) ∧ (-2147483648 ≤ ((mi_f h 13056) - ((1 : Int))) - zk ∧ ((mi_f h 13056) - ((1 : Int))) - zk ≤ 2147483647)) ∧ (∀ h1, ab_Sh sx_sk h1 → ab_Fr [] h h1 → Q none h1)) (k2 : ((-2147483648) ≤ mi_f h 13056 ∧ mi_f h 13056 ≤ 2147483647) → (((0 : Int)) ≤ zk) → (zk < ((100 : Int))) → ((-2147483648 ≤ (mi_f h 13056) - ((1 : Int)) ∧ (mi_f h 13056) - ((1 : Int)) ≤ 2147483647) ∧ (-2147483648 ≤ ((mi_f h 13056) - ((1 : Int))) - zk ∧ ((mi_f h 13056) - ((1 : Int))) - zk ≤ 2147483647) ∧ (0 ≤ zk ∧ zk < 100)) ∧ (∀ h1, ab_Sh sx_sk h1 → (∀ i, mi_a h1 105 i = if i = Int.toNat zk then ((mi_f h 13056) - ((1 : Int))) - zk else (mi_a h 105 i)) → ab_Fr [(13440, 13441)] h h1 → Q none h1)) : me_E (d + 2) 147 0 [some (.inr (.inr 106)), some (.inl (zk))] [] h Q := Or.elim (mi_em .lt (zk) (((0 : Int)))) (fun c0 => ms_kple_0 hS ok_zk ⟨(k0 (me_fb hS rfl) c0).1.1, (k0 (me_fb hS rfl) c0).1.2, c0⟩ (fun h1 W => (k0 (me_fb hS rfl) c0).2 h1 W.1 (W.2.2.2.2.2 _ rfl))) (fun c0 => Or.elim (mi_em .ge (zk) (((100 : Int)))) (fun c1 => ms_kple_1 hS ok_zk ⟨(k1 (me_fb hS rfl) c0 c1).1.1, (k1 (me_fb hS rfl) c0 c1).1.2, c0, c1⟩ (fun h1 W => (k1 (me_fb hS rfl) c0 c1).2 h1 W.1 (W.2.2.2.2.2 _ rfl))) (fun c1 => ms_kple_2 hS ok_zk ⟨(k2 (me_fb hS rfl) c0 c1).1.1, (k2 (me_fb hS rfl) c0 c1).1.2.1, c0, c1, (k2 (me_fb hS rfl) c0 c1).1.2.2⟩ (fun h1 W => (k2 (me_fb hS rfl) c0 c1).2 h1 W.1 (fun i => W.2.2.1 105 i) (W.2.2.2.2.2 _ rfl))))
set_option maxRecDepth 20000 in
theorem mp_kpns_0 (h : sm_H) (d : Nat) (zs : Int64) : mj_path [(125, (3, 4, sb_125))] sx_sk h 4 [1] (d, 125, 0, [some (.inr (.inr 106)), some (.inr (.inl (zs))), none], [], [], []) = some ((d, 125, 25, [some (.inr (.inr 106)), some (.inr (.inl (zs))), none], [.inl ((0 : Int))], [], []), [(mi_f h 13577) < ((0 : Int))]) := rfl
theorem mi_tab_kpns_0 : ∀ e ∈ ([(125, (3, 4, sb_125))] : mi_T), sc_P e.1 = some e.2 := mi_tb mi_P125 (mi_tb_e)
set_option maxRecDepth 20000 in
theorem ms_kpns_0 {h : sm_H} {d : Nat} {Q : Option mi_V → sm_H → Prop} {zs : Int64} (hS : ab_Sh sx_sk h)  (ho : ((mi_f h 13577) < ((0 : Int))) ∧ (((0 : Int)) = 0 ∨ ((0 : Int)) = 1)) (kon : ∀ h1, me_W [] h h1 → Q (some (.inl ((0 : Int)))) h1) : me_E (d) 125 0 [some (.inr (.inr 106)), some (.inr (.inl (zs))), none] [] h Q := mf_seg (mp_kpns_0 h d zs) (mi_tab_kpns_0) hS (mi_okL_c (trivial) (mi_okL_c (trivial) (mi_okL_n (mi_okL_e)))) (mi_okS_e) (mi_al (ho.1) (mi_al_e)) (fun h1 W _ hst => mf_ret (M := (3, 4, sb_125)) rfl rfl rfl hst (mi_al (ho.2) mi_al_e) (kon h1 W))
set_option maxRecDepth 20000 in
theorem mp_kpns_1 (h : sm_H) (d : Nat) (zs : Int64) : mj_path [(125, (3, 4, sb_125))] sx_sk h 13 [0, 1] (d, 125, 0, [some (.inr (.inr 106)), some (.inr (.inl (zs))), none], [], [], []) = some ((d, 125, 25, [some (.inr (.inr 106)), some (.inr (.inl (zs))), none], [.inl ((0 : Int))], [], []), [((0 : Int)) ≤ (mi_f h 13577), ((lg_cmp ((((zs).toUInt64 >>> ((Int32.ofInt (mi_f h 13577)).toInt64.toUInt64 &&& Int64.toUInt64 63)).toInt64) &&& (Int64.ofNat 1)) (Int64.ofNat 0)).toInt) = ((0 : Int))]) := rfl
theorem mi_tab_kpns_1 : ∀ e ∈ ([(125, (3, 4, sb_125))] : mi_T), sc_P e.1 = some e.2 := mi_tb mi_P125 (mi_tb_e)
set_option maxRecDepth 20000 in
theorem ms_kpns_1 {h : sm_H} {d : Nat} {Q : Option mi_V → sm_H → Prop} {zs : Int64} (hS : ab_Sh sx_sk h)  (ho : (((0 : Int)) ≤ (mi_f h 13577)) ∧ (((lg_cmp ((((zs).toUInt64 >>> ((Int32.ofInt (mi_f h 13577)).toInt64.toUInt64 &&& Int64.toUInt64 63)).toInt64) &&& (Int64.ofNat 1)) (Int64.ofNat 0)).toInt) = ((0 : Int))) ∧ (((0 : Int)) = 0 ∨ ((0 : Int)) = 1)) (kon : ∀ h1, me_W [] h h1 → Q (some (.inl ((0 : Int)))) h1) : me_E (d) 125 0 [some (.inr (.inr 106)), some (.inr (.inl (zs))), none] [] h Q := mf_seg (mp_kpns_1 h d zs) (mi_tab_kpns_1) hS (mi_okL_c (trivial) (mi_okL_c (trivial) (mi_okL_n (mi_okL_e)))) (mi_okS_e) (mi_al (ho.1) (mi_al (ho.2.1) (mi_al_e))) (fun h1 W _ hst => mf_ret (M := (3, 4, sb_125)) rfl rfl rfl hst (mi_al (ho.2.2) mi_al_e) (kon h1 W))
set_option maxRecDepth 20000 in
theorem mp_kpns_2 (h : sm_H) (d : Nat) (zs : Int64) : mj_path [(125, (3, 4, sb_125))] sx_sk h 14 [0, 0] (d, 125, 0, [some (.inr (.inr 106)), some (.inr (.inl (zs))), none], [], [], []) = some ((d, 125, 25, [some (.inr (.inr 106)), some (.inr (.inl (zs))), none], [.inl ((1 : Int))], [], []), [((0 : Int)) ≤ (mi_f h 13577), ((lg_cmp ((((zs).toUInt64 >>> ((Int32.ofInt (mi_f h 13577)).toInt64.toUInt64 &&& Int64.toUInt64 63)).toInt64) &&& (Int64.ofNat 1)) (Int64.ofNat 0)).toInt) ≠ ((0 : Int))]) := rfl
theorem mi_tab_kpns_2 : ∀ e ∈ ([(125, (3, 4, sb_125))] : mi_T), sc_P e.1 = some e.2 := mi_tb mi_P125 (mi_tb_e)
set_option maxRecDepth 20000 in
theorem ms_kpns_2 {h : sm_H} {d : Nat} {Q : Option mi_V → sm_H → Prop} {zs : Int64} (hS : ab_Sh sx_sk h)  (ho : (((0 : Int)) ≤ (mi_f h 13577)) ∧ (((lg_cmp ((((zs).toUInt64 >>> ((Int32.ofInt (mi_f h 13577)).toInt64.toUInt64 &&& Int64.toUInt64 63)).toInt64) &&& (Int64.ofNat 1)) (Int64.ofNat 0)).toInt) ≠ ((0 : Int))) ∧ (((1 : Int)) = 0 ∨ ((1 : Int)) = 1)) (kon : ∀ h1, me_W [] h h1 → Q (some (.inl ((1 : Int)))) h1) : me_E (d) 125 0 [some (.inr (.inr 106)), some (.inr (.inl (zs))), none] [] h Q := mf_seg (mp_kpns_2 h d zs) (mi_tab_kpns_2) hS (mi_okL_c (trivial) (mi_okL_c (trivial) (mi_okL_n (mi_okL_e)))) (mi_okS_e) (mi_al (ho.1) (mi_al (ho.2.1) (mi_al_e))) (fun h1 W _ hst => mf_ret (M := (3, 4, sb_125)) rfl rfl rfl hst (mi_al (ho.2.2) mi_al_e) (kon h1 W))
set_option maxRecDepth 20000 in
theorem mt_kpns {h : sm_H} {d : Nat} {Q : Option mi_V → sm_H → Prop} {zs : Int64} (hS : ab_Sh sx_sk h)  (k0 : ((-2147483648) ≤ mi_f h 13577 ∧ mi_f h 13577 ≤ 2147483647) → ((mi_f h 13577) < ((0 : Int))) → (∀ h1, ab_Sh sx_sk h1 → ab_Fr [] h h1 → Q (some (.inl ((0 : Int)))) h1)) (k1 : ((-2147483648) ≤ mi_f h 13577 ∧ mi_f h 13577 ≤ 2147483647) → (((0 : Int)) ≤ (mi_f h 13577)) → (((lg_cmp ((((zs).toUInt64 >>> ((Int32.ofInt (mi_f h 13577)).toInt64.toUInt64 &&& Int64.toUInt64 63)).toInt64) &&& (Int64.ofNat 1)) (Int64.ofNat 0)).toInt) = ((0 : Int))) → (∀ h1, ab_Sh sx_sk h1 → ab_Fr [] h h1 → Q (some (.inl ((0 : Int)))) h1)) (k2 : ((-2147483648) ≤ mi_f h 13577 ∧ mi_f h 13577 ≤ 2147483647) → (((0 : Int)) ≤ (mi_f h 13577)) → (((lg_cmp ((((zs).toUInt64 >>> ((Int32.ofInt (mi_f h 13577)).toInt64.toUInt64 &&& Int64.toUInt64 63)).toInt64) &&& (Int64.ofNat 1)) (Int64.ofNat 0)).toInt) ≠ ((0 : Int))) → (∀ h1, ab_Sh sx_sk h1 → ab_Fr [] h h1 → Q (some (.inl ((1 : Int)))) h1)) : me_E (d) 125 0 [some (.inr (.inr 106)), some (.inr (.inl (zs))), none] [] h Q := Or.elim (mi_em .lt ((mi_f h 13577)) (((0 : Int)))) (fun c0 => ms_kpns_0 hS ⟨c0, (by decide)⟩ (fun h1 W => (k0 (me_fb hS rfl) c0) h1 W.1 (W.2.2.2.2.2 _ rfl))) (fun c0 => Or.elim (mi_em .eq (((lg_cmp ((((zs).toUInt64 >>> ((Int32.ofInt (mi_f h 13577)).toInt64.toUInt64 &&& Int64.toUInt64 63)).toInt64) &&& (Int64.ofNat 1)) (Int64.ofNat 0)).toInt)) (((0 : Int)))) (fun c1 => ms_kpns_1 hS ⟨c0, c1, (by decide)⟩ (fun h1 W => (k1 (me_fb hS rfl) c0 c1) h1 W.1 (W.2.2.2.2.2 _ rfl))) (fun c1 => ms_kpns_2 hS ⟨c0, c1, (by decide)⟩ (fun h1 W => (k2 (me_fb hS rfl) c0 c1) h1 W.1 (W.2.2.2.2.2 _ rfl))))
set_option maxRecDepth 20000 in
theorem mp_kpcA_0 (h : sm_H) (d : Nat) (zf : Int) : mj_path [(124, (4, 1, sb_124)), (16, (3, 0, sb_16)), (49, (2, 1, sb_49)), (72, (2, 2, sb_72))] sx_sk h 12 [1] (d + 2, 124, 0, [some (.inr (.inr 106)), some (.inl (zf)), none, none], [], [], []) = some ((d + 2, 124, 14, [some (.inr (.inr 106)), some (.inl (zf)), some (.inl ((0 : Int))), some (.inl ((0 : Int)))], [], [], []), [zf < ((0 : Int))]) := rfl
theorem mi_tab_kpcA_0 : ∀ e ∈ ([(124, (4, 1, sb_124)), (16, (3, 0, sb_16)), (49, (2, 1, sb_49)), (72, (2, 2, sb_72))] : mi_T), sc_P e.1 = some e.2 := mi_tb mi_P124 (mi_tb mi_P16 (mi_tb mi_P49 (mi_tb mi_P72 (mi_tb_e))))
set_option maxRecDepth 20000 in
theorem ms_kpcA_0 {h : sm_H} {d : Nat} {Q : Option mi_V → sm_H → Prop} {zf : Int} (hS : ab_Sh sx_sk h) (ok_zf : mi_in zf) (ho : (zf < ((0 : Int)))) (kon : ∀ h1, me_W [] h h1 → me_E (d + 2) 124 14 [some (.inr (.inr 106)), some (.inl (zf)), some (.inl ((0 : Int))), some (.inl ((0 : Int)))] [] h1 Q) : me_E (d + 2) 124 0 [some (.inr (.inr 106)), some (.inl (zf)), none, none] [] h Q := mf_seg (mp_kpcA_0 h d zf) (mi_tab_kpcA_0) hS (mi_okL_c (trivial) (mi_okL_c (ok_zf) (mi_okL_n (mi_okL_n (mi_okL_e))))) (mi_okS_e) (mi_al (ho) (mi_al_e)) (fun h1 W _ hst => kon h1 W)
set_option maxRecDepth 20000 in
theorem mp_kpcA_1 (h : sm_H) (d : Nat) (zf : Int) : mj_path [(124, (4, 1, sb_124)), (16, (3, 0, sb_16)), (49, (2, 1, sb_49)), (72, (2, 2, sb_72))] sx_sk h 16 [0, 1] (d + 2, 124, 0, [some (.inr (.inr 106)), some (.inl (zf)), none, none], [], [], []) = some ((d + 2, 124, 14, [some (.inr (.inr 106)), some (.inl (zf)), some (.inl ((0 : Int))), some (.inl ((0 : Int)))], [], [], []), [((0 : Int)) ≤ zf, ((70 : Int)) ≤ zf]) := rfl
theorem mi_tab_kpcA_1 : ∀ e ∈ ([(124, (4, 1, sb_124)), (16, (3, 0, sb_16)), (49, (2, 1, sb_49)), (72, (2, 2, sb_72))] : mi_T), sc_P e.1 = some e.2 := mi_tb mi_P124 (mi_tb mi_P16 (mi_tb mi_P49 (mi_tb mi_P72 (mi_tb_e))))
set_option maxRecDepth 20000 in
theorem ms_kpcA_1 {h : sm_H} {d : Nat} {Q : Option mi_V → sm_H → Prop} {zf : Int} (hS : ab_Sh sx_sk h) (ok_zf : mi_in zf) (ho : (((0 : Int)) ≤ zf) ∧ (((70 : Int)) ≤ zf)) (kon : ∀ h1, me_W [] h h1 → me_E (d + 2) 124 14 [some (.inr (.inr 106)), some (.inl (zf)), some (.inl ((0 : Int))), some (.inl ((0 : Int)))] [] h1 Q) : me_E (d + 2) 124 0 [some (.inr (.inr 106)), some (.inl (zf)), none, none] [] h Q := mf_seg (mp_kpcA_1 h d zf) (mi_tab_kpcA_1) hS (mi_okL_c (trivial) (mi_okL_c (ok_zf) (mi_okL_n (mi_okL_n (mi_okL_e))))) (mi_okS_e) (mi_al (ho.1) (mi_al (ho.2) (mi_al_e))) (fun h1 W _ hst => kon h1 W)
set_option maxRecDepth 20000 in
theorem mp_kpcA_2 (h : sm_H) (d : Nat) (zf : Int) : mj_path [(124, (4, 1, sb_124)), (16, (3, 0, sb_16)), (49, (2, 1, sb_49)), (72, (2, 2, sb_72))] sx_sk h 19 [0, 0] (d + 2, 124, 0, [some (.inr (.inr 106)), some (.inl (zf)), none, none], [], [], []) = some ((d + 2, 124, 14, [some (.inr (.inr 106)), some (.inl (zf)), some (.inl (mi_a h 63 (Int.toNat zf))), some (.inl ((0 : Int)))], [], [], []), [((0 : Int)) ≤ zf, zf < ((70 : Int)), 0 ≤ zf ∧ zf < 70]) := rfl
theorem mi_tab_kpcA_2 : ∀ e ∈ ([(124, (4, 1, sb_124)), (16, (3, 0, sb_16)), (49, (2, 1, sb_49)), (72, (2, 2, sb_72))] : mi_T), sc_P e.1 = some e.2 := mi_tb mi_P124 (mi_tb mi_P16 (mi_tb mi_P49 (mi_tb mi_P72 (mi_tb_e))))
set_option maxRecDepth 20000 in
theorem ms_kpcA_2 {h : sm_H} {d : Nat} {Q : Option mi_V → sm_H → Prop} {zf : Int} (hS : ab_Sh sx_sk h) (ok_zf : mi_in zf) (ho : (((0 : Int)) ≤ zf) ∧ (zf < ((70 : Int))) ∧ (0 ≤ zf ∧ zf < 70)) (kon : ∀ h1, me_W [] h h1 → me_E (d + 2) 124 14 [some (.inr (.inr 106)), some (.inl (zf)), some (.inl (mi_a h 63 (Int.toNat zf))), some (.inl ((0 : Int)))] [] h1 Q) : me_E (d + 2) 124 0 [some (.inr (.inr 106)), some (.inl (zf)), none, none] [] h Q := mf_seg (mp_kpcA_2 h d zf) (mi_tab_kpcA_2) hS (mi_okL_c (trivial) (mi_okL_c (ok_zf) (mi_okL_n (mi_okL_n (mi_okL_e))))) (mi_okS_e) (mi_al (ho.1) (mi_al (ho.2.1) (mi_al (ho.2.2) (mi_al_e)))) (fun h1 W _ hst => kon h1 W)
set_option maxRecDepth 20000 in
theorem mt_kpcA {h : sm_H} {d : Nat} {Q : Option mi_V → sm_H → Prop} {zf : Int} (hS : ab_Sh sx_sk h) (ok_zf : mi_in zf) (k0 : (zf < ((0 : Int))) → (∀ h1, ab_Sh sx_sk h1 → ab_Fr [] h h1 → me_E (d + 2) 124 14 [some (.inr (.inr 106)), some (.inl (zf)), some (.inl ((0 : Int))), some (.inl ((0 : Int)))] [] h1 Q)) (k1 : (((0 : Int)) ≤ zf) → (((70 : Int)) ≤ zf) → (∀ h1, ab_Sh sx_sk h1 → ab_Fr [] h h1 → me_E (d + 2) 124 14 [some (.inr (.inr 106)), some (.inl (zf)), some (.inl ((0 : Int))), some (.inl ((0 : Int)))] [] h1 Q)) (k2 : (((0 : Int)) ≤ zf) → (zf < ((70 : Int))) → ((0 ≤ zf ∧ zf < 70)) ∧ (∀ h1, ab_Sh sx_sk h1 → ab_Fr [] h h1 → me_E (d + 2) 124 14 [some (.inr (.inr 106)), some (.inl (zf)), some (.inl (mi_a h 63 (Int.toNat zf))), some (.inl ((0 : Int)))] [] h1 Q)) : me_E (d + 2) 124 0 [some (.inr (.inr 106)), some (.inl (zf)), none, none] [] h Q := Or.elim (mi_em .lt (zf) (((0 : Int)))) (fun c0 => ms_kpcA_0 hS ok_zf (c0) (fun h1 W => (k0 c0) h1 W.1 (W.2.2.2.2.2 _ rfl))) (fun c0 => Or.elim (mi_em .ge (zf) (((70 : Int)))) (fun c1 => ms_kpcA_1 hS ok_zf ⟨c0, c1⟩ (fun h1 W => (k1 c0 c1) h1 W.1 (W.2.2.2.2.2 _ rfl))) (fun c1 => ms_kpcA_2 hS ok_zf ⟨c0, c1, (k2 c0 c1).1⟩ (fun h1 W => (k2 c0 c1).2 h1 W.1 (W.2.2.2.2.2 _ rfl))))
set_option maxRecDepth 20000 in
theorem mp_kpcB_0 (h : sm_H) (d : Nat) (zf za zn : Int) : mj_path [(124, (4, 1, sb_124)), (16, (3, 0, sb_16)), (49, (2, 1, sb_49))] sx_sk h 11 [1, 1] (d + 2, 124, 14, [some (.inr (.inr 106)), some (.inl (zf)), some (.inl (za)), some (.inl (zn))], [], [], []) = some ((d + 2, 124, 73, [some (.inr (.inr 106)), some (.inl (zf)), some (.inl (za)), some (.inl (zn))], [], [], []), [zf < ((0 : Int)), ((0 : Int)) ≤ zn]) := rfl
theorem mi_tab_kpcB_0 : ∀ e ∈ ([(124, (4, 1, sb_124)), (16, (3, 0, sb_16)), (49, (2, 1, sb_49))] : mi_T), sc_P e.1 = some e.2 := mi_tb mi_P124 (mi_tb mi_P16 (mi_tb mi_P49 (mi_tb_e)))
set_option maxRecDepth 20000 in
theorem ms_kpcB_0 {h : sm_H} {d : Nat} {Q : Option mi_V → sm_H → Prop} {zf za zn : Int} (hS : ab_Sh sx_sk h) (ok_zf : mi_in zf) (ok_za : mi_in za) (ok_zn : mi_in zn) (ho : (zf < ((0 : Int))) ∧ (((0 : Int)) ≤ zn)) (kon : ∀ h1, me_W [] h h1 → me_E (d + 2) 124 73 [some (.inr (.inr 106)), some (.inl (zf)), some (.inl (za)), some (.inl (zn))] [] h1 Q) : me_E (d + 2) 124 14 [some (.inr (.inr 106)), some (.inl (zf)), some (.inl (za)), some (.inl (zn))] [] h Q := mf_seg (mp_kpcB_0 h d zf za zn) (mi_tab_kpcB_0) hS (mi_okL_c (trivial) (mi_okL_c (ok_zf) (mi_okL_c (ok_za) (mi_okL_c (ok_zn) (mi_okL_e))))) (mi_okS_e) (mi_al (ho.1) (mi_al (ho.2) (mi_al_e))) (fun h1 W _ hst => kon h1 W)
set_option maxRecDepth 20000 in
theorem mp_kpcB_1 (h : sm_H) (d : Nat) (zf za zn : Int) : mj_path [(124, (4, 1, sb_124)), (16, (3, 0, sb_16)), (49, (2, 1, sb_49))] sx_sk h 14 [1, 0, 1] (d + 2, 124, 14, [some (.inr (.inr 106)), some (.inl (zf)), some (.inl (za)), some (.inl (zn))], [], [], []) = some ((d + 2, 124, 73, [some (.inr (.inr 106)), some (.inl (zf)), some (.inl (za)), some (.inl (zn))], [], [], []), [zf < ((0 : Int)), zn < ((0 : Int)), ((6 : Int)) ≤ zn]) := rfl
theorem mi_tab_kpcB_1 : ∀ e ∈ ([(124, (4, 1, sb_124)), (16, (3, 0, sb_16)), (49, (2, 1, sb_49))] : mi_T), sc_P e.1 = some e.2 := mi_tb mi_P124 (mi_tb mi_P16 (mi_tb mi_P49 (mi_tb_e)))
set_option maxRecDepth 20000 in
theorem ms_kpcB_1 {h : sm_H} {d : Nat} {Q : Option mi_V → sm_H → Prop} {zf za zn : Int} (hS : ab_Sh sx_sk h) (ok_zf : mi_in zf) (ok_za : mi_in za) (ok_zn : mi_in zn) (ho : (zf < ((0 : Int))) ∧ (zn < ((0 : Int))) ∧ (((6 : Int)) ≤ zn)) (kon : ∀ h1, me_W [] h h1 → me_E (d + 2) 124 73 [some (.inr (.inr 106)), some (.inl (zf)), some (.inl (za)), some (.inl (zn))] [] h1 Q) : me_E (d + 2) 124 14 [some (.inr (.inr 106)), some (.inl (zf)), some (.inl (za)), some (.inl (zn))] [] h Q := mf_seg (mp_kpcB_1 h d zf za zn) (mi_tab_kpcB_1) hS (mi_okL_c (trivial) (mi_okL_c (ok_zf) (mi_okL_c (ok_za) (mi_okL_c (ok_zn) (mi_okL_e))))) (mi_okS_e) (mi_al (ho.1) (mi_al (ho.2.1) (mi_al (ho.2.2) (mi_al_e)))) (fun h1 W _ hst => kon h1 W)
set_option maxRecDepth 20000 in
theorem mp_kpcB_2 (h : sm_H) (d : Nat) (zf za zn : Int) : mj_path [(124, (4, 1, sb_124)), (16, (3, 0, sb_16)), (49, (2, 1, sb_49))] sx_sk h 14 [1, 0, 0] (d + 2, 124, 14, [some (.inr (.inr 106)), some (.inl (zf)), some (.inl (za)), some (.inl (zn))], [], [], []) = some ((d + 2, 124, 35, [some (.inr (.inr 106)), some (.inl (zf)), some (.inl (za)), some (.inl (zn))], [], [], []), [zf < ((0 : Int)), zn < ((0 : Int)), zn < ((6 : Int))]) := rfl
theorem mi_tab_kpcB_2 : ∀ e ∈ ([(124, (4, 1, sb_124)), (16, (3, 0, sb_16)), (49, (2, 1, sb_49))] : mi_T), sc_P e.1 = some e.2 := mi_tb mi_P124 (mi_tb mi_P16 (mi_tb mi_P49 (mi_tb_e)))
set_option maxRecDepth 20000 in
theorem ms_kpcB_2 {h : sm_H} {d : Nat} {Q : Option mi_V → sm_H → Prop} {zf za zn : Int} (hS : ab_Sh sx_sk h) (ok_zf : mi_in zf) (ok_za : mi_in za) (ok_zn : mi_in zn) (ho : (zf < ((0 : Int))) ∧ (zn < ((0 : Int))) ∧ (zn < ((6 : Int)))) (kon : ∀ h1, me_W [] h h1 → me_E (d + 2) 124 35 [some (.inr (.inr 106)), some (.inl (zf)), some (.inl (za)), some (.inl (zn))] [] h1 Q) : me_E (d + 2) 124 14 [some (.inr (.inr 106)), some (.inl (zf)), some (.inl (za)), some (.inl (zn))] [] h Q := mf_seg (mp_kpcB_2 h d zf za zn) (mi_tab_kpcB_2) hS (mi_okL_c (trivial) (mi_okL_c (ok_zf) (mi_okL_c (ok_za) (mi_okL_c (ok_zn) (mi_okL_e))))) (mi_okS_e) (mi_al (ho.1) (mi_al (ho.2.1) (mi_al (ho.2.2) (mi_al_e)))) (fun h1 W _ hst => kon h1 W)
set_option maxRecDepth 20000 in
theorem mp_kpcB_3 (h : sm_H) (d : Nat) (zf za zn : Int) : mj_path [(124, (4, 1, sb_124)), (16, (3, 0, sb_16)), (49, (2, 1, sb_49))] sx_sk h 15 [0, 1, 1] (d + 2, 124, 14, [some (.inr (.inr 106)), some (.inl (zf)), some (.inl (za)), some (.inl (zn))], [], [], []) = some ((d + 2, 124, 73, [some (.inr (.inr 106)), some (.inl (zf)), some (.inl (za)), some (.inl (zn))], [], [], []), [((0 : Int)) ≤ zf, ((70 : Int)) ≤ zf, ((0 : Int)) ≤ zn]) := rfl
theorem mi_tab_kpcB_3 : ∀ e ∈ ([(124, (4, 1, sb_124)), (16, (3, 0, sb_16)), (49, (2, 1, sb_49))] : mi_T), sc_P e.1 = some e.2 := mi_tb mi_P124 (mi_tb mi_P16 (mi_tb mi_P49 (mi_tb_e)))
set_option maxRecDepth 20000 in
theorem ms_kpcB_3 {h : sm_H} {d : Nat} {Q : Option mi_V → sm_H → Prop} {zf za zn : Int} (hS : ab_Sh sx_sk h) (ok_zf : mi_in zf) (ok_za : mi_in za) (ok_zn : mi_in zn) (ho : (((0 : Int)) ≤ zf) ∧ (((70 : Int)) ≤ zf) ∧ (((0 : Int)) ≤ zn)) (kon : ∀ h1, me_W [] h h1 → me_E (d + 2) 124 73 [some (.inr (.inr 106)), some (.inl (zf)), some (.inl (za)), some (.inl (zn))] [] h1 Q) : me_E (d + 2) 124 14 [some (.inr (.inr 106)), some (.inl (zf)), some (.inl (za)), some (.inl (zn))] [] h Q := mf_seg (mp_kpcB_3 h d zf za zn) (mi_tab_kpcB_3) hS (mi_okL_c (trivial) (mi_okL_c (ok_zf) (mi_okL_c (ok_za) (mi_okL_c (ok_zn) (mi_okL_e))))) (mi_okS_e) (mi_al (ho.1) (mi_al (ho.2.1) (mi_al (ho.2.2) (mi_al_e)))) (fun h1 W _ hst => kon h1 W)
set_option maxRecDepth 20000 in
theorem mp_kpcB_4 (h : sm_H) (d : Nat) (zf za zn : Int) : mj_path [(124, (4, 1, sb_124)), (16, (3, 0, sb_16)), (49, (2, 1, sb_49))] sx_sk h 18 [0, 1, 0, 1] (d + 2, 124, 14, [some (.inr (.inr 106)), some (.inl (zf)), some (.inl (za)), some (.inl (zn))], [], [], []) = some ((d + 2, 124, 73, [some (.inr (.inr 106)), some (.inl (zf)), some (.inl (za)), some (.inl (zn))], [], [], []), [((0 : Int)) ≤ zf, ((70 : Int)) ≤ zf, zn < ((0 : Int)), ((6 : Int)) ≤ zn]) := rfl
theorem mi_tab_kpcB_4 : ∀ e ∈ ([(124, (4, 1, sb_124)), (16, (3, 0, sb_16)), (49, (2, 1, sb_49))] : mi_T), sc_P e.1 = some e.2 := mi_tb mi_P124 (mi_tb mi_P16 (mi_tb mi_P49 (mi_tb_e)))
set_option maxRecDepth 20000 in
theorem ms_kpcB_4 {h : sm_H} {d : Nat} {Q : Option mi_V → sm_H → Prop} {zf za zn : Int} (hS : ab_Sh sx_sk h) (ok_zf : mi_in zf) (ok_za : mi_in za) (ok_zn : mi_in zn) (ho : (((0 : Int)) ≤ zf) ∧ (((70 : Int)) ≤ zf) ∧ (zn < ((0 : Int))) ∧ (((6 : Int)) ≤ zn)) (kon : ∀ h1, me_W [] h h1 → me_E (d + 2) 124 73 [some (.inr (.inr 106)), some (.inl (zf)), some (.inl (za)), some (.inl (zn))] [] h1 Q) : me_E (d + 2) 124 14 [some (.inr (.inr 106)), some (.inl (zf)), some (.inl (za)), some (.inl (zn))] [] h Q := mf_seg (mp_kpcB_4 h d zf za zn) (mi_tab_kpcB_4) hS (mi_okL_c (trivial) (mi_okL_c (ok_zf) (mi_okL_c (ok_za) (mi_okL_c (ok_zn) (mi_okL_e))))) (mi_okS_e) (mi_al (ho.1) (mi_al (ho.2.1) (mi_al (ho.2.2.1) (mi_al (ho.2.2.2) (mi_al_e))))) (fun h1 W _ hst => kon h1 W)
set_option maxRecDepth 20000 in
theorem mp_kpcB_5 (h : sm_H) (d : Nat) (zf za zn : Int) : mj_path [(124, (4, 1, sb_124)), (16, (3, 0, sb_16)), (49, (2, 1, sb_49))] sx_sk h 18 [0, 1, 0, 0] (d + 2, 124, 14, [some (.inr (.inr 106)), some (.inl (zf)), some (.inl (za)), some (.inl (zn))], [], [], []) = some ((d + 2, 124, 35, [some (.inr (.inr 106)), some (.inl (zf)), some (.inl (za)), some (.inl (zn))], [], [], []), [((0 : Int)) ≤ zf, ((70 : Int)) ≤ zf, zn < ((0 : Int)), zn < ((6 : Int))]) := rfl
theorem mi_tab_kpcB_5 : ∀ e ∈ ([(124, (4, 1, sb_124)), (16, (3, 0, sb_16)), (49, (2, 1, sb_49))] : mi_T), sc_P e.1 = some e.2 := mi_tb mi_P124 (mi_tb mi_P16 (mi_tb mi_P49 (mi_tb_e)))
set_option maxRecDepth 20000 in
theorem ms_kpcB_5 {h : sm_H} {d : Nat} {Q : Option mi_V → sm_H → Prop} {zf za zn : Int} (hS : ab_Sh sx_sk h) (ok_zf : mi_in zf) (ok_za : mi_in za) (ok_zn : mi_in zn) (ho : (((0 : Int)) ≤ zf) ∧ (((70 : Int)) ≤ zf) ∧ (zn < ((0 : Int))) ∧ (zn < ((6 : Int)))) (kon : ∀ h1, me_W [] h h1 → me_E (d + 2) 124 35 [some (.inr (.inr 106)), some (.inl (zf)), some (.inl (za)), some (.inl (zn))] [] h1 Q) : me_E (d + 2) 124 14 [some (.inr (.inr 106)), some (.inl (zf)), some (.inl (za)), some (.inl (zn))] [] h Q := mf_seg (mp_kpcB_5 h d zf za zn) (mi_tab_kpcB_5) hS (mi_okL_c (trivial) (mi_okL_c (ok_zf) (mi_okL_c (ok_za) (mi_okL_c (ok_zn) (mi_okL_e))))) (mi_okS_e) (mi_al (ho.1) (mi_al (ho.2.1) (mi_al (ho.2.2.1) (mi_al (ho.2.2.2) (mi_al_e))))) (fun h1 W _ hst => kon h1 W)
set_option maxRecDepth 20000 in
theorem mp_kpcB_6 (h : sm_H) (d : Nat) (zf za zn : Int) : mj_path [(124, (4, 1, sb_124)), (16, (3, 0, sb_16)), (49, (2, 1, sb_49))] sx_sk h 18 [0, 0, 1] (d + 2, 124, 14, [some (.inr (.inr 106)), some (.inl (zf)), some (.inl (za)), some (.inl (zn))], [], [], []) = some ((d + 2, 124, 73, [some (.inr (.inr 106)), some (.inl (zf)), some (.inl (za)), some (.inl (zn))], [], [], []), [((0 : Int)) ≤ zf, zf < ((70 : Int)), 0 ≤ zf ∧ zf < 70, (mi_a h 64 (Int.toNat zf)) ≤ zn]) := rfl
theorem mi_tab_kpcB_6 : ∀ e ∈ ([(124, (4, 1, sb_124)), (16, (3, 0, sb_16)), (49, (2, 1, sb_49))] : mi_T), sc_P e.1 = some e.2 := mi_tb mi_P124 (mi_tb mi_P16 (mi_tb mi_P49 (mi_tb_e)))
set_option maxRecDepth 20000 in
theorem ms_kpcB_6 {h : sm_H} {d : Nat} {Q : Option mi_V → sm_H → Prop} {zf za zn : Int} (hS : ab_Sh sx_sk h) (ok_zf : mi_in zf) (ok_za : mi_in za) (ok_zn : mi_in zn) (ho : (((0 : Int)) ≤ zf) ∧ (zf < ((70 : Int))) ∧ (0 ≤ zf ∧ zf < 70) ∧ ((mi_a h 64 (Int.toNat zf)) ≤ zn)) (kon : ∀ h1, me_W [] h h1 → me_E (d + 2) 124 73 [some (.inr (.inr 106)), some (.inl (zf)), some (.inl (za)), some (.inl (zn))] [] h1 Q) : me_E (d + 2) 124 14 [some (.inr (.inr 106)), some (.inl (zf)), some (.inl (za)), some (.inl (zn))] [] h Q := mf_seg (mp_kpcB_6 h d zf za zn) (mi_tab_kpcB_6) hS (mi_okL_c (trivial) (mi_okL_c (ok_zf) (mi_okL_c (ok_za) (mi_okL_c (ok_zn) (mi_okL_e))))) (mi_okS_e) (mi_al (ho.1) (mi_al (ho.2.1) (mi_al (ho.2.2.1) (mi_al (ho.2.2.2) (mi_al_e))))) (fun h1 W _ hst => kon h1 W)
set_option maxRecDepth 20000 in
theorem mp_kpcB_7 (h : sm_H) (d : Nat) (zf za zn : Int) : mj_path [(124, (4, 1, sb_124)), (16, (3, 0, sb_16)), (49, (2, 1, sb_49))] sx_sk h 21 [0, 0, 0, 1] (d + 2, 124, 14, [some (.inr (.inr 106)), some (.inl (zf)), some (.inl (za)), some (.inl (zn))], [], [], []) = some ((d + 2, 124, 73, [some (.inr (.inr 106)), some (.inl (zf)), some (.inl (za)), some (.inl (zn))], [], [], []), [((0 : Int)) ≤ zf, zf < ((70 : Int)), 0 ≤ zf ∧ zf < 70, zn < (mi_a h 64 (Int.toNat zf)), ((6 : Int)) ≤ zn]) := rfl
theorem mi_tab_kpcB_7 : ∀ e ∈ ([(124, (4, 1, sb_124)), (16, (3, 0, sb_16)), (49, (2, 1, sb_49))] : mi_T), sc_P e.1 = some e.2 := mi_tb mi_P124 (mi_tb mi_P16 (mi_tb mi_P49 (mi_tb_e)))
set_option maxRecDepth 20000 in
theorem ms_kpcB_7 {h : sm_H} {d : Nat} {Q : Option mi_V → sm_H → Prop} {zf za zn : Int} (hS : ab_Sh sx_sk h) (ok_zf : mi_in zf) (ok_za : mi_in za) (ok_zn : mi_in zn) (ho : (((0 : Int)) ≤ zf) ∧ (zf < ((70 : Int))) ∧ (0 ≤ zf ∧ zf < 70) ∧ (zn < (mi_a h 64 (Int.toNat zf))) ∧ (((6 : Int)) ≤ zn)) (kon : ∀ h1, me_W [] h h1 → me_E (d + 2) 124 73 [some (.inr (.inr 106)), some (.inl (zf)), some (.inl (za)), some (.inl (zn))] [] h1 Q) : me_E (d + 2) 124 14 [some (.inr (.inr 106)), some (.inl (zf)), some (.inl (za)), some (.inl (zn))] [] h Q := mf_seg (mp_kpcB_7 h d zf za zn) (mi_tab_kpcB_7) hS (mi_okL_c (trivial) (mi_okL_c (ok_zf) (mi_okL_c (ok_za) (mi_okL_c (ok_zn) (mi_okL_e))))) (mi_okS_e) (mi_al (ho.1) (mi_al (ho.2.1) (mi_al (ho.2.2.1) (mi_al (ho.2.2.2.1) (mi_al (ho.2.2.2.2) (mi_al_e)))))) (fun h1 W _ hst => kon h1 W)
set_option maxRecDepth 20000 in
theorem mp_kpcB_8 (h : sm_H) (d : Nat) (zf za zn : Int) : mj_path [(124, (4, 1, sb_124)), (16, (3, 0, sb_16)), (49, (2, 1, sb_49))] sx_sk h 21 [0, 0, 0, 0] (d + 2, 124, 14, [some (.inr (.inr 106)), some (.inl (zf)), some (.inl (za)), some (.inl (zn))], [], [], []) = some ((d + 2, 124, 35, [some (.inr (.inr 106)), some (.inl (zf)), some (.inl (za)), some (.inl (zn))], [], [], []), [((0 : Int)) ≤ zf, zf < ((70 : Int)), 0 ≤ zf ∧ zf < 70, zn < (mi_a h 64 (Int.toNat zf)), zn < ((6 : Int))]) := rfl
theorem mi_tab_kpcB_8 : ∀ e ∈ ([(124, (4, 1, sb_124)), (16, (3, 0, sb_16)), (49, (2, 1, sb_49))] : mi_T), sc_P e.1 = some e.2 := mi_tb mi_P124 (mi_tb mi_P16 (mi_tb mi_P49 (mi_tb_e)))
set_option maxRecDepth 20000 in
theorem ms_kpcB_8 {h : sm_H} {d : Nat} {Q : Option mi_V → sm_H → Prop} {zf za zn : Int} (hS : ab_Sh sx_sk h) (ok_zf : mi_in zf) (ok_za : mi_in za) (ok_zn : mi_in zn) (ho : (((0 : Int)) ≤ zf) ∧ (zf < ((70 : Int))) ∧ (0 ≤ zf ∧ zf < 70) ∧ (zn < (mi_a h 64 (Int.toNat zf))) ∧ (zn < ((6 : Int)))) (kon : ∀ h1, me_W [] h h1 → me_E (d + 2) 124 35 [some (.inr (.inr 106)), some (.inl (zf)), some (.inl (za)), some (.inl (zn))] [] h1 Q) : me_E (d + 2) 124 14 [some (.inr (.inr 106)), some (.inl (zf)), some (.inl (za)), some (.inl (zn))] [] h Q := mf_seg (mp_kpcB_8 h d zf za zn) (mi_tab_kpcB_8) hS (mi_okL_c (trivial) (mi_okL_c (ok_zf) (mi_okL_c (ok_za) (mi_okL_c (ok_zn) (mi_okL_e))))) (mi_okS_e) (mi_al (ho.1) (mi_al (ho.2.1) (mi_al (ho.2.2.1) (mi_al (ho.2.2.2.1) (mi_al (ho.2.2.2.2) (mi_al_e)))))) (fun h1 W _ hst => kon h1 W)
set_option maxRecDepth 20000 in
theorem mt_kpcB {h : sm_H} {d : Nat} {Q : Option mi_V → sm_H → Prop} {zf za zn : Int} (hS : ab_Sh sx_sk h) (ok_zf : mi_in zf) (ok_za : mi_in za) (ok_zn : mi_in zn) (k0 : (zf < ((0 : Int))) → (((0 : Int)) ≤ zn) → (∀ h1, ab_Sh sx_sk h1 → ab_Fr [] h h1 → me_E (d + 2) 124 73 [some (.inr (.inr 106)), some (.inl (zf)), some (.inl (za)), some (.inl (zn))] [] h1 Q)) (k1 : (zf < ((0 : Int))) → (zn < ((0 : Int))) → (((6 : Int)) ≤ zn) → (∀ h1, ab_Sh sx_sk h1 → ab_Fr [] h h1 → me_E (d + 2) 124 73 [some (.inr (.inr 106)), some (.inl (zf)), some (.inl (za)), some (.inl (zn))] [] h1 Q)) (k2 : (zf < ((0 : Int))) → (zn < ((0 : Int))) → (zn < ((6 : Int))) → (∀ h1, ab_Sh sx_sk h1 → ab_Fr [] h h1 → me_E (d + 2) 124 35 [some (.inr (.inr 106)), some (.inl (zf)), some (.inl (za)), some (.inl (zn))] [] h1 Q)) (k3 : (((0 : Int)) ≤ zf) → (((70 : Int)) ≤ zf) → (((0 : Int)) ≤ zn) → (∀ h1, ab_Sh sx_sk h1 → ab_Fr [] h h1 → me_E (d + 2) 124 73 [some (.inr (.inr 106)), some (.inl (zf)), some (.inl (za)), some (.inl (zn))] [] h1 Q)) (k4 : (((0 : Int)) ≤ zf) → (((70 : Int)) ≤ zf) → (zn < ((0 : Int))) → (((6 : Int)) ≤ zn) → (∀ h1, ab_Sh sx_sk h1 → ab_Fr [] h h1 → me_E (d + 2) 124 73 [some (.inr (.inr 106)), some (.inl (zf)), some (.inl (za)), some (.inl (zn))] [] h1 Q)) (k5 : (((0 : Int)) ≤ zf) → (((70 : Int)) ≤ zf) → (zn < ((0 : Int))) → (zn < ((6 : Int))) → (∀ h1, ab_Sh sx_sk h1 → ab_Fr [] h h1 → me_E (d + 2) 124 35 [some (.inr (.inr 106)), some (.inl (zf)), some (.inl (za)), some (.inl (zn))] [] h1 Q)) (k6 : (((0 : Int)) ≤ zf) → (zf < ((70 : Int))) → ((mi_a h 64 (Int.toNat zf)) ≤ zn) → ((0 ≤ zf ∧ zf < 70)) ∧ (∀ h1, ab_Sh sx_sk h1 → ab_Fr [] h h1 → me_E (d + 2) 124 73 [some (.inr (.inr 106)), some (.inl (zf)), some (.inl (za)), some (.inl (zn))] [] h1 Q)) (k7 : (((0 : Int)) ≤ zf) → (zf < ((70 : Int))) → (zn < (mi_a h 64 (Int.toNat zf))) → (((6 : Int)) ≤ zn) → ((0 ≤ zf ∧ zf < 70)) ∧ (∀ h1, ab_Sh sx_sk h1 → ab_Fr [] h h1 → me_E (d + 2) 124 73 [some (.inr (.inr 106)), some (.inl (zf)), some (.inl (za)), some (.inl (zn))] [] h1 Q)) (k8 : (((0 : Int)) ≤ zf) → (zf < ((70 : Int))) → (zn < (mi_a h 64 (Int.toNat zf))) → (zn < ((6 : Int))) → ((0 ≤ zf ∧ zf < 70)) ∧ (∀ h1, ab_Sh sx_sk h1 → ab_Fr [] h h1 → me_E (d + 2) 124 35 [some (.inr (.inr 106)), some (.inl (zf)), some (.inl (za)), some (.inl (zn))] [] h1 Q)) : me_E (d + 2) 124 14 [some (.inr (.inr 106)), some (.inl (zf)), some (.inl (za)), some (.inl (zn))] [] h Q := Or.elim (mi_em .lt (zf) (((0 : Int)))) (fun c0 => Or.elim (mi_em .ge (zn) (((0 : Int)))) (fun c1 => ms_kpcB_0 hS ok_zf ok_za ok_zn ⟨c0, c1⟩ (fun h1 W => (k0 c0 c1) h1 W.1 (W.2.2.2.2.2 _ rfl))) (fun c1 => Or.elim (mi_em .ge (zn) (((6 : Int)))) (fun c2 => ms_kpcB_1 hS ok_zf ok_za ok_zn ⟨c0, c1, c2⟩ (fun h1 W => (k1 c0 c1 c2) h1 W.1 (W.2.2.2.2.2 _ rfl))) (fun c2 => ms_kpcB_2 hS ok_zf ok_za ok_zn ⟨c0, c1, c2⟩ (fun h1 W => (k2 c0 c1 c2) h1 W.1 (W.2.2.2.2.2 _ rfl))))) (fun c0 => Or.elim (mi_em .ge (zf) (((70 : Int)))) (fun c1 => Or.elim (mi_em .ge (zn) (((0 : Int)))) (fun c2 => ms_kpcB_3 hS ok_zf ok_za ok_zn ⟨c0, c1, c2⟩ (fun h1 W => (k3 c0 c1 c2) h1 W.1 (W.2.2.2.2.2 _ rfl))) (fun c2 => Or.elim (mi_em .ge (zn) (((6 : Int)))) (fun c3 => ms_kpcB_4 hS ok_zf ok_za ok_zn ⟨c0, c1, c2, c3⟩ (fun h1 W => (k4 c0 c1 c2 c3) h1 W.1 (W.2.2.2.2.2 _ rfl))) (fun c3 => ms_kpcB_5 hS ok_zf ok_za ok_zn ⟨c0, c1, c2, c3⟩ (fun h1 W => (k5 c0 c1 c2 c3) h1 W.1 (W.2.2.2.2.2 _ rfl))))) (fun c1 => Or.elim (mi_em .ge (zn) ((mi_a h 64 (Int.toNat zf)))) (fun c2 => ms_kpcB_6 hS ok_zf ok_za ok_zn ⟨c0, c1, (k6 c0 c1 c2).1, c2⟩ (fun h1 W => (k6 c0 c1 c2).2 h1 W.1 (W.2.2.2.2.2 _ rfl))) (fun c2 => Or.elim (mi_em .ge (zn) (((6 : Int)))) (fun c3 => ms_kpcB_7 hS ok_zf ok_za ok_zn ⟨c0, c1, (k7 c0 c1 c2 c3).1, c2, c3⟩ (fun h1 W => (k7 c0 c1 c2 c3).2 h1 W.1 (W.2.2.2.2.2 _ rfl))) (fun c3 => ms_kpcB_8 hS ok_zf ok_za ok_zn ⟨c0, c1, (k8 c0 c1 c2 c3).1, c2, c3⟩ (fun h1 W => (k8 c0 c1 c2 c3).2 h1 W.1 (W.2.2.2.2.2 _ rfl))))))
set_option maxRecDepth 20000 in
theorem mp_kpcC_0 (h : sm_H) (d : Nat) (zf za zn : Int) : mj_path [(124, (4, 1, sb_124)), (16, (3, 0, sb_16)), (49, (2, 1, sb_49)), (72, (2, 2, sb_72))] sx_sk h 10 [1] (d + 2, 124, 35, [some (.inr (.inr 106)), some (.inl (zf)), some (.inl (za)), some (.inl (zn))], [], [], []) = some ((d + 2, 124, 47, [some (.inr (.inr 106)), some (.inl (zf)), some (.inl (za)), some (.inl (zn))], [.inr (.inl (Int64.ofNat 0)), .inr (.inr 106)], [], []), [za < ((0 : Int))]) := rfl
theorem mi_tab_kpcC_0 : ∀ e ∈ ([(124, (4, 1, sb_124)), (16, (3, 0, sb_16)), (49, (2, 1, sb_49)), (72, (2, 2, sb_72))] : mi_T), sc_P e.1 = some e.2 := mi_tb mi_P124 (mi_tb mi_P16 (mi_tb mi_P49 (mi_tb mi_P72 (mi_tb_e))))
set_option maxRecDepth 20000 in
theorem ms_kpcC_0 {h : sm_H} {d : Nat} {Q : Option mi_V → sm_H → Prop} {zf za zn : Int} (hS : ab_Sh sx_sk h) (ok_zf : mi_in zf) (ok_za : mi_in za) (ok_zn : mi_in zn) (ho : (za < ((0 : Int)))) (kon : ∀ h1, me_W [] h h1 → ∃ Q1, me_E (d + 1) 125 0 (mi_entry 3 [.inr (.inr 106), .inr (.inl (Int64.ofNat 0))]) [] h1 Q1 ∧ ∀ w h2, (∀ x, w = some x → mi_ok x) → Q1 w h2 → me_E (d + 2) 124 50 [some (.inr (.inr 106)), some (.inl (zf)), some (.inl (za)), some (.inl (zn))] (mi_back w []) h2 Q) : me_E (d + 2) 124 35 [some (.inr (.inr 106)), some (.inl (zf)), some (.inl (za)), some (.inl (zn))] [] h Q := mf_seg (mp_kpcC_0 h d zf za zn) (mi_tab_kpcC_0) hS (mi_okL_c (trivial) (mi_okL_c (ok_zf) (mi_okL_c (ok_za) (mi_okL_c (ok_zn) (mi_okL_e))))) (mi_okS_e) (mi_al (ho) (mi_al_e)) (fun h1 W _ hst => let ⟨_, k1, k2⟩ := kon h1 W; mf_call (M := (4, 1, sb_124)) (M' := (3, 4, sb_125)) rfl rfl rfl rfl (Nat.le_of_ble_eq_true rfl) (Nat.le_of_ble_eq_true rfl) W.1 k1 k2)
set_option maxRecDepth 20000 in
theorem mp_kpcC_1 (h : sm_H) (d : Nat) (zf za zn : Int) : mj_path [(124, (4, 1, sb_124)), (16, (3, 0, sb_16)), (49, (2, 1, sb_49)), (72, (2, 2, sb_72))] sx_sk h 14 [0, 1] (d + 2, 124, 35, [some (.inr (.inr 106)), some (.inl (zf)), some (.inl (za)), some (.inl (zn))], [], [], []) = some ((d + 2, 124, 47, [some (.inr (.inr 106)), some (.inl (zf)), some (.inl (za)), some (.inl (zn))], [.inr (.inl (Int64.ofNat 0)), .inr (.inr 106)], [], []), [((0 : Int)) ≤ za, ((66 : Int)) ≤ za]) := rfl
theorem mi_tab_kpcC_1 : ∀ e ∈ ([(124, (4, 1, sb_124)), (16, (3, 0, sb_16)), (49, (2, 1, sb_49)), (72, (2, 2, sb_72))] : mi_T), sc_P e.1 = some e.2 := mi_tb mi_P124 (mi_tb mi_P16 (mi_tb mi_P49 (mi_tb mi_P72 (mi_tb_e))))
set_option maxRecDepth 20000 in
theorem ms_kpcC_1 {h : sm_H} {d : Nat} {Q : Option mi_V → sm_H → Prop} {zf za zn : Int} (hS : ab_Sh sx_sk h) (ok_zf : mi_in zf) (ok_za : mi_in za) (ok_zn : mi_in zn) (ho : (((0 : Int)) ≤ za) ∧ (((66 : Int)) ≤ za)) (kon : ∀ h1, me_W [] h h1 → ∃ Q1, me_E (d + 1) 125 0 (mi_entry 3 [.inr (.inr 106), .inr (.inl (Int64.ofNat 0))]) [] h1 Q1 ∧ ∀ w h2, (∀ x, w = some x → mi_ok x) → Q1 w h2 → me_E (d + 2) 124 50 [some (.inr (.inr 106)), some (.inl (zf)), some (.inl (za)), some (.inl (zn))] (mi_back w []) h2 Q) : me_E (d + 2) 124 35 [some (.inr (.inr 106)), some (.inl (zf)), some (.inl (za)), some (.inl (zn))] [] h Q := mf_seg (mp_kpcC_1 h d zf za zn) (mi_tab_kpcC_1) hS (mi_okL_c (trivial) (mi_okL_c (ok_zf) (mi_okL_c (ok_za) (mi_okL_c (ok_zn) (mi_okL_e))))) (mi_okS_e) (mi_al (ho.1) (mi_al (ho.2) (mi_al_e))) (fun h1 W _ hst => let ⟨_, k1, k2⟩ := kon h1 W; mf_call (M := (4, 1, sb_124)) (M' := (3, 4, sb_125)) rfl rfl rfl rfl (Nat.le_of_ble_eq_true rfl) (Nat.le_of_ble_eq_true rfl) W.1 k1 k2)
set_option maxRecDepth 20000 in
theorem mp_kpcC_2 (h : sm_H) (d : Nat) (zf za zn : Int) : mj_path [(124, (4, 1, sb_124)), (16, (3, 0, sb_16)), (49, (2, 1, sb_49)), (72, (2, 2, sb_72))] sx_sk h 17 [0, 0] (d + 2, 124, 35, [some (.inr (.inr 106)), some (.inl (zf)), some (.inl (za)), some (.inl (zn))], [], [], []) = some ((d + 2, 124, 47, [some (.inr (.inr 106)), some (.inl (zf)), some (.inl (za)), some (.inl (zn))], [.inr (.inl (mx_b h 88 (Int.toNat za))), .inr (.inr 106)], [], []), [((0 : Int)) ≤ za, za < ((66 : Int)), 0 ≤ za ∧ za < 66]) := rfl
theorem mi_tab_kpcC_2 : ∀ e ∈ ([(124, (4, 1, sb_124)), (16, (3, 0, sb_16)), (49, (2, 1, sb_49)), (72, (2, 2, sb_72))] : mi_T), sc_P e.1 = some e.2 := mi_tb mi_P124 (mi_tb mi_P16 (mi_tb mi_P49 (mi_tb mi_P72 (mi_tb_e))))
set_option maxRecDepth 20000 in
theorem ms_kpcC_2 {h : sm_H} {d : Nat} {Q : Option mi_V → sm_H → Prop} {zf za zn : Int} (hS : ab_Sh sx_sk h) (ok_zf : mi_in zf) (ok_za : mi_in za) (ok_zn : mi_in zn) (ho : (((0 : Int)) ≤ za) ∧ (za < ((66 : Int))) ∧ (0 ≤ za ∧ za < 66)) (kon : ∀ h1, me_W [] h h1 → ∃ Q1, me_E (d + 1) 125 0 (mi_entry 3 [.inr (.inr 106), .inr (.inl (mx_b h 88 (Int.toNat za)))]) [] h1 Q1 ∧ ∀ w h2, (∀ x, w = some x → mi_ok x) → Q1 w h2 → me_E (d + 2) 124 50 [some (.inr (.inr 106)), some (.inl (zf)), some (.inl (za)), some (.inl (zn))] (mi_back w []) h2 Q) : me_E (d + 2) 124 35 [some (.inr (.inr 106)), some (.inl (zf)), some (.inl (za)), some (.inl (zn))] [] h Q := mf_seg (mp_kpcC_2 h d zf za zn) (mi_tab_kpcC_2) hS (mi_okL_c (trivial) (mi_okL_c (ok_zf) (mi_okL_c (ok_za) (mi_okL_c (ok_zn) (mi_okL_e))))) (mi_okS_e) (mi_al (ho.1) (mi_al (ho.2.1) (mi_al (ho.2.2) (mi_al_e)))) (fun h1 W _ hst => let ⟨_, k1, k2⟩ := kon h1 W; mf_call (M := (4, 1, sb_124)) (M' := (3, 4, sb_125)) rfl rfl rfl rfl (Nat.le_of_ble_eq_true rfl) (Nat.le_of_ble_eq_true rfl) W.1 k1 k2)
set_option maxRecDepth 20000 in
theorem mt_kpcC {h : sm_H} {d : Nat} {Q : Option mi_V → sm_H → Prop} {zf za zn : Int} (hS : ab_Sh sx_sk h) (ok_zf : mi_in zf) (ok_za : mi_in za) (ok_zn : mi_in zn) (k0 : (za < ((0 : Int))) → (∀ h1, ab_Sh sx_sk h1 → ab_Fr [] h h1 → ∃ Q1, me_E (d + 1) 125 0 (mi_entry 3 [.inr (.inr 106), .inr (.inl (Int64.ofNat 0))]) [] h1 Q1 ∧ ∀ w h2, (∀ x, w = some x → mi_ok x) → Q1 w h2 → me_E (d + 2) 124 50 [some (.inr (.inr 106)), some (.inl (zf)), some (.inl (za)), some (.inl (zn))] (mi_back w []) h2 Q)) (k1 : (((0 : Int)) ≤ za) → (((66 : Int)) ≤ za) → (∀ h1, ab_Sh sx_sk h1 → ab_Fr [] h h1 → ∃ Q1, me_E (d + 1) 125 0 (mi_entry 3 [.inr (.inr 106), .inr (.inl (Int64.ofNat 0))]) [] h1 Q1 ∧ ∀ w h2, (∀ x, w = some x → mi_ok x) → Q1 w h2 → me_E (d + 2) 124 50 [some (.inr (.inr 106)), some (.inl (zf)), some (.inl (za)), some (.inl (zn))] (mi_back w []) h2 Q)) (k2 : (((0 : Int)) ≤ za) → (za < ((66 : Int))) → ((0 ≤ za ∧ za < 66)) ∧ (∀ h1, ab_Sh sx_sk h1 → ab_Fr [] h h1 → ∃ Q1, me_E (d + 1) 125 0 (mi_entry 3 [.inr (.inr 106), .inr (.inl (mx_b h 88 (Int.toNat za)))]) [] h1 Q1 ∧ ∀ w h2, (∀ x, w = some x → mi_ok x) → Q1 w h2 → me_E (d + 2) 124 50 [some (.inr (.inr 106)), some (.inl (zf)), some (.inl (za)), some (.inl (zn))] (mi_back w []) h2 Q)) : me_E (d + 2) 124 35 [some (.inr (.inr 106)), some (.inl (zf)), some (.inl (za)), some (.inl (zn))] [] h Q := Or.elim (mi_em .lt (za) (((0 : Int)))) (fun c0 => ms_kpcC_0 hS ok_zf ok_za ok_zn (c0) (fun h1 W => (k0 c0) h1 W.1 (W.2.2.2.2.2 _ rfl))) (fun c0 => Or.elim (mi_em .ge (za) (((66 : Int)))) (fun c1 => ms_kpcC_1 hS ok_zf ok_za ok_zn ⟨c0, c1⟩ (fun h1 W => (k1 c0 c1) h1 W.1 (W.2.2.2.2.2 _ rfl))) (fun c1 => ms_kpcC_2 hS ok_zf ok_za ok_zn ⟨c0, c1, (k2 c0 c1).1⟩ (fun h1 W => (k2 c0 c1).2 h1 W.1 (W.2.2.2.2.2 _ rfl))))
set_option maxRecDepth 20000 in
theorem mp_kpcD_0 (h : sm_H) (d : Nat) (zf za zn zz : Int) : mj_path [(124, (4, 1, sb_124))] sx_sk h 1 [1] (d + 2, 124, 50, [some (.inr (.inr 106)), some (.inl (zf)), some (.inl (za)), some (.inl (zn))], [.inl (zz)], [], []) = some ((d + 2, 124, 55, [some (.inr (.inr 106)), some (.inl (zf)), some (.inl (za)), some (.inl (zn))], [], [], []), [zz = ((0 : Int))]) := rfl
theorem mi_tab_kpcD_0 : ∀ e ∈ ([(124, (4, 1, sb_124))] : mi_T), sc_P e.1 = some e.2 := mi_tb mi_P124 (mi_tb_e)
set_option maxRecDepth 20000 in
theorem ms_kpcD_0 {h : sm_H} {d : Nat} {Q : Option mi_V → sm_H → Prop} {zf za zn zz : Int} (hS : ab_Sh sx_sk h) (ok_zf : mi_in zf) (ok_za : mi_in za) (ok_zn : mi_in zn) (ok_zz : mi_in zz) (ho : (zz = ((0 : Int)))) (kon : ∀ h1, me_W [] h h1 → me_E (d + 2) 124 55 [some (.inr (.inr 106)), some (.inl (zf)), some (.inl (za)), some (.inl (zn))] [] h1 Q) : me_E (d + 2) 124 50 [some (.inr (.inr 106)), some (.inl (zf)), some (.inl (za)), some (.inl (zn))] [.inl (zz)] h Q := mf_seg (mp_kpcD_0 h d zf za zn zz) (mi_tab_kpcD_0) hS (mi_okL_c (trivial) (mi_okL_c (ok_zf) (mi_okL_c (ok_za) (mi_okL_c (ok_zn) (mi_okL_e))))) (mi_okS_cons (ok_zz) (mi_okS_e)) (mi_al (ho) (mi_al_e)) (fun h1 W _ hst => kon h1 W)
set_option maxRecDepth 20000 in
theorem mp_kpcD_1 (h : sm_H) (d : Nat) (zf za zn zz : Int) : mj_path [(124, (4, 1, sb_124))] sx_sk h 2 [0] (d + 2, 124, 50, [some (.inr (.inr 106)), some (.inl (zf)), some (.inl (za)), some (.inl (zn))], [.inl (zz)], [], []) = some ((d + 2, 124, 54, [some (.inr (.inr 106)), some (.inl (zf)), some (.inl (za)), some (.inl (zn))], [.inl (zn)], [], []), [zz ≠ ((0 : Int))]) := rfl
theorem mi_tab_kpcD_1 : ∀ e ∈ ([(124, (4, 1, sb_124))] : mi_T), sc_P e.1 = some e.2 := mi_tb mi_P124 (mi_tb_e)
set_option maxRecDepth 20000 in
theorem ms_kpcD_1 {h : sm_H} {d : Nat} {Q : Option mi_V → sm_H → Prop} {zf za zn zz : Int} (hS : ab_Sh sx_sk h) (ok_zf : mi_in zf) (ok_za : mi_in za) (ok_zn : mi_in zn) (ok_zz : mi_in zz) (ho : (zz ≠ ((0 : Int)))) (kon : ∀ h1, me_W [] h h1 → Q (some (.inl (zn))) h1) : me_E (d + 2) 124 50 [some (.inr (.inr 106)), some (.inl (zf)), some (.inl (za)), some (.inl (zn))] [.inl (zz)] h Q := mf_seg (mp_kpcD_1 h d zf za zn zz) (mi_tab_kpcD_1) hS (mi_okL_c (trivial) (mi_okL_c (ok_zf) (mi_okL_c (ok_za) (mi_okL_c (ok_zn) (mi_okL_e))))) (mi_okS_cons (ok_zz) (mi_okS_e)) (mi_al (ho) (mi_al_e)) (fun h1 W _ hst => mf_ret (M := (4, 1, sb_124)) rfl rfl rfl hst (mi_al_e) (kon h1 W))
set_option maxRecDepth 20000 in
theorem mt_kpcD {h : sm_H} {d : Nat} {Q : Option mi_V → sm_H → Prop} {zf za zn zz : Int} (hS : ab_Sh sx_sk h) (ok_zf : mi_in zf) (ok_za : mi_in za) (ok_zn : mi_in zn) (ok_zz : mi_in zz) (k0 : (zz = ((0 : Int))) → (∀ h1, ab_Sh sx_sk h1 → ab_Fr [] h h1 → me_E (d + 2) 124 55 [some (.inr (.inr 106)), some (.inl (zf)), some (.inl (za)), some (.inl (zn))] [] h1 Q)) (k1 : (zz ≠ ((0 : Int))) → (∀ h1, ab_Sh sx_sk h1 → ab_Fr [] h h1 → Q (some (.inl (zn))) h1)) : me_E (d + 2) 124 50 [some (.inr (.inr 106)), some (.inl (zf)), some (.inl (za)), some (.inl (zn))] [.inl (zz)] h Q := Or.elim (mi_em .eq (zz) (((0 : Int)))) (fun c0 => ms_kpcD_0 hS ok_zf ok_za ok_zn ok_zz (c0) (fun h1 W => (k0 c0) h1 W.1 (W.2.2.2.2.2 _ rfl))) (fun c0 => ms_kpcD_1 hS ok_zf ok_za ok_zn ok_zz (c0) (fun h1 W => (k1 c0) h1 W.1 (W.2.2.2.2.2 _ rfl)))
set_option maxRecDepth 20000 in
theorem mp_kpcE_0 (h : sm_H) (d : Nat) (zf za zn : Int) : mj_path [(124, (4, 1, sb_124)), (16, (3, 0, sb_16)), (49, (2, 1, sb_49))] sx_sk h 12 [1] (d + 2, 124, 55, [some (.inr (.inr 106)), some (.inl (zf)), some (.inl (za)), some (.inl (zn))], [], [], []) = some ((d + 2, 124, 14, [some (.inr (.inr 106)), some (.inl (zf)), some (.inl ((0 : Int))), some (.inl (zn + 1))], [], [], []), [za < ((0 : Int)), -2147483648 ≤ zn + 1 ∧ zn + 1 ≤ 2147483647]) := rfl
theorem mi_tab_kpcE_0 : ∀ e ∈ ([(124, (4, 1, sb_124)), (16, (3, 0, sb_16)), (49, (2, 1, sb_49))] : mi_T), sc_P e.1 = some e.2 := mi_tb mi_P124 (mi_tb mi_P16 (mi_tb mi_P49 (mi_tb_e)))
set_option maxRecDepth 20000 in
theorem ms_kpcE_0 {h : sm_H} {d : Nat} {Q : Option mi_V → sm_H → Prop} {zf za zn : Int} (hS : ab_Sh sx_sk h) (ok_zf : mi_in zf) (ok_za : mi_in za) (ok_zn : mi_in zn) (ho : (za < ((0 : Int))) ∧ (-2147483648 ≤ zn + 1 ∧ zn + 1 ≤ 2147483647)) (kon : ∀ h1, me_W [] h h1 → me_E (d + 2) 124 14 [some (.inr (.inr 106)), some (.inl (zf)), some (.inl ((0 : Int))), some (.inl (zn + 1))] [] h1 Q) : me_E (d + 2) 124 55 [some (.inr (.inr 106)), some (.inl (zf)), some (.inl (za)), some (.inl (zn))] [] h Q := mf_seg (mp_kpcE_0 h d zf za zn) (mi_tab_kpcE_0) hS (mi_okL_c (trivial) (mi_okL_c (ok_zf) (mi_okL_c (ok_za) (mi_okL_c (ok_zn) (mi_okL_e))))) (mi_okS_e) (mi_al (ho.1) (mi_al (ho.2) (mi_al_e))) (fun h1 W _ hst => kon h1 W)
set_option maxRecDepth 20000 in
theorem mp_kpcE_1 (h : sm_H) (d : Nat) (zf za zn : Int) : mj_path [(124, (4, 1, sb_124)), (16, (3, 0, sb_16)), (49, (2, 1, sb_49))] sx_sk h 16 [0, 1] (d + 2, 124, 55, [some (.inr (.inr 106)), some (.inl (zf)), some (.inl (za)), some (.inl (zn))], [], [], []) = some ((d + 2, 124, 14, [some (.inr (.inr 106)), some (.inl (zf)), some (.inl ((0 : Int))), some (.inl (zn + 1))], [], [], []), [((0 : Int)) ≤ za, ((66 : Int)) ≤ za, -2147483648 ≤ zn + 1 ∧ zn + 1 ≤ 2147483647]) := rfl
theorem mi_tab_kpcE_1 : ∀ e ∈ ([(124, (4, 1, sb_124)), (16, (3, 0, sb_16)), (49, (2, 1, sb_49))] : mi_T), sc_P e.1 = some e.2 := mi_tb mi_P124 (mi_tb mi_P16 (mi_tb mi_P49 (mi_tb_e)))
set_option maxRecDepth 20000 in
theorem ms_kpcE_1 {h : sm_H} {d : Nat} {Q : Option mi_V → sm_H → Prop} {zf za zn : Int} (hS : ab_Sh sx_sk h) (ok_zf : mi_in zf) (ok_za : mi_in za) (ok_zn : mi_in zn) (ho : (((0 : Int)) ≤ za) ∧ (((66 : Int)) ≤ za) ∧ (-2147483648 ≤ zn + 1 ∧ zn + 1 ≤ 2147483647)) (kon : ∀ h1, me_W [] h h1 → me_E (d + 2) 124 14 [some (.inr (.inr 106)), some (.inl (zf)), some (.inl ((0 : Int))), some (.inl (zn + 1))] [] h1 Q) : me_E (d + 2) 124 55 [some (.inr (.inr 106)), some (.inl (zf)), some (.inl (za)), some (.inl (zn))] [] h Q := mf_seg (mp_kpcE_1 h d zf za zn) (mi_tab_kpcE_1) hS (mi_okL_c (trivial) (mi_okL_c (ok_zf) (mi_okL_c (ok_za) (mi_okL_c (ok_zn) (mi_okL_e))))) (mi_okS_e) (mi_al (ho.1) (mi_al (ho.2.1) (mi_al (ho.2.2) (mi_al_e)))) (fun h1 W _ hst => kon h1 W)
set_option maxRecDepth 20000 in
theorem mp_kpcE_2 (h : sm_H) (d : Nat) (zf za zn : Int) : mj_path [(124, (4, 1, sb_124)), (16, (3, 0, sb_16)), (49, (2, 1, sb_49))] sx_sk h 19 [0, 0] (d + 2, 124, 55, [some (.inr (.inr 106)), some (.inl (zf)), some (.inl (za)), some (.inl (zn))], [], [], []) = some ((d + 2, 124, 14, [some (.inr (.inr 106)), some (.inl (zf)), some (.inl (mi_a h 66 (Int.toNat za))), some (.inl (zn + 1))], [], [], []), [((0 : Int)) ≤ za, za < ((66 : Int)), 0 ≤ za ∧ za < 66, -2147483648 ≤ zn + 1 ∧ zn + 1 ≤ 2147483647]) := rfl
theorem mi_tab_kpcE_2 : ∀ e ∈ ([(124, (4, 1, sb_124)), (16, (3, 0, sb_16)), (49, (2, 1, sb_49))] : mi_T), sc_P e.1 = some e.2 := mi_tb mi_P124 (mi_tb mi_P16 (mi_tb mi_P49 (mi_tb_e)))
set_option maxRecDepth 20000 in
theorem ms_kpcE_2 {h : sm_H} {d : Nat} {Q : Option mi_V → sm_H → Prop} {zf za zn : Int} (hS : ab_Sh sx_sk h) (ok_zf : mi_in zf) (ok_za : mi_in za) (ok_zn : mi_in zn) (ho : (((0 : Int)) ≤ za) ∧ (za < ((66 : Int))) ∧ (0 ≤ za ∧ za < 66) ∧ (-2147483648 ≤ zn + 1 ∧ zn + 1 ≤ 2147483647)) (kon : ∀ h1, me_W [] h h1 → me_E (d + 2) 124 14 [some (.inr (.inr 106)), some (.inl (zf)), some (.inl (mi_a h 66 (Int.toNat za))), some (.inl (zn + 1))] [] h1 Q) : me_E (d + 2) 124 55 [some (.inr (.inr 106)), some (.inl (zf)), some (.inl (za)), some (.inl (zn))] [] h Q := mf_seg (mp_kpcE_2 h d zf za zn) (mi_tab_kpcE_2) hS (mi_okL_c (trivial) (mi_okL_c (ok_zf) (mi_okL_c (ok_za) (mi_okL_c (ok_zn) (mi_okL_e))))) (mi_okS_e) (mi_al (ho.1) (mi_al (ho.2.1) (mi_al (ho.2.2.1) (mi_al (ho.2.2.2) (mi_al_e))))) (fun h1 W _ hst => kon h1 W)
set_option maxRecDepth 20000 in
theorem mt_kpcE {h : sm_H} {d : Nat} {Q : Option mi_V → sm_H → Prop} {zf za zn : Int} (hS : ab_Sh sx_sk h) (ok_zf : mi_in zf) (ok_za : mi_in za) (ok_zn : mi_in zn) (k0 : (za < ((0 : Int))) → ((-2147483648 ≤ zn + 1 ∧ zn + 1 ≤ 2147483647)) ∧ (∀ h1, ab_Sh sx_sk h1 → ab_Fr [] h h1 → me_E (d + 2) 124 14 [some (.inr (.inr 106)), some (.inl (zf)), some (.inl ((0 : Int))), some (.inl (zn + 1))] [] h1 Q)) (k1 : (((0 : Int)) ≤ za) → (((66 : Int)) ≤ za) → ((-2147483648 ≤ zn + 1 ∧ zn + 1 ≤ 2147483647)) ∧ (∀ h1, ab_Sh sx_sk h1 → ab_Fr [] h h1 → me_E (d + 2) 124 14 [some (.inr (.inr 106)), some (.inl (zf)), some (.inl ((0 : Int))), some (.inl (zn + 1))] [] h1 Q)) (k2 : (((0 : Int)) ≤ za) → (za < ((66 : Int))) → ((0 ≤ za ∧ za < 66) ∧ (-2147483648 ≤ zn + 1 ∧ zn + 1 ≤ 2147483647)) ∧ (∀ h1, ab_Sh sx_sk h1 → ab_Fr [] h h1 → me_E (d + 2) 124 14 [some (.inr (.inr 106)), some (.inl (zf)), some (.inl (mi_a h 66 (Int.toNat za))), some (.inl (zn + 1))] [] h1 Q)) : me_E (d + 2) 124 55 [some (.inr (.inr 106)), some (.inl (zf)), some (.inl (za)), some (.inl (zn))] [] h Q := Or.elim (mi_em .lt (za) (((0 : Int)))) (fun c0 => ms_kpcE_0 hS ok_zf ok_za ok_zn ⟨c0, (k0 c0).1⟩ (fun h1 W => (k0 c0).2 h1 W.1 (W.2.2.2.2.2 _ rfl))) (fun c0 => Or.elim (mi_em .ge (za) (((66 : Int)))) (fun c1 => ms_kpcE_1 hS ok_zf ok_za ok_zn ⟨c0, c1, (k1 c0 c1).1⟩ (fun h1 W => (k1 c0 c1).2 h1 W.1 (W.2.2.2.2.2 _ rfl))) (fun c1 => ms_kpcE_2 hS ok_zf ok_za ok_zn ⟨c0, c1, (k2 c0 c1).1.1, (k2 c0 c1).1.2⟩ (fun h1 W => (k2 c0 c1).2 h1 W.1 (W.2.2.2.2.2 _ rfl))))
set_option maxRecDepth 20000 in
theorem mp_kpcF_0 (h : sm_H) (d : Nat) (zf za zn : Int) : mj_path [(124, (4, 1, sb_124)), (111, (1, 0, sb_111))] sx_sk h 11 [] (d + 2, 124, 73, [some (.inr (.inr 106)), some (.inl (zf)), some (.inl (za)), some (.inl (zn))], [], [], []) = some ((d + 2, 124, 78, [some (.inr (.inr 106)), some (.inl (zf)), some (.inl (za)), some (.inl (zn))], [.inl ((0 : Int))], [.inl (13571, (1 : Int)), .inl (13579, mi_f h 13576)], []), [0 ≤ ((1 : Int)) ∧ ((1 : Int)) ≤ 1, 0 ≤ ((1 : Int)) ∧ ((1 : Int)) ≤ 1]) := rfl
theorem mi_tab_kpcF_0 : ∀ e ∈ ([(124, (4, 1, sb_124)), (111, (1, 0, sb_111))] : mi_T), sc_P e.1 = some e.2 := mi_tb mi_P124 (mi_tb mi_P111 (mi_tb_e))
set_option maxRecDepth 20000 in
theorem ms_kpcF_0 {h : sm_H} {d : Nat} {Q : Option mi_V → sm_H → Prop} {zf za zn : Int} (hS : ab_Sh sx_sk h) (ok_zf : mi_in zf) (ok_za : mi_in za) (ok_zn : mi_in zn) (ho : (0 ≤ ((1 : Int)) ∧ ((1 : Int)) ≤ 1) ∧ (0 ≤ ((1 : Int)) ∧ ((1 : Int)) ≤ 1)) (kon : ∀ h1, me_W [.inl (13571, (1 : Int)), .inl (13579, mi_f h 13576)] h h1 → Q (some (.inl ((0 : Int)))) h1) : me_E (d + 2) 124 73 [some (.inr (.inr 106)), some (.inl (zf)), some (.inl (za)), some (.inl (zn))] [] h Q := mf_seg (mp_kpcF_0 h d zf za zn) (mi_tab_kpcF_0) hS (mi_okL_c (trivial) (mi_okL_c (ok_zf) (mi_okL_c (ok_za) (mi_okL_c (ok_zn) (mi_okL_e))))) (mi_okS_e) (mi_al (ho.1) (mi_al (ho.2) (mi_al_e))) (fun h1 W _ hst => mf_ret (M := (4, 1, sb_124)) rfl rfl rfl hst (mi_al_e) (kon h1 W))
set_option maxRecDepth 20000 in
theorem mt_kpcF {h : sm_H} {d : Nat} {Q : Option mi_V → sm_H → Prop} {zf za zn : Int} (hS : ab_Sh sx_sk h) (ok_zf : mi_in zf) (ok_za : mi_in za) (ok_zn : mi_in zn) (k0 : (∀ h1, ab_Sh sx_sk h1 → mi_f h1 13571 = (1 : Int) → mi_f h1 13579 = mi_f h 13576 → ab_Fr [(13571, 13572), (13579, 13580)] h h1 → Q (some (.inl ((0 : Int)))) h1)) : me_E (d + 2) 124 73 [some (.inr (.inr 106)), some (.inl (zf)), some (.inl (za)), some (.inl (zn))] [] h Q := ms_kpcF_0 hS ok_zf ok_za ok_zn ⟨(by decide), (by decide)⟩ (fun h1 W => (k0) h1 W.1 (W.2.1 13571) (W.2.1 13579) (W.2.2.2.2.2 _ rfl))
set_option maxRecDepth 20000 in
theorem mp_kpgA_0 (h : sm_H) (d : Nat) (zp zo zt : Int) : mj_path [(144, (5, 4, sb_144)), (16, (3, 0, sb_16)), (49, (2, 1, sb_49)), (72, (2, 2, sb_72))] sx_sk h 10 [1] (d + 2, 144, 0, [some (.inr (.inr 106)), some (.inl (zp)), some (.inl (zo)), some (.inl (zt)), none], [], [], []) = some ((d + 2, 144, 12, [some (.inr (.inr 106)), some (.inl (zp)), some (.inl (zo)), some (.inl (zt)), none], [.inr (.inl (Int64.ofNat 0)), .inr (.inr 106)], [], []), [zp < ((0 : Int))]) := rfl
theorem mi_tab_kpgA_0 : ∀ e ∈ ([(144, (5, 4, sb_144)), (16, (3, 0, sb_16)), (49, (2, 1, sb_49)), (72, (2, 2, sb_72))] : mi_T), sc_P e.1 = some e.2 := mi_tb mi_P144 (mi_tb mi_P16 (mi_tb mi_P49 (mi_tb mi_P72 (mi_tb_e))))
set_option maxRecDepth 20000 in
theorem ms_kpgA_0 {h : sm_H} {d : Nat} {Q : Option mi_V → sm_H → Prop} {zp zo zt : Int} (hS : ab_Sh sx_sk h) (ok_zp : mi_in zp) (ok_zo : mi_in zo) (ok_zt : mi_in zt) (ho : (zp < ((0 : Int)))) (kon : ∀ h1, me_W [] h h1 → ∃ Q1, me_E (d + 1) 125 0 (mi_entry 3 [.inr (.inr 106), .inr (.inl (Int64.ofNat 0))]) [] h1 Q1 ∧ ∀ w h2, (∀ x, w = some x → mi_ok x) → Q1 w h2 → me_E (d + 2) 144 15 [some (.inr (.inr 106)), some (.inl (zp)), some (.inl (zo)), some (.inl (zt)), none] (mi_back w []) h2 Q) : me_E (d + 2) 144 0 [some (.inr (.inr 106)), some (.inl (zp)), some (.inl (zo)), some (.inl (zt)), none] [] h Q := mf_seg (mp_kpgA_0 h d zp zo zt) (mi_tab_kpgA_0) hS (mi_okL_c (trivial) (mi_okL_c (ok_zp) (mi_okL_c (ok_zo) (mi_okL_c (ok_zt) (mi_okL_n (mi_okL_e)))))) (mi_okS_e) (mi_al (ho) (mi_al_e)) (fun h1 W _ hst => let ⟨_, k1, k2⟩ := kon h1 W; mf_call (M := (5, 4, sb_144)) (M' := (3, 4, sb_125)) rfl rfl rfl rfl (Nat.le_of_ble_eq_true rfl) (Nat.le_of_ble_eq_true rfl) W.1 k1 k2)
set_option maxRecDepth 20000 in
theorem mp_kpgA_1 (h : sm_H) (d : Nat) (zp zo zt : Int) : mj_path [(144, (5, 4, sb_144)), (16, (3, 0, sb_16)), (49, (2, 1, sb_49)), (72, (2, 2, sb_72))] sx_sk h 14 [0, 1] (d + 2, 144, 0, [some (.inr (.inr 106)), some (.inl (zp)), some (.inl (zo)), some (.inl (zt)), none], [], [], []) = some ((d + 2, 144, 12, [some (.inr (.inr 106)), some (.inl (zp)), some (.inl (zo)), some (.inl (zt)), none], [.inr (.inl (Int64.ofNat 0)), .inr (.inr 106)], [], []), [((0 : Int)) ≤ zp, ((60 : Int)) ≤ zp]) := rfl
theorem mi_tab_kpgA_1 : ∀ e ∈ ([(144, (5, 4, sb_144)), (16, (3, 0, sb_16)), (49, (2, 1, sb_49)), (72, (2, 2, sb_72))] : mi_T), sc_P e.1 = some e.2 := mi_tb mi_P144 (mi_tb mi_P16 (mi_tb mi_P49 (mi_tb mi_P72 (mi_tb_e))))
set_option maxRecDepth 20000 in
theorem ms_kpgA_1 {h : sm_H} {d : Nat} {Q : Option mi_V → sm_H → Prop} {zp zo zt : Int} (hS : ab_Sh sx_sk h) (ok_zp : mi_in zp) (ok_zo : mi_in zo) (ok_zt : mi_in zt) (ho : (((0 : Int)) ≤ zp) ∧ (((60 : Int)) ≤ zp)) (kon : ∀ h1, me_W [] h h1 → ∃ Q1, me_E (d + 1) 125 0 (mi_entry 3 [.inr (.inr 106), .inr (.inl (Int64.ofNat 0))]) [] h1 Q1 ∧ ∀ w h2, (∀ x, w = some x → mi_ok x) → Q1 w h2 → me_E (d + 2) 144 15 [some (.inr (.inr 106)), some (.inl (zp)), some (.inl (zo)), some (.inl (zt)), none] (mi_back w []) h2 Q) : me_E (d + 2) 144 0 [some (.inr (.inr 106)), some (.inl (zp)), some (.inl (zo)), some (.inl (zt)), none] [] h Q := mf_seg (mp_kpgA_1 h d zp zo zt) (mi_tab_kpgA_1) hS (mi_okL_c (trivial) (mi_okL_c (ok_zp) (mi_okL_c (ok_zo) (mi_okL_c (ok_zt) (mi_okL_n (mi_okL_e)))))) (mi_okS_e) (mi_al (ho.1) (mi_al (ho.2) (mi_al_e))) (fun h1 W _ hst => let ⟨_, k1, k2⟩ := kon h1 W; mf_call (M := (5, 4, sb_144)) (M' := (3, 4, sb_125)) rfl rfl rfl rfl (Nat.le_of_ble_eq_true rfl) (Nat.le_of_ble_eq_true rfl) W.1 k1 k2)
set_option maxRecDepth 20000 in
theorem mp_kpgA_2 (h : sm_H) (d : Nat) (zp zo zt : Int) : mj_path [(144, (5, 4, sb_144)), (16, (3, 0, sb_16)), (49, (2, 1, sb_49)), (72, (2, 2, sb_72))] sx_sk h 17 [0, 0] (d + 2, 144, 0, [some (.inr (.inr 106)), some (.inl (zp)), some (.inl (zo)), some (.inl (zt)), none], [], [], []) = some ((d + 2, 144, 12, [some (.inr (.inr 106)), some (.inl (zp)), some (.inl (zo)), some (.inl (zt)), none], [.inr (.inl (mx_b h 90 (Int.toNat zp))), .inr (.inr 106)], [], []), [((0 : Int)) ≤ zp, zp < ((60 : Int)), 0 ≤ zp ∧ zp < 60]) := rfl
theorem mi_tab_kpgA_2 : ∀ e ∈ ([(144, (5, 4, sb_144)), (16, (3, 0, sb_16)), (49, (2, 1, sb_49)), (72, (2, 2, sb_72))] : mi_T), sc_P e.1 = some e.2 := mi_tb mi_P144 (mi_tb mi_P16 (mi_tb mi_P49 (mi_tb mi_P72 (mi_tb_e))))
set_option maxRecDepth 20000 in
theorem ms_kpgA_2 {h : sm_H} {d : Nat} {Q : Option mi_V → sm_H → Prop} {zp zo zt : Int} (hS : ab_Sh sx_sk h) (ok_zp : mi_in zp) (ok_zo : mi_in zo) (ok_zt : mi_in zt) (ho : (((0 : Int)) ≤ zp) ∧ (zp < ((60 : Int))) ∧ (0 ≤ zp ∧ zp < 60)) (kon : ∀ h1, me_W [] h h1 → ∃ Q1, me_E (d + 1) 125 0 (mi_entry 3 [.inr (.inr 106), .inr (.inl (mx_b h 90 (Int.toNat zp)))]) [] h1 Q1 ∧ ∀ w h2, (∀ x, w = some x → mi_ok x) → Q1 w h2 → me_E (d + 2) 144 15 [some (.inr (.inr 106)), some (.inl (zp)), some (.inl (zo)), some (.inl (zt)), none] (mi_back w []) h2 Q) : me_E (d + 2) 144 0 [some (.inr (.inr 106)), some (.inl (zp)), some (.inl (zo)), some (.inl (zt)), none] [] h Q := mf_seg (mp_kpgA_2 h d zp zo zt) (mi_tab_kpgA_2) hS (mi_okL_c (trivial) (mi_okL_c (ok_zp) (mi_okL_c (ok_zo) (mi_okL_c (ok_zt) (mi_okL_n (mi_okL_e)))))) (mi_okS_e) (mi_al (ho.1) (mi_al (ho.2.1) (mi_al (ho.2.2) (mi_al_e)))) (fun h1 W _ hst => let ⟨_, k1, k2⟩ := kon h1 W; mf_call (M := (5, 4, sb_144)) (M' := (3, 4, sb_125)) rfl rfl rfl rfl (Nat.le_of_ble_eq_true rfl) (Nat.le_of_ble_eq_true rfl) W.1 k1 k2)
set_option maxRecDepth 20000 in
theorem mt_kpgA {h : sm_H} {d : Nat} {Q : Option mi_V → sm_H → Prop} {zp zo zt : Int} (hS : ab_Sh sx_sk h) (ok_zp : mi_in zp) (ok_zo : mi_in zo) (ok_zt : mi_in zt) (k0 : (zp < ((0 : Int))) → (∀ h1, ab_Sh sx_sk h1 → ab_Fr [] h h1 → ∃ Q1, me_E (d + 1) 125 0 (mi_entry 3 [.inr (.inr 106), .inr (.inl (Int64.ofNat 0))]) [] h1 Q1 ∧ ∀ w h2, (∀ x, w = some x → mi_ok x) → Q1 w h2 → me_E (d + 2) 144 15 [some (.inr (.inr 106)), some (.inl (zp)), some (.inl (zo)), some (.inl (zt)), none] (mi_back w []) h2 Q)) (k1 : (((0 : Int)) ≤ zp) → (((60 : Int)) ≤ zp) → (∀ h1, ab_Sh sx_sk h1 → ab_Fr [] h h1 → ∃ Q1, me_E (d + 1) 125 0 (mi_entry 3 [.inr (.inr 106), .inr (.inl (Int64.ofNat 0))]) [] h1 Q1 ∧ ∀ w h2, (∀ x, w = some x → mi_ok x) → Q1 w h2 → me_E (d + 2) 144 15 [some (.inr (.inr 106)), some (.inl (zp)), some (.inl (zo)), some (.inl (zt)), none] (mi_back w []) h2 Q)) (k2 : (((0 : Int)) ≤ zp) → (zp < ((60 : Int))) → ((0 ≤ zp ∧ zp < 60)) ∧ (∀ h1, ab_Sh sx_sk h1 → ab_Fr [] h h1 → ∃ Q1, me_E (d + 1) 125 0 (mi_entry 3 [.inr (.inr 106), .inr (.inl (mx_b h 90 (Int.toNat zp)))]) [] h1 Q1 ∧ ∀ w h2, (∀ x, w = some x → mi_ok x) → Q1 w h2 → me_E (d + 2) 144 15 [some (.inr (.inr 106)), some (.inl (zp)), some (.inl (zo)), some (.inl (zt)), none] (mi_back w []) h2 Q)) : me_E (d + 2) 144 0 [some (.inr (.inr 106)), some (.inl (zp)), some (.inl (zo)), some (.inl (zt)), none] [] h Q := Or.elim (mi_em .lt (zp) (((0 : Int)))) (fun c0 => ms_kpgA_0 hS ok_zp ok_zo ok_zt (c0) (fun h1 W => (k0 c0) h1 W.1 (W.2.2.2.2.2 _ rfl))) (fun c0 => Or.elim (mi_em .ge (zp) (((60 : Int)))) (fun c1 => ms_kpgA_1 hS ok_zp ok_zo ok_zt ⟨c0, c1⟩ (fun h1 W => (k1 c0 c1) h1 W.1 (W.2.2.2.2.2 _ rfl))) (fun c1 => ms_kpgA_2 hS ok_zp ok_zo ok_zt ⟨c0, c1, (k2 c0 c1).1⟩ (fun h1 W => (k2 c0 c1).2 h1 W.1 (W.2.2.2.2.2 _ rfl))))
set_option maxRecDepth 20000 in
theorem mp_kpgB_0 (h : sm_H) (d : Nat) (zp zo zt zz : Int) : mj_path [(144, (5, 4, sb_144)), (16, (3, 0, sb_16)), (49, (2, 1, sb_49)), (72, (2, 2, sb_72))] sx_sk h 4 [1] (d + 2, 144, 15, [some (.inr (.inr 106)), some (.inl (zp)), some (.inl (zo)), some (.inl (zt)), none], [.inl (zz)], [], []) = some ((d + 2, 144, 38, [some (.inr (.inr 106)), some (.inl (zp)), some (.inl (zo)), some (.inl (zt)), some (.inl (zz))], [.inl (zz)], [], []), [zz = ((0 : Int))]) := rfl
theorem mi_tab_kpgB_0 : ∀ e ∈ ([(144, (5, 4, sb_144)), (16, (3, 0, sb_16)), (49, (2, 1, sb_49)), (72, (2, 2, sb_72))] : mi_T), sc_P e.1 = some e.2 := mi_tb mi_P144 (mi_tb mi_P16 (mi_tb mi_P49 (mi_tb mi_P72 (mi_tb_e))))
set_option maxRecDepth 20000 in
theorem ms_kpgB_0 {h : sm_H} {d : Nat} {Q : Option mi_V → sm_H → Prop} {zp zo zt zz : Int} (hS : ab_Sh sx_sk h) (ok_zp : mi_in zp) (ok_zo : mi_in zo) (ok_zt : mi_in zt) (ok_zz : mi_in zz) (ho : (zz = ((0 : Int))) ∧ (zz = 0 ∨ zz = 1)) (kon : ∀ h1, me_W [] h h1 → Q (some (.inl (zz))) h1) : me_E (d + 2) 144 15 [some (.inr (.inr 106)), some (.inl (zp)), some (.inl (zo)), some (.inl (zt)), none] [.inl (zz)] h Q := mf_seg (mp_kpgB_0 h d zp zo zt zz) (mi_tab_kpgB_0) hS (mi_okL_c (trivial) (mi_okL_c (ok_zp) (mi_okL_c (ok_zo) (mi_okL_c (ok_zt) (mi_okL_n (mi_okL_e)))))) (mi_okS_cons (ok_zz) (mi_okS_e)) (mi_al (ho.1) (mi_al_e)) (fun h1 W _ hst => mf_ret (M := (5, 4, sb_144)) rfl rfl rfl hst (mi_al (ho.2) mi_al_e) (kon h1 W))
set_option maxRecDepth 20000 in
theorem mp_kpgB_1 (h : sm_H) (d : Nat) (zp zo zt zz : Int) : mj_path [(144, (5, 4, sb_144)), (16, (3, 0, sb_16)), (49, (2, 1, sb_49)), (72, (2, 2, sb_72))] sx_sk h 15 [0, 8, 1] (d + 2, 144, 15, [some (.inr (.inr 106)), some (.inl (zp)), some (.inl (zo)), some (.inl (zt)), none], [.inl (zz)], [], []) = some ((d + 2, 144, 38, [some (.inr (.inr 106)), some (.inl (zp)), some (.inl (zo)), some (.inl (zt)), some (.inl (zz))], [.inl (zz)], [], []), [zz ≠ ((0 : Int)), -2147483648 ≤ zt + ((1 : Int)) ∧ zt + ((1 : Int)) ≤ 2147483647, zo < ((0 : Int))]) := rfl
theorem mi_tab_kpgB_1 : ∀ e ∈ ([(144, (5, 4, sb_144)), (16, (3, 0, sb_16)), (49, (2, 1, sb_49)), (72, (2, 2, sb_72))] : mi_T), sc_P e.1 = some e.2 := mi_tb mi_P144 (mi_tb mi_P16 (mi_tb mi_P49 (mi_tb mi_P72 (mi_tb_e))))
set_option maxRecDepth 20000 in
theorem ms_kpgB_1 {h : sm_H} {d : Nat} {Q : Option mi_V → sm_H → Prop} {zp zo zt zz : Int} (hS : ab_Sh sx_sk h) (ok_zp : mi_in zp) (ok_zo : mi_in zo) (ok_zt : mi_in zt) (ok_zz : mi_in zz) (ho : (zz ≠ ((0 : Int))) ∧ (-2147483648 ≤ zt + ((1 : Int)) ∧ zt + ((1 : Int)) ≤ 2147483647) ∧ (zo < ((0 : Int))) ∧ (zz = 0 ∨ zz = 1)) (kon : ∀ h1, me_W [] h h1 → Q (some (.inl (zz))) h1) : me_E (d + 2) 144 15 [some (.inr (.inr 106)), some (.inl (zp)), some (.inl (zo)), some (.inl (zt)), none] [.inl (zz)] h Q := mf_seg (mp_kpgB_1 h d zp zo zt zz) (mi_tab_kpgB_1) hS (mi_okL_c (trivial) (mi_okL_c (ok_zp) (mi_okL_c (ok_zo) (mi_okL_c (ok_zt) (mi_okL_n (mi_okL_e)))))) (mi_okS_cons (ok_zz) (mi_okS_e)) (mi_al (ho.1) (mi_al (ho.2.1) (mi_al (ho.2.2.1) (mi_al_e)))) (fun h1 W _ hst => mf_ret (M := (5, 4, sb_144)) rfl rfl rfl hst (mi_al (ho.2.2.2) mi_al_e) (kon h1 W))
set_option maxRecDepth 20000 in
theorem mp_kpgB_2 (h : sm_H) (d : Nat) (zp zo zt zz : Int) : mj_path [(144, (5, 4, sb_144)), (16, (3, 0, sb_16)), (49, (2, 1, sb_49)), (72, (2, 2, sb_72))] sx_sk h 19 [0, 8, 0, 1] (d + 2, 144, 15, [some (.inr (.inr 106)), some (.inl (zp)), some (.inl (zo)), some (.inl (zt)), none], [.inl (zz)], [], []) = some ((d + 2, 144, 38, [some (.inr (.inr 106)), some (.inl (zp)), some (.inl (zo)), some (.inl (zt)), some (.inl (zz))], [.inl (zz)], [], []), [zz ≠ ((0 : Int)), -2147483648 ≤ zt + ((1 : Int)) ∧ zt + ((1 : Int)) ≤ 2147483647, ((0 : Int)) ≤ zo, ((100 : Int)) ≤ zo]) := rfl
theorem mi_tab_kpgB_2 : ∀ e ∈ ([(144, (5, 4, sb_144)), (16, (3, 0, sb_16)), (49, (2, 1, sb_49)), (72, (2, 2, sb_72))] : mi_T), sc_P e.1 = some e.2 := mi_tb mi_P144 (mi_tb mi_P16 (mi_tb mi_P49 (mi_tb mi_P72 (mi_tb_e))))
set_option maxRecDepth 20000 in
theorem ms_kpgB_2 {h : sm_H} {d : Nat} {Q : Option mi_V → sm_H → Prop} {zp zo zt zz : Int} (hS : ab_Sh sx_sk h) (ok_zp : mi_in zp) (ok_zo : mi_in zo) (ok_zt : mi_in zt) (ok_zz : mi_in zz) (ho : (zz ≠ ((0 : Int))) ∧ (-2147483648 ≤ zt + ((1 : Int)) ∧ zt + ((1 : Int)) ≤ 2147483647) ∧ (((0 : Int)) ≤ zo) ∧ (((100 : Int)) ≤ zo) ∧ (zz = 0 ∨ zz = 1)) (kon : ∀ h1, me_W [] h h1 → Q (some (.inl (zz))) h1) : me_E (d + 2) 144 15 [some (.inr (.inr 106)), some (.inl (zp)), some (.inl (zo)), some (.inl (zt)), none] [.inl (zz)] h Q := mf_seg (mp_kpgB_2 h d zp zo zt zz) (mi_tab_kpgB_2) hS (mi_okL_c (trivial) (mi_okL_c (ok_zp) (mi_okL_c (ok_zo) (mi_okL_c (ok_zt) (mi_okL_n (mi_okL_e)))))) (mi_okS_cons (ok_zz) (mi_okS_e)) (mi_al (ho.1) (mi_al (ho.2.1) (mi_al (ho.2.2.1) (mi_al (ho.2.2.2.1) (mi_al_e))))) (fun h1 W _ hst => mf_ret (M := (5, 4, sb_144)) rfl rfl rfl hst (mi_al (ho.2.2.2.2) mi_al_e) (kon h1 W))
set_option maxRecDepth 20000 in
theorem mp_kpgB_3 (h : sm_H) (d : Nat) (zp zo zt zz : Int) : mj_path [(144, (5, 4, sb_144)), (16, (3, 0, sb_16)), (49, (2, 1, sb_49)), (72, (2, 2, sb_72))] sx_sk h 23 [0, 8, 0, 0] (d + 2, 144, 15, [some (.inr (.inr 106)), some (.inl (zp)), some (.inl (zo)), some (.inl (zt)), none], [.inl (zz)], [], []) = some ((d + 2, 144, 38, [some (.inr (.inr 106)), some (.inl (zp)), some (.inl (zo)), some (.inl (zt)), some (.inl (zz))], [.inl (zz)], [.inr (.inr (.inl (104, Int.toNat zo, zt + ((1 : Int)))))], []), [zz ≠ ((0 : Int)), -2147483648 ≤ zt + ((1 : Int)) ∧ zt + ((1 : Int)) ≤ 2147483647, ((0 : Int)) ≤ zo, zo < ((100 : Int)), 0 ≤ zo ∧ zo < 100]) := rfl
theorem mi_tab_kpgB_3 : ∀ e ∈ ([(144, (5, 4, sb_144)), (16, (3, 0, sb_16)), (49, (2, 1, sb_49)), (72, (2, 2, sb_72))] : mi_T), sc_P e.1 = some e.2 := mi_tb mi_P144 (mi_tb mi_P16 (mi_tb mi_P49 (mi_tb mi_P72 (mi_tb_e))))
set_option maxRecDepth 20000 in
theorem ms_kpgB_3 {h : sm_H} {d : Nat} {Q : Option mi_V → sm_H → Prop} {zp zo zt zz : Int} (hS : ab_Sh sx_sk h) (ok_zp : mi_in zp) (ok_zo : mi_in zo) (ok_zt : mi_in zt) (ok_zz : mi_in zz) (ho : (zz ≠ ((0 : Int))) ∧ (-2147483648 ≤ zt + ((1 : Int)) ∧ zt + ((1 : Int)) ≤ 2147483647) ∧ (((0 : Int)) ≤ zo) ∧ (zo < ((100 : Int))) ∧ (0 ≤ zo ∧ zo < 100) ∧ (zz = 0 ∨ zz = 1)) (kon : ∀ h1, me_W [.inr (.inr (.inl (104, Int.toNat zo, zt + ((1 : Int)))))] h h1 → Q (some (.inl (zz))) h1) : me_E (d + 2) 144 15 [some (.inr (.inr 106)), some (.inl (zp)), some (.inl (zo)), some (.inl (zt)), none] [.inl (zz)] h Q := mf_seg (mp_kpgB_3 h d zp zo zt zz) (mi_tab_kpgB_3) hS (mi_okL_c (trivial) (mi_okL_c (ok_zp) (mi_okL_c (ok_zo) (mi_okL_c (ok_zt) (mi_okL_n (mi_okL_e)))))) (mi_okS_cons (ok_zz) (mi_okS_e)) (mi_al (ho.1) (mi_al (ho.2.1) (mi_al (ho.2.2.1) (mi_al (ho.2.2.2.1) (mi_al (ho.2.2.2.2.1) (mi_al_e)))))) (fun h1 W _ hst => mf_ret (M := (5, 4, sb_144)) rfl rfl rfl hst (mi_al (ho.2.2.2.2.2) mi_al_e) (kon h1 W))
set_option maxRecDepth 20000 in
theorem mt_kpgB {h : sm_H} {d : Nat} {Q : Option mi_V → sm_H → Prop} {zp zo zt zz : Int} (hS : ab_Sh sx_sk h) (ok_zp : mi_in zp) (ok_zo : mi_in zo) (ok_zt : mi_in zt) (ok_zz : mi_in zz) (k0 : (zz = ((0 : Int))) → ((zz = 0 ∨ zz = 1)) ∧ (∀ h1, ab_Sh sx_sk h1 → ab_Fr [] h h1 → Q (some (.inl (zz))) h1)) (k1 : (zz ≠ ((0 : Int))) → (zo < ((0 : Int))) → ((-2147483648 ≤ zt + ((1 : Int)) ∧ zt + ((1 : Int)) ≤ 2147483647) ∧ (zz = 0 ∨ zz = 1)) ∧ (∀ h1, ab_Sh sx_sk h1 → ab_Fr [] h h1 → Q (some (.inl (zz))) h1)) (k2 : (zz ≠ ((0 : Int))) → (((0 : Int)) ≤ zo) → (((100 : Int)) ≤ zo) → ((-2147483648 ≤ zt + ((1 : Int)) ∧ zt + ((1 : Int)) ≤ 2147483647) ∧ (zz = 0 ∨ zz = 1)) ∧ (∀ h1, ab_Sh sx_sk h1 → ab_Fr [] h h1 → Q (some (.inl (zz))) h1)) (k3 : (zz ≠ ((0 : Int))) → (((0 : Int)) ≤ zo) → (zo < ((100 : Int))) → ((-2147483648 ≤ zt + ((1 : Int)) ∧ zt + ((1 : Int)) ≤ 2147483647) ∧ (0 ≤ zo ∧ zo < 100) ∧ (zz = 0 ∨ zz = 1)) ∧ (∀ h1, ab_Sh sx_sk h1 → (∀ i, mi_a h1 104 i = if i = Int.toNat zo then zt + ((1 : Int)) else (mi_a h 104 i)) → ab_Fr [(13312, 13313)] h h1 → Q (some (.inl (zz))) h1)) : me_E (d + 2) 144 15 [some (.inr (.inr 106)), some (.inl (zp)), some (.inl (zo)), some (.inl (zt)), none] [.inl (zz)] h Q := Or.elim (mi_em .eq (zz) (((0 : Int)))) (fun c0 => ms_kpgB_0 hS ok_zp ok_zo ok_zt ok_zz ⟨c0, (k0 c0).1⟩ (fun h1 W => (k0 c0).2 h1 W.1 (W.2.2.2.2.2 _ rfl))) (fun c0 => Or.elim (mi_em .lt (zo) (((0 : Int)))) (fun c1 => ms_kpgB_1 hS ok_zp ok_zo ok_zt ok_zz ⟨c0, (k1 c0 c1).1.1, c1, (k1 c0 c1).1.2⟩ (fun h1 W => (k1 c0 c1).2 h1 W.1 (W.2.2.2.2.2 _ rfl))) (fun c1 => Or.elim (mi_em .ge (zo) (((100 : Int)))) (fun c2 => ms_kpgB_2 hS ok_zp ok_zo ok_zt ok_zz ⟨c0, (k2 c0 c1 c2).1.1, c1, c2, (k2 c0 c1 c2).1.2⟩ (fun h1 W => (k2 c0 c1 c2).2 h1 W.1 (W.2.2.2.2.2 _ rfl))) (fun c2 => ms_kpgB_3 hS ok_zp ok_zo ok_zt ok_zz ⟨c0, (k3 c0 c1 c2).1.1, c1, c2, (k3 c0 c1 c2).1.2.1, (k3 c0 c1 c2).1.2.2⟩ (fun h1 W => (k3 c0 c1 c2).2 h1 W.1 (fun i => W.2.2.1 104 i) (W.2.2.2.2.2 _ rfl)))))
/-! segments of the class: Parsing.leaf -/
set_option maxRecDepth 20000 in
theorem mp_kpfA_0 (h : sm_H) (d : Nat) (zp : Int) : mj_path [(135, (4, 0, sb_135)), (16, (3, 0, sb_16)), (49, (2, 1, sb_49)), (72, (2, 2, sb_72))] sx_sk h 14 [1, 1] (d + 12, 135, 0, [some (.inr (.inr 106)), some (.inl (zp)), none, none], [], [], []) = some ((d + 12, 135, 19, [some (.inr (.inr 106)), some (.inl (zp)), some (.inr (.inl (Int64.ofNat 0))), none], [], [], []), [zp < ((0 : Int)), ((lg_cmp (Int64.ofNat 0) (Int64.ofNat 0)).toInt) ≠ ((0 : Int))]) := rfl
theorem mi_tab_kpfA_0 : ∀ e ∈ ([(135, (4, 0, sb_135)), (16, (3, 0, sb_16)), (49, (2, 1, sb_49)), (72, (2, 2, sb_72))] : mi_T), sc_P e.1 = some e.2 := mi_tb mi_P135 (mi_tb mi_P16 (mi_tb mi_P49 (mi_tb mi_P72 (mi_tb_e))))
set_option maxRecDepth 20000 in
theorem ms_kpfA_0 {h : sm_H} {d : Nat} {Q : Option mi_V → sm_H → Prop} {zp : Int} (hS : ab_Sh sx_sk h) (ok_zp : mi_in zp) (ho : (zp < ((0 : Int))) ∧ (((lg_cmp (Int64.ofNat 0) (Int64.ofNat 0)).toInt) ≠ ((0 : Int)))) (kon : ∀ h1, me_W [] h h1 → me_E (d + 12) 135 19 [some (.inr (.inr 106)), some (.inl (zp)), some (.inr (.inl (Int64.ofNat 0))), none] [] h1 Q) : me_E (d + 12) 135 0 [some (.inr (.inr 106)), some (.inl (zp)), none, none] [] h Q := mf_seg (mp_kpfA_0 h d zp) (mi_tab_kpfA_0) hS (mi_okL_c (trivial) (mi_okL_c (ok_zp) (mi_okL_n (mi_okL_n (mi_okL_e))))) (mi_okS_e) (mi_al (ho.1) (mi_al (ho.2) (mi_al_e))) (fun h1 W _ hst => kon h1 W)
set_option maxRecDepth 20000 in
theorem mp_kpfA_1 (h : sm_H) (d : Nat) (zp : Int) : mj_path [(135, (4, 0, sb_135)), (16, (3, 0, sb_16)), (49, (2, 1, sb_49)), (72, (2, 2, sb_72))] sx_sk h 14 [1, 0] (d + 12, 135, 0, [some (.inr (.inr 106)), some (.inl (zp)), none, none], [], [], []) = some ((d + 12, 135, 18, [some (.inr (.inr 106)), some (.inl (zp)), some (.inr (.inl (Int64.ofNat 0))), none], [], [], []), [zp < ((0 : Int)), ((lg_cmp (Int64.ofNat 0) (Int64.ofNat 0)).toInt) = ((0 : Int))]) := rfl
theorem mi_tab_kpfA_1 : ∀ e ∈ ([(135, (4, 0, sb_135)), (16, (3, 0, sb_16)), (49, (2, 1, sb_49)), (72, (2, 2, sb_72))] : mi_T), sc_P e.1 = some e.2 := mi_tb mi_P135 (mi_tb mi_P16 (mi_tb mi_P49 (mi_tb mi_P72 (mi_tb_e))))
set_option maxRecDepth 20000 in
theorem ms_kpfA_1 {h : sm_H} {d : Nat} {Q : Option mi_V → sm_H → Prop} {zp : Int} (hS : ab_Sh sx_sk h) (ok_zp : mi_in zp) (ho : (zp < ((0 : Int))) ∧ (((lg_cmp (Int64.ofNat 0) (Int64.ofNat 0)).toInt) = ((0 : Int)))) (kon : ∀ h1, me_W [] h h1 → Q none h1) : me_E (d + 12) 135 0 [some (.inr (.inr 106)), some (.inl (zp)), none, none] [] h Q := mf_seg (mp_kpfA_1 h d zp) (mi_tab_kpfA_1) hS (mi_okL_c (trivial) (mi_okL_c (ok_zp) (mi_okL_n (mi_okL_n (mi_okL_e))))) (mi_okS_e) (mi_al (ho.1) (mi_al (ho.2) (mi_al_e))) (fun h1 W _ hst => mf_ret (M := (4, 0, sb_135)) rfl rfl rfl hst (mi_al_e) (kon h1 W))
set_option maxRecDepth 20000 in
theorem mp_kpfA_2 (h : sm_H) (d : Nat) (zp : Int) : mj_path [(135, (4, 0, sb_135)), (16, (3, 0, sb_16)), (49, (2, 1, sb_49)), (72, (2, 2, sb_72))] sx_sk h 18 [0, 1, 1] (d + 12, 135, 0, [some (.inr (.inr 106)), some (.inl (zp)), none, none], [], [], []) = some ((d + 12, 135, 19, [some (.inr (.inr 106)), some (.inl (zp)), some (.inr (.inl (Int64.ofNat 0))), none], [], [], []), [((0 : Int)) ≤ zp, ((60 : Int)) ≤ zp, ((lg_cmp (Int64.ofNat 0) (Int64.ofNat 0)).toInt) ≠ ((0 : Int))]) := rfl
theorem mi_tab_kpfA_2 : ∀ e ∈ ([(135, (4, 0, sb_135)), (16, (3, 0, sb_16)), (49, (2, 1, sb_49)), (72, (2, 2, sb_72))] : mi_T), sc_P e.1 = some e.2 := mi_tb mi_P135 (mi_tb mi_P16 (mi_tb mi_P49 (mi_tb mi_P72 (mi_tb_e))))
set_option maxRecDepth 20000 in
theorem ms_kpfA_2 {h : sm_H} {d : Nat} {Q : Option mi_V → sm_H → Prop} {zp : Int} (hS : ab_Sh sx_sk h) (ok_zp : mi_in zp) (ho : (((0 : Int)) ≤ zp) ∧ (((60 : Int)) ≤ zp) ∧ (((lg_cmp (Int64.ofNat 0) (Int64.ofNat 0)).toInt) ≠ ((0 : Int)))) (kon : ∀ h1, me_W [] h h1 → me_E (d + 12) 135 19 [some (.inr (.inr 106)), some (.inl (zp)), some (.inr (.inl (Int64.ofNat 0))), none] [] h1 Q) : me_E (d + 12) 135 0 [some (.inr (.inr 106)), some (.inl (zp)), none, none] [] h Q := mf_seg (mp_kpfA_2 h d zp) (mi_tab_kpfA_2) hS (mi_okL_c (trivial) (mi_okL_c (ok_zp) (mi_okL_n (mi_okL_n (mi_okL_e))))) (mi_okS_e) (mi_al (ho.1) (mi_al (ho.2.1) (mi_al (ho.2.2) (mi_al_e)))) (fun h1 W _ hst => kon h1 W)
set_option maxRecDepth 20000 in
theorem mp_kpfA_3 (h : sm_H) (d : Nat) (zp : Int) : mj_path [(135, (4, 0, sb_135)), (16, (3, 0, sb_16)), (49, (2, 1, sb_49)), (72, (2, 2, sb_72))] sx_sk h 18 [0, 1, 0] (d + 12, 135, 0, [some (.inr (.inr 106)), some (.inl (zp)), none, none], [], [], []) = some ((d + 12, 135, 18, [some (.inr (.inr 106)), some (.inl (zp)), some (.inr (.inl (Int64.ofNat 0))), none], [], [], []), [((0 : Int)) ≤ zp, ((60 : Int)) ≤ zp, ((lg_cmp (Int64.ofNat 0) (Int64.ofNat 0)).toInt) = ((0 : Int))]) := rfl
theorem mi_tab_kpfA_3 : ∀ e ∈ ([(135, (4, 0, sb_135)), (16, (3, 0, sb_16)), (49, (2, 1, sb_49)), (72, (2, 2, sb_72))] : mi_T), sc_P e.1 = some e.2 := mi_tb mi_P135 (mi_tb mi_P16 (mi_tb mi_P49 (mi_tb mi_P72 (mi_tb_e))))
set_option maxRecDepth 20000 in
theorem ms_kpfA_3 {h : sm_H} {d : Nat} {Q : Option mi_V → sm_H → Prop} {zp : Int} (hS : ab_Sh sx_sk h) (ok_zp : mi_in zp) (ho : (((0 : Int)) ≤ zp) ∧ (((60 : Int)) ≤ zp) ∧ (((lg_cmp (Int64.ofNat 0) (Int64.ofNat 0)).toInt) = ((0 : Int)))) (kon : ∀ h1, me_W [] h h1 → Q none h1) : me_E (d + 12) 135 0 [some (.inr (.inr 106)), some (.inl (zp)), none, none] [] h Q := mf_seg (mp_kpfA_3 h d zp) (mi_tab_kpfA_3) hS (mi_okL_c (trivial) (mi_okL_c (ok_zp) (mi_okL_n (mi_okL_n (mi_okL_e))))) (mi_okS_e) (mi_al (ho.1) (mi_al (ho.2.1) (mi_al (ho.2.2) (mi_al_e)))) (fun h1 W _ hst => mf_ret (M := (4, 0, sb_135)) rfl rfl rfl hst (mi_al_e) (kon h1 W))
set_option maxRecDepth 20000 in
theorem mp_kpfA_4 (h : sm_H) (d : Nat) (zp : Int) : mj_path [(135, (4, 0, sb_135)), (16, (3, 0, sb_16)), (49, (2, 1, sb_49)), (72, (2, 2, sb_72))] sx_sk h 21 [0, 0, 1] (d + 12, 135, 0, [some (.inr (.inr 106)), some (.inl (zp)), none, none], [], [], []) = some ((d + 12, 135, 19, [some (.inr (.inr 106)), some (.inl (zp)), some (.inr (.inl (mx_b h 90 (Int.toNat zp)))), none], [], [], []), [((0 : Int)) ≤ zp, zp < ((60 : Int)), 0 ≤ zp ∧ zp < 60, ((lg_cmp (mx_b h 90 (Int.toNat zp)) (Int64.ofNat 0)).toInt) ≠ ((0 : Int))]) := rfl
theorem mi_tab_kpfA_4 : ∀ e ∈ ([(135, (4, 0, sb_135)), (16, (3, 0, sb_16)), (49, (2, 1, sb_49)), (72, (2, 2, sb_72))] : mi_T), sc_P e.1 = some e.2 := mi_tb mi_P135 (mi_tb mi_P16 (mi_tb mi_P49 (mi_tb mi_P72 (mi_tb_e))))
set_option maxRecDepth 20000 in
theorem ms_kpfA_4 {h : sm_H} {d : Nat} {Q : Option mi_V → sm_H → Prop} {zp : Int} (hS : ab_Sh sx_sk h) (ok_zp : mi_in zp) (ho : (((0 : Int)) ≤ zp) ∧ (zp < ((60 : Int))) ∧ (0 ≤ zp ∧ zp < 60) ∧ (((lg_cmp (mx_b h 90 (Int.toNat zp)) (Int64.ofNat 0)).toInt) ≠ ((0 : Int)))) (kon : ∀ h1, me_W [] h h1 → me_E (d + 12) 135 19 [some (.inr (.inr 106)), some (.inl (zp)), some (.inr (.inl (mx_b h 90 (Int.toNat zp)))), none] [] h1 Q) : me_E (d + 12) 135 0 [some (.inr (.inr 106)), some (.inl (zp)), none, none] [] h Q := mf_seg (mp_kpfA_4 h d zp) (mi_tab_kpfA_4) hS (mi_okL_c (trivial) (mi_okL_c (ok_zp) (mi_okL_n (mi_okL_n (mi_okL_e))))) (mi_okS_e) (mi_al (ho.1) (mi_al (ho.2.1) (mi_al (ho.2.2.1) (mi_al (ho.2.2.2) (mi_al_e))))) (fun h1 W _ hst => kon h1 W)
set_option maxRecDepth 20000 in
theorem mp_kpfA_5 (h : sm_H) (d : Nat) (zp : Int) : mj_path [(135, (4, 0, sb_135)), (16, (3, 0, sb_16)), (49, (2, 1, sb_49)), (72, (2, 2, sb_72))] sx_sk h 21 [0, 0, 0] (d + 12, 135, 0, [some (.inr (.inr 106)), some (.inl (zp)), none, none], [], [], []) = some ((d + 12, 135, 18, [some (.inr (.inr 106)), some (.inl (zp)), some (.inr (.inl (mx_b h 90 (Int.toNat zp)))), none], [], [], []), [((0 : Int)) ≤ zp, zp < ((60 : Int)), 0 ≤ zp ∧ zp < 60, ((lg_cmp (mx_b h 90 (Int.toNat zp)) (Int64.ofNat 0)).toInt) = ((0 : Int))]) := rfl
theorem mi_tab_kpfA_5 : ∀ e ∈ ([(135, (4, 0, sb_135)), (16, (3, 0, sb_16)), (49, (2, 1, sb_49)), (72, (2, 2, sb_72))] : mi_T), sc_P e.1 = some e.2 := mi_tb mi_P135 (mi_tb mi_P16 (mi_tb mi_P49 (mi_tb mi_P72 (mi_tb_e))))
set_option maxRecDepth 20000 in
theorem ms_kpfA_5 {h : sm_H} {d : Nat} {Q : Option mi_V → sm_H → Prop} {zp : Int} (hS : ab_Sh sx_sk h) (ok_zp : mi_in zp) (ho : (((0 : Int)) ≤ zp) ∧ (zp < ((60 : Int))) ∧ (0 ≤ zp ∧ zp < 60) ∧ (((lg_cmp (mx_b h 90 (Int.toNat zp)) (Int64.ofNat 0)).toInt) = ((0 : Int)))) (kon : ∀ h1, me_W [] h h1 → Q none h1) : me_E (d + 12) 135 0 [some (.inr (.inr 106)), some (.inl (zp)), none, none] [] h Q := mf_seg (mp_kpfA_5 h d zp) (mi_tab_kpfA_5) hS (mi_okL_c (trivial) (mi_okL_c (ok_zp) (mi_okL_n (mi_okL_n (mi_okL_e))))) (mi_okS_e) (mi_al (ho.1) (mi_al (ho.2.1) (mi_al (ho.2.2.1) (mi_al (ho.2.2.2) (mi_al_e))))) (fun h1 W _ hst => mf_ret (M := (4, 0, sb_135)) rfl rfl rfl hst (mi_al_e) (kon h1 W))
set_option maxRecDepth 20000 in
theorem mt_kpfA {h : sm_H} {d : Nat} {Q : Option mi_V → sm_H → Prop} {zp : Int} (hS : ab_Sh sx_sk h) (ok_zp : mi_in zp) (k0 : (zp < ((0 : Int))) → (((lg_cmp (Int64.ofNat 0) (Int64.ofNat 0)).toInt) ≠ ((0 : Int))) → (∀ h1, ab_Sh sx_sk h1 → ab_Fr [] h h1 → me_E (d + 12) 135 19 [some (.inr (.inr 106)), some (.inl (zp)), some (.inr (.inl (Int64.ofNat 0))), none] [] h1 Q)) (k1 : (zp < ((0 : Int))) → (((lg_cmp (Int64.ofNat 0) (Int64.ofNat 0)).toInt) = ((0 : Int))) → (∀ h1, ab_Sh sx_sk h1 → ab_Fr [] h h1 → Q none h1)) (k2 : (((0 : Int)) ≤ zp) → (((60 : Int)) ≤ zp) → (((lg_cmp (Int64.ofNat 0) (Int64.ofNat 0)).toInt) ≠ ((0 : Int))) → (∀ h1, ab_Sh sx_sk h1 → ab_Fr [] h h1 → me_E (d + 12) 135 19 [some (.inr (.inr 106)), some (.inl (zp)), some (.inr (.inl (Int64.ofNat 0))), none] [] h1 Q)) (k3 : (((0 : Int)) ≤ zp) → (((60 : Int)) ≤ zp) → (((lg_cmp (Int64.ofNat 0) (Int64.ofNat 0)).toInt) = ((0 : Int))) → (∀ h1, ab_Sh sx_sk h1 → ab_Fr [] h h1 → Q none h1)) (k4 : (((0 : Int)) ≤ zp) → (zp < ((60 : Int))) → (((lg_cmp (mx_b h 90 (Int.toNat zp)) (Int64.ofNat 0)).toInt) ≠ ((0 : Int))) → ((0 ≤ zp ∧ zp < 60)) ∧ (∀ h1, ab_Sh sx_sk h1 → ab_Fr [] h h1 → me_E (d + 12) 135 19 [some (.inr (.inr 106)), some (.inl (zp)), some (.inr (.inl (mx_b h 90 (Int.toNat zp)))), none] [] h1 Q)) (k5 : (((0 : Int)) ≤ zp) → (zp < ((60 : Int))) → (((lg_cmp (mx_b h 90 (Int.toNat zp)) (Int64.ofNat 0)).toInt) = ((0 : Int))) → ((0 ≤ zp ∧ zp < 60)) ∧ (∀ h1, ab_Sh sx_sk h1 → ab_Fr [] h h1 → Q none h1)) : me_E (d + 12) 135 0 [some (.inr (.inr 106)), some (.inl (zp)), none, none] [] h Q := Or.elim (mi_em .lt (zp) (((0 : Int)))) (fun c0 => Or.elim (mi_em .ne (((lg_cmp (Int64.ofNat 0) (Int64.ofNat 0)).toInt)) (((0 : Int)))) (fun c1 => ms_kpfA_0 hS ok_zp ⟨c0, c1⟩ (fun h1 W => (k0 c0 c1) h1 W.1 (W.2.2.2.2.2 _ rfl))) (fun c1 => ms_kpfA_1 hS ok_zp ⟨c0, c1⟩ (fun h1 W => (k1 c0 c1) h1 W.1 (W.2.2.2.2.2 _ rfl)))) (fun c0 => Or.elim (mi_em .ge (zp) (((60 : Int)))) (fun c1 => Or.elim (mi_em .ne (((lg_cmp (Int64.ofNat 0) (Int64.ofNat 0)).toInt)) (((0 : Int)))) (fun c2 => ms_kpfA_2 hS ok_zp ⟨c0, c1, c2⟩ (fun h1 W => (k2 c0 c1 c2) h1 W.1 (W.2.2.2.2.2 _ rfl))) (fun c2 => ms_kpfA_3 hS ok_zp ⟨c0, c1, c2⟩ (fun h1 W => (k3 c0 c1 c2) h1 W.1 (W.2.2.2.2.2 _ rfl)))) (fun c1 => Or.elim (mi_em .ne (((lg_cmp (mx_b h 90 (Int.toNat zp)) (Int64.ofNat 0)).toInt)) (((0 : Int)))) (fun c2 => ms_kpfA_4 hS ok_zp ⟨c0, c1, (k4 c0 c1 c2).1, c2⟩ (fun h1 W => (k4 c0 c1 c2).2 h1 W.1 (W.2.2.2.2.2 _ rfl))) (fun c2 => ms_kpfA_5 hS ok_zp ⟨c0, c1, (k5 c0 c1 c2).1, c2⟩ (fun h1 W => (k5 c0 c1 c2).2 h1 W.1 (W.2.2.2.2.2 _ rfl)))))
set_option maxRecDepth 20000 in
theorem mp_kpfB_0 (h : sm_H) (d : Nat) (zp : Int) (zw : Int64) : mj_path [(135, (4, 0, sb_135))] sx_sk h 2 [] (d + 12, 135, 19, [some (.inr (.inr 106)), some (.inl (zp)), some (.inr (.inl (zw))), none], [], [], []) = some ((d + 12, 135, 21, [some (.inr (.inr 106)), some (.inl (zp)), some (.inr (.inl (zw))), none], [.inr (.inl (zw)), .inr (.inr 106)], [], []), []) := rfl
theorem mi_tab_kpfB_0 : ∀ e ∈ ([(135, (4, 0, sb_135))] : mi_T), sc_P e.1 = some e.2 := mi_tb mi_P135 (mi_tb_e)
set_option maxRecDepth 20000 in
theorem ms_kpfB_0 {h : sm_H} {d : Nat} {Q : Option mi_V → sm_H → Prop} {zp : Int} {zw : Int64} (hS : ab_Sh sx_sk h) (ok_zp : mi_in zp) (kon : ∀ h1, me_W [] h h1 → ∃ Q1, me_E (d + 11) 125 0 (mi_entry 3 [.inr (.inr 106), .inr (.inl (zw))]) [] h1 Q1 ∧ ∀ w h2, (∀ x, w = some x → mi_ok x) → Q1 w h2 → me_E (d + 12) 135 24 [some (.inr (.inr 106)), some (.inl (zp)), some (.inr (.inl (zw))), none] (mi_back w []) h2 Q) : me_E (d + 12) 135 19 [some (.inr (.inr 106)), some (.inl (zp)), some (.inr (.inl (zw))), none] [] h Q := mf_seg (mp_kpfB_0 h d zp zw) (mi_tab_kpfB_0) hS (mi_okL_c (trivial) (mi_okL_c (ok_zp) (mi_okL_c (trivial) (mi_okL_n (mi_okL_e))))) (mi_okS_e) (mi_al_e) (fun h1 W _ hst => let ⟨_, k1, k2⟩ := kon h1 W; mf_call (M := (4, 0, sb_135)) (M' := (3, 4, sb_125)) rfl rfl rfl rfl (Nat.le_of_ble_eq_true rfl) (Nat.le_of_ble_eq_true rfl) W.1 k1 k2)
set_option maxRecDepth 20000 in
theorem mt_kpfB {h : sm_H} {d : Nat} {Q : Option mi_V → sm_H → Prop} {zp : Int} {zw : Int64} (hS : ab_Sh sx_sk h) (ok_zp : mi_in zp) (k0 : (∀ h1, ab_Sh sx_sk h1 → ab_Fr [] h h1 → ∃ Q1, me_E (d + 11) 125 0 (mi_entry 3 [.inr (.inr 106), .inr (.inl (zw))]) [] h1 Q1 ∧ ∀ w h2, (∀ x, w = some x → mi_ok x) → Q1 w h2 → me_E (d + 12) 135 24 [some (.inr (.inr 106)), some (.inl (zp)), some (.inr (.inl (zw))), none] (mi_back w []) h2 Q)) : me_E (d + 12) 135 19 [some (.inr (.inr 106)), some (.inl (zp)), some (.inr (.inl (zw))), none] [] h Q := ms_kpfB_0 hS ok_zp (fun h1 W => (k0) h1 W.1 (W.2.2.2.2.2 _ rfl))
set_option maxRecDepth 20000 in
theorem mp_kpfB2_0 (h : sm_H) (d : Nat) (zp zz : Int) (zw : Int64) : mj_path [(135, (4, 0, sb_135)), (111, (1, 0, sb_111))] sx_sk h 1 [1] (d + 12, 135, 24, [some (.inr (.inr 106)), some (.inl (zp)), some (.inr (.inl (zw))), none], [.inl (zz)], [], []) = some ((d + 12, 135, 32, [some (.inr (.inr 106)), some (.inl (zp)), some (.inr (.inl (zw))), none], [], [], []), [zz ≠ ((0 : Int))]) := rfl
theorem mi_tab_kpfB2_0 : ∀ e ∈ ([(135, (4, 0, sb_135)), (111, (1, 0, sb_111))] : mi_T), sc_P e.1 = some e.2 := mi_tb mi_P135 (mi_tb mi_P111 (mi_tb_e))
set_option maxRecDepth 20000 in
theorem ms_kpfB2_0 {h : sm_H} {d : Nat} {Q : Option mi_V → sm_H → Prop} {zp zz : Int} {zw : Int64} (hS : ab_Sh sx_sk h) (ok_zp : mi_in zp) (ok_zz : mi_in zz) (ho : (zz ≠ ((0 : Int)))) (kon : ∀ h1, me_W [] h h1 → me_E (d + 12) 135 32 [some (.inr (.inr 106)), some (.inl (zp)), some (.inr (.inl (zw))), none] [] h1 Q) : me_E (d + 12) 135 24 [some (.inr (.inr 106)), some (.inl (zp)), some (.inr (.inl (zw))), none] [.inl (zz)] h Q := mf_seg (mp_kpfB2_0 h d zp zz zw) (mi_tab_kpfB2_0) hS (mi_okL_c (trivial) (mi_okL_c (ok_zp) (mi_okL_c (trivial) (mi_okL_n (mi_okL_e))))) (mi_okS_cons (ok_zz) (mi_okS_e)) (mi_al (ho) (mi_al_e)) (fun h1 W _ hst => kon h1 W)
set_option maxRecDepth 20000 in
theorem mp_kpfB2_1 (h : sm_H) (d : Nat) (zp zz : Int) (zw : Int64) : mj_path [(135, (4, 0, sb_135)), (111, (1, 0, sb_111))] sx_sk h 11 [0] (d + 12, 135, 24, [some (.inr (.inr 106)), some (.inl (zp)), some (.inr (.inl (zw))), none], [.inl (zz)], [], []) = some ((d + 12, 135, 31, [some (.inr (.inr 106)), some (.inl (zp)), some (.inr (.inl (zw))), none], [], [.inl (13571, (1 : Int)), .inl (13579, mi_f h 13576)], []), [zz = ((0 : Int)), 0 ≤ ((1 : Int)) ∧ ((1 : Int)) ≤ 1, 0 ≤ ((1 : Int)) ∧ ((1 : Int)) ≤ 1]) := rfl
theorem mi_tab_kpfB2_1 : ∀ e ∈ ([(135, (4, 0, sb_135)), (111, (1, 0, sb_111))] : mi_T), sc_P e.1 = some e.2 := mi_tb mi_P135 (mi_tb mi_P111 (mi_tb_e))
set_option maxRecDepth 20000 in
theorem ms_kpfB2_1 {h : sm_H} {d : Nat} {Q : Option mi_V → sm_H → Prop} {zp zz : Int} {zw : Int64} (hS : ab_Sh sx_sk h) (ok_zp : mi_in zp) (ok_zz : mi_in zz) (ho : (zz = ((0 : Int))) ∧ (0 ≤ ((1 : Int)) ∧ ((1 : Int)) ≤ 1) ∧ (0 ≤ ((1 : Int)) ∧ ((1 : Int)) ≤ 1)) (kon : ∀ h1, me_W [.inl (13571, (1 : Int)), .inl (13579, mi_f h 13576)] h h1 → Q none h1) : me_E (d + 12) 135 24 [some (.inr (.inr 106)), some (.inl (zp)), some (.inr (.inl (zw))), none] [.inl (zz)] h Q := mf_seg (mp_kpfB2_1 h d zp zz zw) (mi_tab_kpfB2_1) hS (mi_okL_c (trivial) (mi_okL_c (ok_zp) (mi_okL_c (trivial) (mi_okL_n (mi_okL_e))))) (mi_okS_cons (ok_zz) (mi_okS_e)) (mi_al (ho.1) (mi_al (ho.2.1) (mi_al (ho.2.2) (mi_al_e)))) (fun h1 W _ hst => mf_ret (M := (4, 0, sb_135)) rfl rfl rfl hst (mi_al_e) (kon h1 W))
set_option maxRecDepth 20000 in
theorem mt_kpfB2 {h : sm_H} {d : Nat} {Q : Option mi_V → sm_H → Prop} {zp zz : Int} {zw : Int64} (hS : ab_Sh sx_sk h) (ok_zp : mi_in zp) (ok_zz : mi_in zz) (k0 : (zz ≠ ((0 : Int))) → (∀ h1, ab_Sh sx_sk h1 → ab_Fr [] h h1 → me_E (d + 12) 135 32 [some (.inr (.inr 106)), some (.inl (zp)), some (.inr (.inl (zw))), none] [] h1 Q)) (k1 : (zz = ((0 : Int))) → (∀ h1, ab_Sh sx_sk h1 → mi_f h1 13571 = (1 : Int) → mi_f h1 13579 = mi_f h 13576 → ab_Fr [(13571, 13572), (13579, 13580)] h h1 → Q none h1)) : me_E (d + 12) 135 24 [some (.inr (.inr 106)), some (.inl (zp)), some (.inr (.inl (zw))), none] [.inl (zz)] h Q := Or.elim (mi_em .ne (zz) (((0 : Int)))) (fun c0 => ms_kpfB2_0 hS ok_zp ok_zz (c0) (fun h1 W => (k0 c0) h1 W.1 (W.2.2.2.2.2 _ rfl))) (fun c0 => ms_kpfB2_1 hS ok_zp ok_zz ⟨c0, (by decide), (by decide)⟩ (fun h1 W => (k1 c0) h1 W.1 (W.2.1 13571) (W.2.1 13579) (W.2.2.2.2.2 _ rfl)))
set_option maxRecDepth 20000 in
theorem mp_kpfC_0 (h : sm_H) (d : Nat) (zp : Int) (zw : Int64) : mj_path [(135, (4, 0, sb_135)), (16, (3, 0, sb_16)), (49, (2, 1, sb_49)), (72, (2, 2, sb_72))] sx_sk h 8 [1, 1] (d + 12, 135, 32, [some (.inr (.inr 106)), some (.inl (zp)), some (.inr (.inl (zw))), none], [], [], []) = some ((d + 12, 135, 87, [some (.inr (.inr 106)), some (.inl (zp)), some (.inr (.inl (zw))), none], [], [], []), [(mi_f h 13577) ≠ ((1 : Int)), (mi_f h 13577) ≠ ((2 : Int))]) := rfl
theorem mi_tab_kpfC_0 : ∀ e ∈ ([(135, (4, 0, sb_135)), (16, (3, 0, sb_16)), (49, (2, 1, sb_49)), (72, (2, 2, sb_72))] : mi_T), sc_P e.1 = some e.2 := mi_tb mi_P135 (mi_tb mi_P16 (mi_tb mi_P49 (mi_tb mi_P72 (mi_tb_e))))
set_option maxRecDepth 20000 in
theorem ms_kpfC_0 {h : sm_H} {d : Nat} {Q : Option mi_V → sm_H → Prop} {zp : Int} {zw : Int64} (hS : ab_Sh sx_sk h) (ok_zp : mi_in zp) (ho : ((mi_f h 13577) ≠ ((1 : Int))) ∧ ((mi_f h 13577) ≠ ((2 : Int)))) (kon : ∀ h1, me_W [] h h1 → me_E (d + 12) 135 87 [some (.inr (.inr 106)), some (.inl (zp)), some (.inr (.inl (zw))), none] [] h1 Q) : me_E (d + 12) 135 32 [some (.inr (.inr 106)), some (.inl (zp)), some (.inr (.inl (zw))), none] [] h Q := mf_seg (mp_kpfC_0 h d zp zw) (mi_tab_kpfC_0) hS (mi_okL_c (trivial) (mi_okL_c (ok_zp) (mi_okL_c (trivial) (mi_okL_n (mi_okL_e))))) (mi_okS_e) (mi_al (ho.1) (mi_al (ho.2) (mi_al_e))) (fun h1 W _ hst => kon h1 W)
set_option maxRecDepth 20000 in
theorem mp_kpfC_1 (h : sm_H) (d : Nat) (zp : Int) (zw : Int64) : mj_path [(135, (4, 0, sb_135)), (16, (3, 0, sb_16)), (49, (2, 1, sb_49)), (72, (2, 2, sb_72))] sx_sk h 12 [1, 0] (d + 12, 135, 32, [some (.inr (.inr 106)), some (.inl (zp)), some (.inr (.inl (zw))), none], [], [], []) = some ((d + 12, 135, 83, [some (.inr (.inr 106)), some (.inl (zp)), some (.inr (.inl (zw))), none], [.inl (mi_f h 13578), .inl ((3 : Int)), .inr (.inr 106)], [], []), [(mi_f h 13577) ≠ ((1 : Int)), (mi_f h 13577) = ((2 : Int))]) := rfl
theorem mi_tab_kpfC_1 : ∀ e ∈ ([(135, (4, 0, sb_135)), (16, (3, 0, sb_16)), (49, (2, 1, sb_49)), (72, (2, 2, sb_72))] : mi_T), sc_P e.1 = some e.2 := mi_tb mi_P135 (mi_tb mi_P16 (mi_tb mi_P49 (mi_tb mi_P72 (mi_tb_e))))
set_option maxRecDepth 20000 in
theorem ms_kpfC_1 {h : sm_H} {d : Nat} {Q : Option mi_V → sm_H → Prop} {zp : Int} {zw : Int64} (hS : ab_Sh sx_sk h) (ok_zp : mi_in zp) (ho : ((mi_f h 13577) ≠ ((1 : Int))) ∧ ((mi_f h 13577) = ((2 : Int)))) (kon : ∀ h1, me_W [] h h1 → ∃ Q1, me_E (d + 11) 116 0 (mi_entry 4 [.inr (.inr 106), .inl ((3 : Int)), .inl (mi_f h 13578)]) [] h1 Q1 ∧ ∀ w h2, (∀ x, w = some x → mi_ok x) → Q1 w h2 → me_E (d + 12) 135 86 [some (.inr (.inr 106)), some (.inl (zp)), some (.inr (.inl (zw))), none] (mi_back w []) h2 Q) : me_E (d + 12) 135 32 [some (.inr (.inr 106)), some (.inl (zp)), some (.inr (.inl (zw))), none] [] h Q := mf_seg (mp_kpfC_1 h d zp zw) (mi_tab_kpfC_1) hS (mi_okL_c (trivial) (mi_okL_c (ok_zp) (mi_okL_c (trivial) (mi_okL_n (mi_okL_e))))) (mi_okS_e) (mi_al (ho.1) (mi_al (ho.2) (mi_al_e))) (fun h1 W _ hst => let ⟨_, k1, k2⟩ := kon h1 W; mf_call (M := (4, 0, sb_135)) (M' := (4, 1, sb_116)) rfl rfl rfl rfl (Nat.le_of_ble_eq_true rfl) (Nat.le_of_ble_eq_true rfl) W.1 k1 k2)
set_option maxRecDepth 20000 in
theorem mp_kpfC_2 (h : sm_H) (d : Nat) (zp : Int) (zw : Int64) : mj_path [(135, (4, 0, sb_135)), (16, (3, 0, sb_16)), (49, (2, 1, sb_49)), (72, (2, 2, sb_72))] sx_sk h 20 [0, 1, 8] (d + 12, 135, 32, [some (.inr (.inr 106)), some (.inl (zp)), some (.inr (.inl (zw))), none], [], [], []) = some ((d + 12, 135, 62, [some (.inr (.inr 106)), some (.inl (zp)), some (.inr (.inl (zw))), none], [.inl ((Int32.ofInt ((mi_f h 13578) + ((0 : Int))) - Int32.ofInt ((mi_f h 13578) + ((0 : Int))) / Int32.ofInt ((10000 : Int)) * Int32.ofInt ((10000 : Int))).toInt), .inl ((2 : Int)), .inr (.inr 106)], [], []), [(mi_f h 13577) = ((1 : Int)), zp < ((0 : Int)), -2147483648 ≤ (mi_f h 13578) + ((0 : Int)) ∧ (mi_f h 13578) + ((0 : Int)) ≤ 2147483647, ((10000 : Int)) ≠ 0]) := rfl
theorem mi_tab_kpfC_2 : ∀ e ∈ ([(135, (4, 0, sb_135)), (16, (3, 0, sb_16)), (49, (2, 1, sb_49)), (72, (2, 2, sb_72))] : mi_T), sc_P e.1 = some e.2 := mi_tb mi_P135 (mi_tb mi_P16 (mi_tb mi_P49 (mi_tb mi_P72 (mi_tb_e))))
set_option maxRecDepth 20000 in
theorem ms_kpfC_2 {h : sm_H} {d : Nat} {Q : Option mi_V → sm_H → Prop} {zp : Int} {zw : Int64} (hS : ab_Sh sx_sk h) (ok_zp : mi_in zp) (ho : ((mi_f h 13577) = ((1 : Int))) ∧ (zp < ((0 : Int))) ∧ (-2147483648 ≤ (mi_f h 13578) + ((0 : Int)) ∧ (mi_f h 13578) + ((0 : Int)) ≤ 2147483647) ∧ (((10000 : Int)) ≠ 0)) (kon : ∀ h1, me_W [] h h1 → ∃ Q1, me_E (d + 11) 116 0 (mi_entry 4 [.inr (.inr 106), .inl ((2 : Int)), .inl ((Int32.ofInt ((mi_f h 13578) + ((0 : Int))) - Int32.ofInt ((mi_f h 13578) + ((0 : Int))) / Int32.ofInt ((10000 : Int)) * Int32.ofInt ((10000 : Int))).toInt)]) [] h1 Q1 ∧ ∀ w h2, (∀ x, w = some x → mi_ok x) → Q1 w h2 → me_E (d + 12) 135 65 [some (.inr (.inr 106)), some (.inl (zp)), some (.inr (.inl (zw))), none] (mi_back w []) h2 Q) : me_E (d + 12) 135 32 [some (.inr (.inr 106)), some (.inl (zp)), some (.inr (.inl (zw))), none] [] h Q := mf_seg (mp_kpfC_2 h d zp zw) (mi_tab_kpfC_2) hS (mi_okL_c (trivial) (mi_okL_c (ok_zp) (mi_okL_c (trivial) (mi_okL_n (mi_okL_e))))) (mi_okS_e) (mi_al (ho.1) (mi_al (ho.2.1) (mi_al (ho.2.2.1) (mi_al (ho.2.2.2) (mi_al_e))))) (fun h1 W _ hst => let ⟨_, k1, k2⟩ := kon h1 W; mf_call (M := (4, 0, sb_135)) (M' := (4, 1, sb_116)) rfl rfl rfl rfl (Nat.le_of_ble_eq_true rfl) (Nat.le_of_ble_eq_true rfl) W.1 k1 k2)
set_option maxRecDepth 20000 in
theorem mp_kpfC_3 (h : sm_H) (d : Nat) (zp : Int) (zw : Int64) : mj_path [(135, (4, 0, sb_135)), (16, (3, 0, sb_16)), (49, (2, 1, sb_49)), (72, (2, 2, sb_72))] sx_sk h 24 [0, 0, 1, 8] (d + 12, 135, 32, [some (.inr (.inr 106)), some (.inl (zp)), some (.inr (.inl (zw))), none], [], [], []) = some ((d + 12, 135, 62, [some (.inr (.inr 106)), some (.inl (zp)), some (.inr (.inl (zw))), none], [.inl ((Int32.ofInt ((mi_f h 13578) + ((0 : Int))) - Int32.ofInt ((mi_f h 13578) + ((0 : Int))) / Int32.ofInt ((10000 : Int)) * Int32.ofInt ((10000 : Int))).toInt), .inl ((2 : Int)), .inr (.inr 106)], [], []), [(mi_f h 13577) = ((1 : Int)), ((0 : Int)) ≤ zp, ((60 : Int)) ≤ zp, -2147483648 ≤ (mi_f h 13578) + ((0 : Int)) ∧ (mi_f h 13578) + ((0 : Int)) ≤ 2147483647, ((10000 : Int)) ≠ 0]) := rfl
theorem mi_tab_kpfC_3 : ∀ e ∈ ([(135, (4, 0, sb_135)), (16, (3, 0, sb_16)), (49, (2, 1, sb_49)), (72, (2, 2, sb_72))] : mi_T), sc_P e.1 = some e.2 := mi_tb mi_P135 (mi_tb mi_P16 (mi_tb mi_P49 (mi_tb mi_P72 (mi_tb_e))))
set_option maxRecDepth 20000 in
theorem ms_kpfC_3 {h : sm_H} {d : Nat} {Q : Option mi_V → sm_H → Prop} {zp : Int} {zw : Int64} (hS : ab_Sh sx_sk h) (ok_zp : mi_in zp) (ho : ((mi_f h 13577) = ((1 : Int))) ∧ (((0 : Int)) ≤ zp) ∧ (((60 : Int)) ≤ zp) ∧ (-2147483648 ≤ (mi_f h 13578) + ((0 : Int)) ∧ (mi_f h 13578) + ((0 : Int)) ≤ 2147483647) ∧ (((10000 : Int)) ≠ 0)) (kon : ∀ h1, me_W [] h h1 → ∃ Q1, me_E (d + 11) 116 0 (mi_entry 4 [.inr (.inr 106), .inl ((2 : Int)), .inl ((Int32.ofInt ((mi_f h 13578) + ((0 : Int))) - Int32.ofInt ((mi_f h 13578) + ((0 : Int))) / Int32.ofInt ((10000 : Int)) * Int32.ofInt ((10000 : Int))).toInt)]) [] h1 Q1 ∧ ∀ w h2, (∀ x, w = some x → mi_ok x) → Q1 w h2 → me_E (d + 12) 135 65 [some (.inr (.inr 106)), some (.inl (zp)), some (.inr (.inl (zw))), none] (mi_back w []) h2 Q) : me_E (d + 12) 135 32 [some (.inr (.inr 106)), some (.inl (zp)), some (.inr (.inl (zw))), none] [] h Q := mf_seg (mp_kpfC_3 h d zp zw) (mi_tab_kpfC_3) hS (mi_okL_c (trivial) (mi_okL_c (ok_zp) (mi_okL_c (trivial) (mi_okL_n (mi_okL_e))))) (mi_okS_e) (mi_al (ho.1) (mi_al (ho.2.1) (mi_al (ho.2.2.1) (mi_al (ho.2.2.2.1) (mi_al (ho.2.2.2.2) (mi_al_e)))))) (fun h1 W _ hst => let ⟨_, k1, k2⟩ := kon h1 W; mf_call (M := (4, 0, sb_135)) (M' := (4, 1, sb_116)) rfl rfl rfl rfl (Nat.le_of_ble_eq_true rfl) (Nat.le_of_ble_eq_true rfl) W.1 k1 k2)
set_option maxRecDepth 20000 in
theorem mp_kpfC_4 (h : sm_H) (d : Nat) (zp : Int) (zw : Int64) : mj_path [(135, (4, 0, sb_135)), (16, (3, 0, sb_16)), (49, (2, 1, sb_49)), (72, (2, 2, sb_72))] sx_sk h 27 [0, 0, 0, 8] (d + 12, 135, 32, [some (.inr (.inr 106)), some (.inl (zp)), some (.inr (.inl (zw))), none], [], [], []) = some ((d + 12, 135, 62, [some (.inr (.inr 106)), some (.inl (zp)), some (.inr (.inl (zw))), none], [.inl ((Int32.ofInt ((mi_f h 13578) + (mi_a h 69 (Int.toNat zp))) - Int32.ofInt ((mi_f h 13578) + (mi_a h 69 (Int.toNat zp))) / Int32.ofInt ((10000 : Int)) * Int32.ofInt ((10000 : Int))).toInt), .inl ((2 : Int)), .inr (.inr 106)], [], []), [(mi_f h 13577) = ((1 : Int)), ((0 : Int)) ≤ zp, zp < ((60 : Int)), 0 ≤ zp ∧ zp < 60, -2147483648 ≤ (mi_f h 13578) + (mi_a h 69 (Int.toNat zp)) ∧ (mi_f h 13578) + (mi_a h 69 (Int.toNat zp)) ≤ 2147483647, ((10000 : Int)) ≠ 0]) := rfl
theorem mi_tab_kpfC_4 : ∀ e ∈ ([(135, (4, 0, sb_135)), (16, (3, 0, sb_16)), (49, (2, 1, sb_49)), (72, (2, 2, sb_72))] : mi_T), sc_P e.1 = some e.2 := mi_tb mi_P135 (mi_tb mi_P16 (mi_tb mi_P49 (mi_tb mi_P72 (mi_tb_e))))
set_option maxRecDepth 20000 in
theorem ms_kpfC_4 {h : sm_H} {d : Nat} {Q : Option mi_V → sm_H → Prop} {zp : Int} {zw : Int64} (hS : ab_Sh sx_sk h) (ok_zp : mi_in zp) (ho : ((mi_f h 13577) = ((1 : Int))) ∧ (((0 : Int)) ≤ zp) ∧ (zp < ((60 : Int))) ∧ (0 ≤ zp ∧ zp < 60) ∧ (-2147483648 ≤ (mi_f h 13578) + (mi_a h 69 (Int.toNat zp)) ∧ (mi_f h 13578) + (mi_a h 69 (Int.toNat zp)) ≤ 2147483647) ∧ (((10000 : Int)) ≠ 0)) (kon : ∀ h1, me_W [] h h1 → ∃ Q1, me_E (d + 11) 116 0 (mi_entry 4 [.inr (.inr 106), .inl ((2 : Int)), .inl ((Int32.ofInt ((mi_f h 13578) + (mi_a h 69 (Int.toNat zp))) - Int32.ofInt ((mi_f h 13578) + (mi_a h 69 (Int.toNat zp))) / Int32.ofInt ((10000 : Int)) * Int32.ofInt ((10000 : Int))).toInt)]) [] h1 Q1 ∧ ∀ w h2, (∀ x, w = some x → mi_ok x) → Q1 w h2 → me_E (d + 12) 135 65 [some (.inr (.inr 106)), some (.inl (zp)), some (.inr (.inl (zw))), none] (mi_back w []) h2 Q) : me_E (d + 12) 135 32 [some (.inr (.inr 106)), some (.inl (zp)), some (.inr (.inl (zw))), none] [] h Q := mf_seg (mp_kpfC_4 h d zp zw) (mi_tab_kpfC_4) hS (mi_okL_c (trivial) (mi_okL_c (ok_zp) (mi_okL_c (trivial) (mi_okL_n (mi_okL_e))))) (mi_okS_e) (mi_al (ho.1) (mi_al (ho.2.1) (mi_al (ho.2.2.1) (mi_al (ho.2.2.2.1) (mi_al (ho.2.2.2.2.1) (mi_al (ho.2.2.2.2.2) (mi_al_e))))))) (fun h1 W _ hst => let ⟨_, k1, k2⟩ := kon h1 W; mf_call (M := (4, 0, sb_135)) (M' := (4, 1, sb_116)) rfl rfl rfl rfl (Nat.le_of_ble_eq_true rfl) (Nat.le_of_ble_eq_true rfl) W.1 k1 k2)
set_option maxRecDepth 20000 in
theorem mt_kpfC {h : sm_H} {d : Nat} {Q : Option mi_V → sm_H → Prop} {zp : Int} {zw : Int64} (hS : ab_Sh sx_sk h) (ok_zp : mi_in zp) (k0 : ((-2147483648) ≤ mi_f h 13577 ∧ mi_f h 13577 ≤ 2147483647) → ((mi_f h 13577) ≠ ((1 : Int))) → ((mi_f h 13577) ≠ ((2 : Int))) → (∀ h1, ab_Sh sx_sk h1 → ab_Fr [] h h1 → me_E (d + 12) 135 87 [some (.inr (.inr 106)), some (.inl (zp)), some (.inr (.inl (zw))), none] [] h1 Q)) (k1 : ((-2147483648) ≤ mi_f h 13577 ∧ mi_f h 13577 ≤ 2147483647) → ((mi_f h 13577) ≠ ((1 : Int))) → ((mi_f h 13577) = ((2 : Int))) → (∀ h1, ab_Sh sx_sk h1 → ab_Fr [] h h1 → ∃ Q1, me_E (d + 11) 116 0 (mi_entry 4 [.inr (.inr 106), .inl ((3 : Int)), .inl (mi_f h 13578)]) [] h1 Q1 ∧ ∀ w h2, (∀ x, w = some x → mi_ok x) → Q1 w h2 → me_E (d + 12) 135 86 [some (.inr (.inr 106)), some (.inl (zp)), some (.inr (.inl (zw))), none] (mi_back w []) h2 Q)) (k2 : ((-2147483648) ≤ mi_f h 13577 ∧ mi_f h 13577 ≤ 2147483647) → ((-2147483648) ≤ mi_f h 13578 ∧ mi_f h 13578 ≤ 2147483647) → ((mi_f h 13577) = ((1 : Int))) → (zp < ((0 : Int))) → ((-2147483648 ≤ (mi_f h 13578) + ((0 : Int)) ∧ (mi_f h 13578) + ((0 : Int)) ≤ 2147483647)) ∧ (∀ h1, ab_Sh sx_sk h1 → ab_Fr [] h h1 → ∃ Q1, me_E (d + 11) 116 0 (mi_entry 4 [.inr (.inr 106), .inl ((2 : Int)), .inl ((Int32.ofInt ((mi_f h 13578) + ((0 : Int))) - Int32.ofInt ((mi_f h 13578) + ((0 : Int))) / Int32.ofInt ((10000 : Int)) * Int32.ofInt ((10000 : Int))).toInt)]) [] h1 Q1 ∧ ∀ w h2, (∀ x, w = some x → mi_ok x) → Q1 w h2 → me_E (d + 12) 135 65 [some (.inr (.inr 106)), some (.inl (zp)), some (.inr (.inl (zw))), none] (mi_back w []) h2 Q)) (k3 : ((-2147483648) ≤ mi_f h 13577 ∧ mi_f h 13577 ≤ 2147483647) → ((-2147483648) ≤ mi_f h 13578 ∧ mi_f h 13578 ≤ 2147483647) → ((mi_f h 13577) = ((1 : Int))) → (((0 : Int)) ≤ zp) → (((60 : Int)) ≤ zp) → ((-2147483648 ≤ (mi_f h 13578) + ((0 : Int)) ∧ (mi_f h 13578) + ((0 : Int)) ≤ 2147483647)) ∧ (∀ h1, ab_Sh sx_sk h1 → ab_Fr [] h h1 → ∃ Q1, me_E (d + 11) 116 0 (mi_entry 4 [.inr (.inr 106), .inl ((2 : Int)), .inl ((Int32.ofInt ((mi_f h 13578) + ((0 : Int))) - Int32.ofInt ((mi_f h 13578) + ((0 : Int))) / Int32.ofInt ((10000 : Int)) * Int32.ofInt ((10000 : Int))).toInt)]) [] h1 Q1 ∧ ∀ w h2, (∀ x, w = some x → mi_ok x) → Q1 w h2 → me_E (d + 12) 135 65 [some (.inr (.inr 106)), some (.inl (zp)), some (.inr (.inl (zw))), none] (mi_back w []) h2 Q)) (k4 : ((-2147483648) ≤ mi_f h 13577 ∧ mi_f h 13577 ≤ 2147483647) → ((-2147483648) ≤ mi_f h 13578 ∧ mi_f h 13578 ≤ 2147483647) → ((mi_f h 13577) = ((1 : Int))) → (((0 : Int)) ≤ zp) → (zp < ((60 : Int))) → ((0 ≤ zp ∧ zp < 60) ∧ (-2147483648 ≤ (mi_f h 13578) + (mi_a h 69 (Int.toNat zp)) ∧ (mi_f h 13578) + (mi_a h 69 (Int.toNat zp)) ≤ 2147483647)) ∧ (∀ h1, ab_Sh sx_sk h1 → ab_Fr [] h h1 → ∃ Q1, me_E (d + 11) 116 0 (mi_entry 4 [.inr (.inr 106), .inl ((2 : Int)), .inl ((Int32.ofInt ((mi_f h 13578) + (mi_a h 69 (Int.toNat zp))) - Int32.ofInt ((mi_f h 13578) + (mi_a h 69 (Int.toNat zp))) / Int32.ofInt ((10000 : Int)) * Int32.ofInt ((10000 : Int))).toInt)]) [] h1 Q1 ∧ ∀ w h2, (∀ x, w = some x → mi_ok x) → Q1 w h2 → me_E (d + 12) 135 65 [some (.inr (.inr 106)), some (.inl (zp)), some (.inr (.inl (zw))), none] (mi_back w []) h2 Q)) : me_E (d + 12) 135 32 [some (.inr (.inr 106)), some (.inl (zp)), some (.inr (.inl (zw))), none] [] h Q := Or.elim (mi_em .ne ((mi_f h 13577)) (((1 : Int)))) (fun c0 => Or.elim (mi_em .ne ((mi_f h 13577)) (((2 : Int)))) (fun c1 => ms_kpfC_0 hS ok_zp ⟨c0, c1⟩ (fun h1 W => (k0 (me_fb hS rfl) c0 c1) h1 W.1 (W.2.2.2.2.2 _ rfl))) (fun c1 => ms_kpfC_1 hS ok_zp ⟨c0, c1⟩ (fun h1 W => (k1 (me_fb hS rfl) c0 c1) h1 W.1 (W.2.2.2.2.2 _ rfl)))) (fun c0 => Or.elim (mi_em .lt (zp) (((0 : Int)))) (fun c1 => ms_kpfC_2 hS ok_zp ⟨c0, c1, (k2 (me_fb hS rfl) (me_fb hS rfl) c0 c1).1, (by decide)⟩ (fun h1 W => (k2 (me_fb hS rfl) (me_fb hS rfl) c0 c1).2 h1 W.1 (W.2.2.2.2.2 _ rfl))) (fun c1 => Or.elim (mi_em .ge (zp) (((60 : Int)))) (fun c2 => ms_kpfC_3 hS ok_zp ⟨c0, c1, c2, (k3 (me_fb hS rfl) (me_fb hS rfl) c0 c1 c2).1, (by decide)⟩ (fun h1 W => (k3 (me_fb hS rfl) (me_fb hS rfl) c0 c1 c2).2 h1 W.1 (W.2.2.2.2.2 _ rfl))) (fun c2 => ms_kpfC_4 hS ok_zp ⟨c0, c1, c2, (k4 (me_fb hS rfl) (me_fb hS rfl) c0 c1 c2).1.1, (k4 (me_fb hS rfl) (me_fb hS rfl) c0 c1 c2).1.2, (by decide)⟩ (fun h1 W => (k4 (me_fb hS rfl) (me_fb hS rfl) c0 c1 c2).2 h1 W.1 (W.2.2.2.2.2 _ rfl)))))
set_option maxRecDepth 20000 in
theorem mp_kpfD_0 (h : sm_H) (d : Nat) (zp zz : Int) (zw : Int64) : mj_path [(135, (4, 0, sb_135))] sx_sk h 2 [] (d + 12, 135, 65, [some (.inr (.inr 106)), some (.inl (zp)), some (.inr (.inl (zw))), none], [.inl (zz)], [], []) = some ((d + 12, 135, 87, [some (.inr (.inr 106)), some (.inl (zp)), some (.inr (.inl (zw))), none], [], [], []), []) := rfl
theorem mi_tab_kpfD_0 : ∀ e ∈ ([(135, (4, 0, sb_135))] : mi_T), sc_P e.1 = some e.2 := mi_tb mi_P135 (mi_tb_e)
set_option maxRecDepth 20000 in
theorem ms_kpfD_0 {h : sm_H} {d : Nat} {Q : Option mi_V → sm_H → Prop} {zp zz : Int} {zw : Int64} (hS : ab_Sh sx_sk h) (ok_zp : mi_in zp) (ok_zz : mi_in zz) (kon : ∀ h1, me_W [] h h1 → me_E (d + 12) 135 87 [some (.inr (.inr 106)), some (.inl (zp)), some (.inr (.inl (zw))), none] [] h1 Q) : me_E (d + 12) 135 65 [some (.inr (.inr 106)), some (.inl (zp)), some (.inr (.inl (zw))), none] [.inl (zz)] h Q := mf_seg (mp_kpfD_0 h d zp zz zw) (mi_tab_kpfD_0) hS (mi_okL_c (trivial) (mi_okL_c (ok_zp) (mi_okL_c (trivial) (mi_okL_n (mi_okL_e))))) (mi_okS_cons (ok_zz) (mi_okS_e)) (mi_al_e) (fun h1 W _ hst => kon h1 W)
set_option maxRecDepth 20000 in
theorem mt_kpfD {h : sm_H} {d : Nat} {Q : Option mi_V → sm_H → Prop} {zp zz : Int} {zw : Int64} (hS : ab_Sh sx_sk h) (ok_zp : mi_in zp) (ok_zz : mi_in zz) (k0 : (∀ h1, ab_Sh sx_sk h1 → ab_Fr [] h h1 → me_E (d + 12) 135 87 [some (.inr (.inr 106)), some (.inl (zp)), some (.inr (.inl (zw))), none] [] h1 Q)) : me_E (d + 12) 135 65 [some (.inr (.inr 106)), some (.inl (zp)), some (.inr (.inl (zw))), none] [.inl (zz)] h Q := ms_kpfD_0 hS ok_zp ok_zz (fun h1 W => (k0) h1 W.1 (W.2.2.2.2.2 _ rfl))
set_option maxRecDepth 20000 in
theorem mp_kpfE_0 (h : sm_H) (d : Nat) (zp zz : Int) (zw : Int64) : mj_path [(135, (4, 0, sb_135))] sx_sk h 1 [] (d + 12, 135, 86, [some (.inr (.inr 106)), some (.inl (zp)), some (.inr (.inl (zw))), none], [.inl (zz)], [], []) = some ((d + 12, 135, 87, [some (.inr (.inr 106)), some (.inl (zp)), some (.inr (.inl (zw))), none], [], [], []), []) := rfl
theorem mi_tab_kpfE_0 : ∀ e ∈ ([(135, (4, 0, sb_135))] : mi_T), sc_P e.1 = some e.2 := mi_tb mi_P135 (mi_tb_e)
set_option maxRecDepth 20000 in
theorem ms_kpfE_0 {h : sm_H} {d : Nat} {Q : Option mi_V → sm_H → Prop} {zp zz : Int} {zw : Int64} (hS : ab_Sh sx_sk h) (ok_zp : mi_in zp) (ok_zz : mi_in zz) (kon : ∀ h1, me_W [] h h1 → me_E (d + 12) 135 87 [some (.inr (.inr 106)), some (.inl (zp)), some (.inr (.inl (zw))), none] [] h1 Q) : me_E (d + 12) 135 86 [some (.inr (.inr 106)), some (.inl (zp)), some (.inr (.inl (zw))), none] [.inl (zz)] h Q := mf_seg (mp_kpfE_0 h d zp zz zw) (mi_tab_kpfE_0) hS (mi_okL_c (trivial) (mi_okL_c (ok_zp) (mi_okL_c (trivial) (mi_okL_n (mi_okL_e))))) (mi_okS_cons (ok_zz) (mi_okS_e)) (mi_al_e) (fun h1 W _ hst => kon h1 W)
set_option maxRecDepth 20000 in
theorem mt_kpfE {h : sm_H} {d : Nat} {Q : Option mi_V → sm_H → Prop} {zp zz : Int} {zw : Int64} (hS : ab_Sh sx_sk h) (ok_zp : mi_in zp) (ok_zz : mi_in zz) (k0 : (∀ h1, ab_Sh sx_sk h1 → ab_Fr [] h h1 → me_E (d + 12) 135 87 [some (.inr (.inr 106)), some (.inl (zp)), some (.inr (.inl (zw))), none] [] h1 Q)) : me_E (d + 12) 135 86 [some (.inr (.inr 106)), some (.inl (zp)), some (.inr (.inl (zw))), none] [.inl (zz)] h Q := ms_kpfE_0 hS ok_zp ok_zz (fun h1 W => (k0) h1 W.1 (W.2.2.2.2.2 _ rfl))
set_option maxRecDepth 20000 in
theorem mp_kpfF_0 (h : sm_H) (d : Nat) (zp : Int) (zw : Int64) : mj_path [(135, (4, 0, sb_135))] sx_sk h 3 [1] (d + 12, 135, 87, [some (.inr (.inr 106)), some (.inl (zp)), some (.inr (.inl (zw))), none], [], [], []) = some ((d + 12, 135, 98, [some (.inr (.inr 106)), some (.inl (zp)), some (.inr (.inl (zw))), none], [], [], []), [(mi_f h 13571) ≠ ((0 : Int))]) := rfl
theorem mi_tab_kpfF_0 : ∀ e ∈ ([(135, (4, 0, sb_135))] : mi_T), sc_P e.1 = some e.2 := mi_tb mi_P135 (mi_tb_e)
set_option maxRecDepth 20000 in
theorem ms_kpfF_0 {h : sm_H} {d : Nat} {Q : Option mi_V → sm_H → Prop} {zp : Int} {zw : Int64} (hS : ab_Sh sx_sk h) (ok_zp : mi_in zp) (ho : ((mi_f h 13571) ≠ ((0 : Int)))) (kon : ∀ h1, me_W [] h h1 → Q none h1) : me_E (d + 12) 135 87 [some (.inr (.inr 106)), some (.inl (zp)), some (.inr (.inl (zw))), none] [] h Q := mf_seg (mp_kpfF_0 h d zp zw) (mi_tab_kpfF_0) hS (mi_okL_c (trivial) (mi_okL_c (ok_zp) (mi_okL_c (trivial) (mi_okL_n (mi_okL_e))))) (mi_okS_e) (mi_al (ho) (mi_al_e)) (fun h1 W _ hst => mf_ret (M := (4, 0, sb_135)) rfl rfl rfl hst (mi_al_e) (kon h1 W))
set_option maxRecDepth 20000 in
theorem mp_kpfF_1 (h : sm_H) (d : Nat) (zp : Int) (zw : Int64) : mj_path [(135, (4, 0, sb_135))] sx_sk h 4 [0] (d + 12, 135, 87, [some (.inr (.inr 106)), some (.inl (zp)), some (.inr (.inl (zw))), none], [], [], []) = some ((d + 12, 135, 95, [some (.inr (.inr 106)), some (.inl (zp)), some (.inr (.inl (zw))), none], [.inr (.inr 106)], [], []), [(mi_f h 13571) = ((0 : Int))]) := rfl
theorem mi_tab_kpfF_1 : ∀ e ∈ ([(135, (4, 0, sb_135))] : mi_T), sc_P e.1 = some e.2 := mi_tb mi_P135 (mi_tb_e)
set_option maxRecDepth 20000 in
theorem ms_kpfF_1 {h : sm_H} {d : Nat} {Q : Option mi_V → sm_H → Prop} {zp : Int} {zw : Int64} (hS : ab_Sh sx_sk h) (ok_zp : mi_in zp) (ho : ((mi_f h 13571) = ((0 : Int)))) (kon : ∀ h1, me_W [] h h1 → ∃ Q1, me_E (d + 11) 106 0 (mi_entry 2 [.inr (.inr 106)]) [] h1 Q1 ∧ ∀ w h2, (∀ x, w = some x → mi_ok x) → Q1 w h2 → me_E (d + 12) 135 98 [some (.inr (.inr 106)), some (.inl (zp)), some (.inr (.inl (zw))), none] (mi_back w []) h2 Q) : me_E (d + 12) 135 87 [some (.inr (.inr 106)), some (.inl (zp)), some (.inr (.inl (zw))), none] [] h Q := mf_seg (mp_kpfF_1 h d zp zw) (mi_tab_kpfF_1) hS (mi_okL_c (trivial) (mi_okL_c (ok_zp) (mi_okL_c (trivial) (mi_okL_n (mi_okL_e))))) (mi_okS_e) (mi_al (ho) (mi_al_e)) (fun h1 W _ hst => let ⟨_, k1, k2⟩ := kon h1 W; mf_call (M := (4, 0, sb_135)) (M' := (2, 0, sb_106)) rfl rfl rfl rfl (Nat.le_of_ble_eq_true rfl) (Nat.le_of_ble_eq_true rfl) W.1 k1 k2)
set_option maxRecDepth 20000 in
theorem mt_kpfF {h : sm_H} {d : Nat} {Q : Option mi_V → sm_H → Prop} {zp : Int} {zw : Int64} (hS : ab_Sh sx_sk h) (ok_zp : mi_in zp) (k0 : (0 ≤ mi_f h 13571 ∧ mi_f h 13571 ≤ 1) → ((mi_f h 13571) ≠ ((0 : Int))) → (∀ h1, ab_Sh sx_sk h1 → ab_Fr [] h h1 → Q none h1)) (k1 : (0 ≤ mi_f h 13571 ∧ mi_f h 13571 ≤ 1) → ((mi_f h 13571) = ((0 : Int))) → (∀ h1, ab_Sh sx_sk h1 → ab_Fr [] h h1 → ∃ Q1, me_E (d + 11) 106 0 (mi_entry 2 [.inr (.inr 106)]) [] h1 Q1 ∧ ∀ w h2, (∀ x, w = some x → mi_ok x) → Q1 w h2 → me_E (d + 12) 135 98 [some (.inr (.inr 106)), some (.inl (zp)), some (.inr (.inl (zw))), none] (mi_back w []) h2 Q)) : me_E (d + 12) 135 87 [some (.inr (.inr 106)), some (.inl (zp)), some (.inr (.inl (zw))), none] [] h Q := Or.elim (mi_em .ne ((mi_f h 13571)) (((0 : Int)))) (fun c0 => ms_kpfF_0 hS ok_zp (c0) (fun h1 W => (k0 (me_fb hS rfl) c0) h1 W.1 (W.2.2.2.2.2 _ rfl))) (fun c0 => ms_kpfF_1 hS ok_zp (c0) (fun h1 W => (k1 (me_fb hS rfl) c0) h1 W.1 (W.2.2.2.2.2 _ rfl)))
set_option maxRecDepth 20000 in
theorem mp_kpfG_0 (h : sm_H) (d : Nat) (zp : Int) (zw : Int64) : mj_path [(135, (4, 0, sb_135))] sx_sk h 0 [] (d + 12, 135, 98, [some (.inr (.inr 106)), some (.inl (zp)), some (.inr (.inl (zw))), none], [], [], []) = some ((d + 12, 135, 98, [some (.inr (.inr 106)), some (.inl (zp)), some (.inr (.inl (zw))), none], [], [], []), []) := rfl
theorem mi_tab_kpfG_0 : ∀ e ∈ ([(135, (4, 0, sb_135))] : mi_T), sc_P e.1 = some e.2 := mi_tb mi_P135 (mi_tb_e)
set_option maxRecDepth 20000 in
theorem ms_kpfG_0 {h : sm_H} {d : Nat} {Q : Option mi_V → sm_H → Prop} {zp : Int} {zw : Int64} (hS : ab_Sh sx_sk h) (ok_zp : mi_in zp) (kon : ∀ h1, me_W [] h h1 → Q none h1) : me_E (d + 12) 135 98 [some (.inr (.inr 106)), some (.inl (zp)), some (.inr (.inl (zw))), none] [] h Q := mf_seg (mp_kpfG_0 h d zp zw) (mi_tab_kpfG_0) hS (mi_okL_c (trivial) (mi_okL_c (ok_zp) (mi_okL_c (trivial) (mi_okL_n (mi_okL_e))))) (mi_okS_e) (mi_al_e) (fun h1 W _ hst => mf_ret (M := (4, 0, sb_135)) rfl rfl rfl hst (mi_al_e) (kon h1 W))
set_option maxRecDepth 20000 in
theorem mt_kpfG {h : sm_H} {d : Nat} {Q : Option mi_V → sm_H → Prop} {zp : Int} {zw : Int64} (hS : ab_Sh sx_sk h) (ok_zp : mi_in zp) (k0 : (∀ h1, ab_Sh sx_sk h1 → ab_Fr [] h h1 → Q none h1)) : me_E (d + 12) 135 98 [some (.inr (.inr 106)), some (.inl (zp)), some (.inr (.inl (zw))), none] [] h Q := ms_kpfG_0 hS ok_zp (fun h1 W => (k0) h1 W.1 (W.2.2.2.2.2 _ rfl))
set_option maxRecDepth 20000 in
theorem mp_kppA_0 (h : sm_H) (d : Nat) (za zb : Int) : mj_path [(152, (3, 0, sb_152))] sx_sk h 4 [] (d + 4, 152, 0, [some (.inr (.inr 106)), some (.inl (za)), some (.inl (zb))], [], [], []) = some ((d + 4, 152, 6, [some (.inr (.inr 106)), some (.inl (za)), some (.inl (zb))], [.inl (zb), .inl (za), .inr (.inr 102)], [], []), []) := rfl
theorem mi_tab_kppA_0 : ∀ e ∈ ([(152, (3, 0, sb_152))] : mi_T), sc_P e.1 = some e.2 := mi_tb mi_P152 (mi_tb_e)
set_option maxRecDepth 20000 in
theorem ms_kppA_0 {h : sm_H} {d : Nat} {Q : Option mi_V → sm_H → Prop} {za zb : Int} (hS : ab_Sh sx_sk h) (ok_za : mi_in za) (ok_zb : mi_in zb) (kon : ∀ h1, me_W [] h h1 → ∃ Q1, me_E (d + 3) 153 0 (mi_entry 3 [.inr (.inr 102), .inl (za), .inl (zb)]) [] h1 Q1 ∧ ∀ w h2, (∀ x, w = some x → mi_ok x) → Q1 w h2 → me_E (d + 4) 152 9 [some (.inr (.inr 106)), some (.inl (za)), some (.inl (zb))] (mi_back w []) h2 Q) : me_E (d + 4) 152 0 [some (.inr (.inr 106)), some (.inl (za)), some (.inl (zb))] [] h Q := mf_seg (mp_kppA_0 h d za zb) (mi_tab_kppA_0) hS (mi_okL_c (trivial) (mi_okL_c (ok_za) (mi_okL_c (ok_zb) (mi_okL_e)))) (mi_okS_e) (mi_al_e) (fun h1 W _ hst => let ⟨_, k1, k2⟩ := kon h1 W; mf_call (M := (3, 0, sb_152)) (M' := (3, 0, sb_153)) rfl rfl rfl rfl (Nat.le_of_ble_eq_true rfl) (Nat.le_of_ble_eq_true rfl) W.1 k1 k2)
set_option maxRecDepth 20000 in
theorem mt_kppA {h : sm_H} {d : Nat} {Q : Option mi_V → sm_H → Prop} {za zb : Int} (hS : ab_Sh sx_sk h) (ok_za : mi_in za) (ok_zb : mi_in zb) (k0 : (∀ h1, ab_Sh sx_sk h1 → ab_Fr [] h h1 → ∃ Q1, me_E (d + 3) 153 0 (mi_entry 3 [.inr (.inr 102), .inl (za), .inl (zb)]) [] h1 Q1 ∧ ∀ w h2, (∀ x, w = some x → mi_ok x) → Q1 w h2 → me_E (d + 4) 152 9 [some (.inr (.inr 106)), some (.inl (za)), some (.inl (zb))] (mi_back w []) h2 Q)) : me_E (d + 4) 152 0 [some (.inr (.inr 106)), some (.inl (za)), some (.inl (zb))] [] h Q := ms_kppA_0 hS ok_za ok_zb (fun h1 W => (k0) h1 W.1 (W.2.2.2.2.2 _ rfl))
set_option maxRecDepth 20000 in
theorem mp_kppB_0 (h : sm_H) (d : Nat) (za zb : Int) : mj_path [(152, (3, 0, sb_152))] sx_sk h 0 [] (d + 4, 152, 9, [some (.inr (.inr 106)), some (.inl (za)), some (.inl (zb))], [], [], []) = some ((d + 4, 152, 9, [some (.inr (.inr 106)), some (.inl (za)), some (.inl (zb))], [], [], []), []) := rfl
theorem mi_tab_kppB_0 : ∀ e ∈ ([(152, (3, 0, sb_152))] : mi_T), sc_P e.1 = some e.2 := mi_tb mi_P152 (mi_tb_e)
set_option maxRecDepth 20000 in
theorem ms_kppB_0 {h : sm_H} {d : Nat} {Q : Option mi_V → sm_H → Prop} {za zb : Int} (hS : ab_Sh sx_sk h) (ok_za : mi_in za) (ok_zb : mi_in zb) (kon : ∀ h1, me_W [] h h1 → Q none h1) : me_E (d + 4) 152 9 [some (.inr (.inr 106)), some (.inl (za)), some (.inl (zb))] [] h Q := mf_seg (mp_kppB_0 h d za zb) (mi_tab_kppB_0) hS (mi_okL_c (trivial) (mi_okL_c (ok_za) (mi_okL_c (ok_zb) (mi_okL_e)))) (mi_okS_e) (mi_al_e) (fun h1 W _ hst => mf_ret (M := (3, 0, sb_152)) rfl rfl rfl hst (mi_al_e) (kon h1 W))
set_option maxRecDepth 20000 in
theorem mt_kppB {h : sm_H} {d : Nat} {Q : Option mi_V → sm_H → Prop} {za zb : Int} (hS : ab_Sh sx_sk h) (ok_za : mi_in za) (ok_zb : mi_in zb) (k0 : (∀ h1, ab_Sh sx_sk h1 → ab_Fr [] h h1 → Q none h1)) : me_E (d + 4) 152 9 [some (.inr (.inr 106)), some (.inl (za)), some (.inl (zb))] [] h Q := ms_kppB_0 hS ok_za ok_zb (fun h1 W => (k0) h1 W.1 (W.2.2.2.2.2 _ rfl))
/-! segments of the class: walkUse, walkForm, in parsing -/
set_option maxRecDepth 20000 in
theorem mp_kpuA_0 (h : sm_H) (d : Nat) (zr zd : Int) : mj_path [(113, (4, 0, sb_113)), (114, (1, 0, sb_114))] sx_sk h 7 [1] (d + 13, 113, 0, [some (.inr (.inr 106)), some (.inl (zr)), some (.inl (zd)), none], [], [], []) = some ((d + 13, 113, 17, [some (.inr (.inr 106)), some (.inl (zr)), some (.inl (zd)), none], [.inl (zr), .inl ((1 : Int)), .inr (.inr 106)], [], []), [(mi_f h 13573) < ((12 : Int))]) := rfl
theorem mi_tab_kpuA_0 : ∀ e ∈ ([(113, (4, 0, sb_113)), (114, (1, 0, sb_114))] : mi_T), sc_P e.1 = some e.2 := mi_tb mi_P113 (mi_tb mi_P114 (mi_tb_e))
set_option maxRecDepth 20000 in
theorem ms_kpuA_0 {h : sm_H} {d : Nat} {Q : Option mi_V → sm_H → Prop} {zr zd : Int} (hS : ab_Sh sx_sk h) (ok_zr : mi_in zr) (ok_zd : mi_in zd) (ho : ((mi_f h 13573) < ((12 : Int)))) (kon : ∀ h1, me_W [] h h1 → ∃ Q1, me_E (d + 12) 116 0 (mi_entry 4 [.inr (.inr 106), .inl ((1 : Int)), .inl (zr)]) [] h1 Q1 ∧ ∀ w h2, (∀ x, w = some x → mi_ok x) → Q1 w h2 → me_E (d + 13) 113 20 [some (.inr (.inr 106)), some (.inl (zr)), some (.inl (zd)), none] (mi_back w []) h2 Q) : me_E (d + 13) 113 0 [some (.inr (.inr 106)), some (.inl (zr)), some (.inl (zd)), none] [] h Q := mf_seg (mp_kpuA_0 h d zr zd) (mi_tab_kpuA_0) hS (mi_okL_c (trivial) (mi_okL_c (ok_zr) (mi_okL_c (ok_zd) (mi_okL_n (mi_okL_e))))) (mi_okS_e) (mi_al (ho) (mi_al_e)) (fun h1 W _ hst => let ⟨_, k1, k2⟩ := kon h1 W; mf_call (M := (4, 0, sb_113)) (M' := (4, 1, sb_116)) rfl rfl rfl rfl (Nat.le_of_ble_eq_true rfl) (Nat.le_of_ble_eq_true rfl) W.1 k1 k2)
set_option maxRecDepth 20000 in
theorem mp_kpuA_1 (h : sm_H) (d : Nat) (zr zd : Int) : mj_path [(113, (4, 0, sb_113)), (114, (1, 0, sb_114))] sx_sk h 13 [0] (d + 13, 113, 0, [some (.inr (.inr 106)), some (.inl (zr)), some (.inl (zd)), none], [], [], []) = some ((d + 13, 113, 13, [some (.inr (.inr 106)), some (.inl (zr)), some (.inl (zd)), none], [], [.inl (13571, (1 : Int)), .inl (13572, (1 : Int))], []), [((12 : Int)) ≤ (mi_f h 13573), 0 ≤ ((1 : Int)) ∧ ((1 : Int)) ≤ 1, 0 ≤ ((1 : Int)) ∧ ((1 : Int)) ≤ 1, 0 ≤ ((1 : Int)) ∧ ((1 : Int)) ≤ 1, 0 ≤ ((1 : Int)) ∧ ((1 : Int)) ≤ 1]) := rfl
theorem mi_tab_kpuA_1 : ∀ e ∈ ([(113, (4, 0, sb_113)), (114, (1, 0, sb_114))] : mi_T), sc_P e.1 = some e.2 := mi_tb mi_P113 (mi_tb mi_P114 (mi_tb_e))
set_option maxRecDepth 20000 in
theorem ms_kpuA_1 {h : sm_H} {d : Nat} {Q : Option mi_V → sm_H → Prop} {zr zd : Int} (hS : ab_Sh sx_sk h) (ok_zr : mi_in zr) (ok_zd : mi_in zd) (ho : (((12 : Int)) ≤ (mi_f h 13573)) ∧ (0 ≤ ((1 : Int)) ∧ ((1 : Int)) ≤ 1) ∧ (0 ≤ ((1 : Int)) ∧ ((1 : Int)) ≤ 1) ∧ (0 ≤ ((1 : Int)) ∧ ((1 : Int)) ≤ 1) ∧ (0 ≤ ((1 : Int)) ∧ ((1 : Int)) ≤ 1)) (kon : ∀ h1, me_W [.inl (13571, (1 : Int)), .inl (13572, (1 : Int))] h h1 → Q none h1) : me_E (d + 13) 113 0 [some (.inr (.inr 106)), some (.inl (zr)), some (.inl (zd)), none] [] h Q := mf_seg (mp_kpuA_1 h d zr zd) (mi_tab_kpuA_1) hS (mi_okL_c (trivial) (mi_okL_c (ok_zr) (mi_okL_c (ok_zd) (mi_okL_n (mi_okL_e))))) (mi_okS_e) (mi_al (ho.1) (mi_al (ho.2.1) (mi_al (ho.2.2.1) (mi_al (ho.2.2.2.1) (mi_al (ho.2.2.2.2) (mi_al_e)))))) (fun h1 W _ hst => mf_ret (M := (4, 0, sb_113)) rfl rfl rfl hst (mi_al_e) (kon h1 W))
set_option maxRecDepth 20000 in
theorem mt_kpuA {h : sm_H} {d : Nat} {Q : Option mi_V → sm_H → Prop} {zr zd : Int} (hS : ab_Sh sx_sk h) (ok_zr : mi_in zr) (ok_zd : mi_in zd) (k0 : ((-2147483648) ≤ mi_f h 13573 ∧ mi_f h 13573 ≤ 2147483647) → ((mi_f h 13573) < ((12 : Int))) → (∀ h1, ab_Sh sx_sk h1 → ab_Fr [] h h1 → ∃ Q1, me_E (d + 12) 116 0 (mi_entry 4 [.inr (.inr 106), .inl ((1 : Int)), .inl (zr)]) [] h1 Q1 ∧ ∀ w h2, (∀ x, w = some x → mi_ok x) → Q1 w h2 → me_E (d + 13) 113 20 [some (.inr (.inr 106)), some (.inl (zr)), some (.inl (zd)), none] (mi_back w []) h2 Q)) (k1 : ((-2147483648) ≤ mi_f h 13573 ∧ mi_f h 13573 ≤ 2147483647) → (((12 : Int)) ≤ (mi_f h 13573)) → (∀ h1, ab_Sh sx_sk h1 → mi_f h1 13571 = (1 : Int) → mi_f h1 13572 = (1 : Int) → ab_Fr [(13571, 13573)] h h1 → Q none h1)) : me_E (d + 13) 113 0 [some (.inr (.inr 106)), some (.inl (zr)), some (.inl (zd)), none] [] h Q := Or.elim (mi_em .lt ((mi_f h 13573)) (((12 : Int)))) (fun c0 => ms_kpuA_0 hS ok_zr ok_zd (c0) (fun h1 W => (k0 (me_fb hS rfl) c0) h1 W.1 (W.2.2.2.2.2 _ rfl))) (fun c0 => ms_kpuA_1 hS ok_zr ok_zd ⟨c0, (by decide), (by decide), (by decide), (by decide)⟩ (fun h1 W => (k1 (me_fb hS rfl) c0) h1 W.1 (W.2.1 13571) (W.2.1 13572) (W.2.2.2.2.2 _ rfl)))
set_option maxRecDepth 20000 in
theorem mp_kpuB_0 (h : sm_H) (d : Nat) (zr zd zz : Int) : mj_path [(113, (4, 0, sb_113)), (119, (1, 0, sb_119))] sx_sk h 13 [8] (d + 13, 113, 20, [some (.inr (.inr 106)), some (.inl (zr)), some (.inl (zd)), none], [.inl (zz)], [], []) = some ((d + 13, 113, 38, [some (.inr (.inr 106)), some (.inl (zr)), some (.inl (zd)), some (.inl (zz))], [.inl (zd), .inl (zr), .inr (.inr 106)], [.inl (13573, (mi_f h 13573) + ((1 : Int)))], []), [-2147483648 ≤ (mi_f h 13573) + ((1 : Int)) ∧ (mi_f h 13573) + ((1 : Int)) ≤ 2147483647]) := rfl
theorem mi_tab_kpuB_0 : ∀ e ∈ ([(113, (4, 0, sb_113)), (119, (1, 0, sb_119))] : mi_T), sc_P e.1 = some e.2 := mi_tb mi_P113 (mi_tb mi_P119 (mi_tb_e))
set_option maxRecDepth 20000 in
theorem ms_kpuB_0 {h : sm_H} {d : Nat} {Q : Option mi_V → sm_H → Prop} {zr zd zz : Int} (hS : ab_Sh sx_sk h) (ok_zr : mi_in zr) (ok_zd : mi_in zd) (ok_zz : mi_in zz) (ho : (-2147483648 ≤ (mi_f h 13573) + ((1 : Int)) ∧ (mi_f h 13573) + ((1 : Int)) ≤ 2147483647)) (kon : ∀ h1, me_W [.inl (13573, (mi_f h 13573) + ((1 : Int)))] h h1 → ∃ Q1, me_E (d + 12) 120 0 (mi_entry 11 [.inr (.inr 106), .inl (zr), .inl (zd)]) [] h1 Q1 ∧ ∀ w h2, (∀ x, w = some x → mi_ok x) → Q1 w h2 → me_E (d + 13) 113 41 [some (.inr (.inr 106)), some (.inl (zr)), some (.inl (zd)), some (.inl (zz))] (mi_back w []) h2 Q) : me_E (d + 13) 113 20 [some (.inr (.inr 106)), some (.inl (zr)), some (.inl (zd)), none] [.inl (zz)] h Q := mf_seg (mp_kpuB_0 h d zr zd zz) (mi_tab_kpuB_0) hS (mi_okL_c (trivial) (mi_okL_c (ok_zr) (mi_okL_c (ok_zd) (mi_okL_n (mi_okL_e))))) (mi_okS_cons (ok_zz) (mi_okS_e)) (mi_al (ho) (mi_al_e)) (fun h1 W _ hst => let ⟨_, k1, k2⟩ := kon h1 W; mf_call (M := (4, 0, sb_113)) (M' := (11, 0, sb_120)) rfl rfl rfl rfl (Nat.le_of_ble_eq_true rfl) (Nat.le_of_ble_eq_true rfl) W.1 k1 k2)
set_option maxRecDepth 20000 in
theorem mt_kpuB {h : sm_H} {d : Nat} {Q : Option mi_V → sm_H → Prop} {zr zd zz : Int} (hS : ab_Sh sx_sk h) (ok_zr : mi_in zr) (ok_zd : mi_in zd) (ok_zz : mi_in zz) (k0 : ((-2147483648) ≤ mi_f h 13573 ∧ mi_f h 13573 ≤ 2147483647) → ((-2147483648 ≤ (mi_f h 13573) + ((1 : Int)) ∧ (mi_f h 13573) + ((1 : Int)) ≤ 2147483647)) ∧ (∀ h1, ab_Sh sx_sk h1 → mi_f h1 13573 = (mi_f h 13573) + ((1 : Int)) → ab_Fr [(13573, 13574)] h h1 → ∃ Q1, me_E (d + 12) 120 0 (mi_entry 11 [.inr (.inr 106), .inl (zr), .inl (zd)]) [] h1 Q1 ∧ ∀ w h2, (∀ x, w = some x → mi_ok x) → Q1 w h2 → me_E (d + 13) 113 41 [some (.inr (.inr 106)), some (.inl (zr)), some (.inl (zd)), some (.inl (zz))] (mi_back w []) h2 Q)) : me_E (d + 13) 113 20 [some (.inr (.inr 106)), some (.inl (zr)), some (.inl (zd)), none] [.inl (zz)] h Q := ms_kpuB_0 hS ok_zr ok_zd ok_zz ((k0 (me_fb hS rfl)).1) (fun h1 W => (k0 (me_fb hS rfl)).2 h1 W.1 (W.2.1 13573) (W.2.2.2.2.2 _ rfl))
set_option maxRecDepth 20000 in
theorem mp_kpuC_0 (h : sm_H) (d : Nat) (zr zd zz : Int) : mj_path [(113, (4, 0, sb_113))] sx_sk h 8 [8] (d + 13, 113, 41, [some (.inr (.inr 106)), some (.inl (zr)), some (.inl (zd)), some (.inl (zz))], [], [], []) = some ((d + 13, 113, 53, [some (.inr (.inr 106)), some (.inl (zr)), some (.inl (zd)), some (.inl (zz))], [.inl (zz), .inr (.inr 106)], [.inl (13573, (mi_f h 13573) - ((1 : Int)))], []), [-2147483648 ≤ (mi_f h 13573) - ((1 : Int)) ∧ (mi_f h 13573) - ((1 : Int)) ≤ 2147483647]) := rfl
theorem mi_tab_kpuC_0 : ∀ e ∈ ([(113, (4, 0, sb_113))] : mi_T), sc_P e.1 = some e.2 := mi_tb mi_P113 (mi_tb_e)
set_option maxRecDepth 20000 in
theorem ms_kpuC_0 {h : sm_H} {d : Nat} {Q : Option mi_V → sm_H → Prop} {zr zd zz : Int} (hS : ab_Sh sx_sk h) (ok_zr : mi_in zr) (ok_zd : mi_in zd) (ok_zz : mi_in zz) (ho : (-2147483648 ≤ (mi_f h 13573) - ((1 : Int)) ∧ (mi_f h 13573) - ((1 : Int)) ≤ 2147483647)) (kon : ∀ h1, me_W [.inl (13573, (mi_f h 13573) - ((1 : Int)))] h h1 → ∃ Q1, me_E (d + 12) 147 0 (mi_entry 2 [.inr (.inr 106), .inl (zz)]) [] h1 Q1 ∧ ∀ w h2, (∀ x, w = some x → mi_ok x) → Q1 w h2 → me_E (d + 13) 113 56 [some (.inr (.inr 106)), some (.inl (zr)), some (.inl (zd)), some (.inl (zz))] (mi_back w []) h2 Q) : me_E (d + 13) 113 41 [some (.inr (.inr 106)), some (.inl (zr)), some (.inl (zd)), some (.inl (zz))] [] h Q := mf_seg (mp_kpuC_0 h d zr zd zz) (mi_tab_kpuC_0) hS (mi_okL_c (trivial) (mi_okL_c (ok_zr) (mi_okL_c (ok_zd) (mi_okL_c (ok_zz) (mi_okL_e))))) (mi_okS_e) (mi_al (ho) (mi_al_e)) (fun h1 W _ hst => let ⟨_, k1, k2⟩ := kon h1 W; mf_call (M := (4, 0, sb_113)) (M' := (2, 0, sb_147)) rfl rfl rfl rfl (Nat.le_of_ble_eq_true rfl) (Nat.le_of_ble_eq_true rfl) W.1 k1 k2)
set_option maxRecDepth 20000 in
theorem mt_kpuC {h : sm_H} {d : Nat} {Q : Option mi_V → sm_H → Prop} {zr zd zz : Int} (hS : ab_Sh sx_sk h) (ok_zr : mi_in zr) (ok_zd : mi_in zd) (ok_zz : mi_in zz) (k0 : ((-2147483648) ≤ mi_f h 13573 ∧ mi_f h 13573 ≤ 2147483647) → ((-2147483648 ≤ (mi_f h 13573) - ((1 : Int)) ∧ (mi_f h 13573) - ((1 : Int)) ≤ 2147483647)) ∧ (∀ h1, ab_Sh sx_sk h1 → mi_f h1 13573 = (mi_f h 13573) - ((1 : Int)) → ab_Fr [(13573, 13574)] h h1 → ∃ Q1, me_E (d + 12) 147 0 (mi_entry 2 [.inr (.inr 106), .inl (zz)]) [] h1 Q1 ∧ ∀ w h2, (∀ x, w = some x → mi_ok x) → Q1 w h2 → me_E (d + 13) 113 56 [some (.inr (.inr 106)), some (.inl (zr)), some (.inl (zd)), some (.inl (zz))] (mi_back w []) h2 Q)) : me_E (d + 13) 113 41 [some (.inr (.inr 106)), some (.inl (zr)), some (.inl (zd)), some (.inl (zz))] [] h Q := ms_kpuC_0 hS ok_zr ok_zd ok_zz ((k0 (me_fb hS rfl)).1) (fun h1 W => (k0 (me_fb hS rfl)).2 h1 W.1 (W.2.1 13573) (W.2.2.2.2.2 _ rfl))
set_option maxRecDepth 20000 in
theorem mp_kpuD_0 (h : sm_H) (d : Nat) (zr zd zz : Int) : mj_path [(113, (4, 0, sb_113))] sx_sk h 0 [] (d + 13, 113, 56, [some (.inr (.inr 106)), some (.inl (zr)), some (.inl (zd)), some (.inl (zz))], [], [], []) = some ((d + 13, 113, 56, [some (.inr (.inr 106)), some (.inl (zr)), some (.inl (zd)), some (.inl (zz))], [], [], []), []) := rfl
theorem mi_tab_kpuD_0 : ∀ e ∈ ([(113, (4, 0, sb_113))] : mi_T), sc_P e.1 = some e.2 := mi_tb mi_P113 (mi_tb_e)
set_option maxRecDepth 20000 in
theorem ms_kpuD_0 {h : sm_H} {d : Nat} {Q : Option mi_V → sm_H → Prop} {zr zd zz : Int} (hS : ab_Sh sx_sk h) (ok_zr : mi_in zr) (ok_zd : mi_in zd) (ok_zz : mi_in zz) (kon : ∀ h1, me_W [] h h1 → Q none h1) : me_E (d + 13) 113 56 [some (.inr (.inr 106)), some (.inl (zr)), some (.inl (zd)), some (.inl (zz))] [] h Q := mf_seg (mp_kpuD_0 h d zr zd zz) (mi_tab_kpuD_0) hS (mi_okL_c (trivial) (mi_okL_c (ok_zr) (mi_okL_c (ok_zd) (mi_okL_c (ok_zz) (mi_okL_e))))) (mi_okS_e) (mi_al_e) (fun h1 W _ hst => mf_ret (M := (4, 0, sb_113)) rfl rfl rfl hst (mi_al_e) (kon h1 W))
set_option maxRecDepth 20000 in
theorem mt_kpuD {h : sm_H} {d : Nat} {Q : Option mi_V → sm_H → Prop} {zr zd zz : Int} (hS : ab_Sh sx_sk h) (ok_zr : mi_in zr) (ok_zd : mi_in zd) (ok_zz : mi_in zz) (k0 : (∀ h1, ab_Sh sx_sk h1 → ab_Fr [] h h1 → Q none h1)) : me_E (d + 13) 113 56 [some (.inr (.inr 106)), some (.inl (zr)), some (.inl (zd)), some (.inl (zz))] [] h Q := ms_kpuD_0 hS ok_zr ok_zd ok_zz (fun h1 W => (k0) h1 W.1 (W.2.2.2.2.2 _ rfl))
set_option maxRecDepth 20000 in
theorem mp_kpwA_0 (h : sm_H) (d : Nat) (zf zd : Int) : mj_path [(120, (11, 0, sb_120)), (16, (3, 0, sb_16)), (49, (2, 1, sb_49)), (72, (2, 2, sb_72))] sx_sk h 6 [1] (d + 12, 120, 0, [some (.inr (.inr 106)), some (.inl (zf)), some (.inl (zd)), none, none, none, none, none, none, none, none], [], [], []) = some ((d + 12, 120, 18, [some (.inr (.inr 106)), some (.inl (zf)), some (.inl (zd)), none, none, none, none, none, none, none, none], [], [.inl (13571, (1 : Int))], []), [(mi_f h 13571) ≠ ((0 : Int)), 0 ≤ ((1 : Int)) ∧ ((1 : Int)) ≤ 1, 0 ≤ ((1 : Int)) ∧ ((1 : Int)) ≤ 1]) := rfl
theorem mi_tab_kpwA_0 : ∀ e ∈ ([(120, (11, 0, sb_120)), (16, (3, 0, sb_16)), (49, (2, 1, sb_49)), (72, (2, 2, sb_72))] : mi_T), sc_P e.1 = some e.2 := mi_tb mi_P120 (mi_tb mi_P16 (mi_tb mi_P49 (mi_tb mi_P72 (mi_tb_e))))
set_option maxRecDepth 20000 in
theorem ms_kpwA_0 {h : sm_H} {d : Nat} {Q : Option mi_V → sm_H → Prop} {zf zd : Int} (hS : ab_Sh sx_sk h) (ok_zf : mi_in zf) (ok_zd : mi_in zd) (ho : ((mi_f h 13571) ≠ ((0 : Int))) ∧ (0 ≤ ((1 : Int)) ∧ ((1 : Int)) ≤ 1) ∧ (0 ≤ ((1 : Int)) ∧ ((1 : Int)) ≤ 1)) (kon : ∀ h1, me_W [.inl (13571, (1 : Int))] h h1 → Q none h1) : me_E (d + 12) 120 0 [some (.inr (.inr 106)), some (.inl (zf)), some (.inl (zd)), none, none, none, none, none, none, none, none] [] h Q := mf_seg (mp_kpwA_0 h d zf zd) (mi_tab_kpwA_0) hS (mi_okL_c (trivial) (mi_okL_c (ok_zf) (mi_okL_c (ok_zd) (mi_okL_n (mi_okL_n (mi_okL_n (mi_okL_n (mi_okL_n (mi_okL_n (mi_okL_n (mi_okL_n (mi_okL_e)))))))))))) (mi_okS_e) (mi_al (ho.1) (mi_al (ho.2.1) (mi_al (ho.2.2) (mi_al_e)))) (fun h1 W _ hst => mf_ret (M := (11, 0, sb_120)) rfl rfl rfl hst (mi_al_e) (kon h1 W))
set_option maxRecDepth 20000 in
theorem mp_kpwA_1 (h : sm_H) (d : Nat) (zf zd : Int) : mj_path [(120, (11, 0, sb_120)), (16, (3, 0, sb_16)), (49, (2, 1, sb_49)), (72, (2, 2, sb_72))] sx_sk h 23 [0, 1, 1, 1, 1] (d + 12, 120, 0, [some (.inr (.inr 106)), some (.inl (zf)), some (.inl (zd)), none, none, none, none, none, none, none, none], [], [], []) = some ((d + 12, 120, 55, [some (.inr (.inr 106)), some (.inl (zf)), some (.inl (zd)), some (.inl ((0 : Int))), some (.inl ((0 : Int))), none, none, none, none, none, none], [], [], []), [(mi_f h 13571) = ((0 : Int)), zd < ((60 : Int)), zf < ((0 : Int)), ((0 : Int)) ≤ ((1 : Int)), ((0 : Int)) = ((0 : Int))]) := rfl
theorem mi_tab_kpwA_1 : ∀ e ∈ ([(120, (11, 0, sb_120)), (16, (3, 0, sb_16)), (49, (2, 1, sb_49)), (72, (2, 2, sb_72))] : mi_T), sc_P e.1 = some e.2 := mi_tb mi_P120 (mi_tb mi_P16 (mi_tb mi_P49 (mi_tb mi_P72 (mi_tb_e))))
set_option maxRecDepth 20000 in
theorem ms_kpwA_1 {h : sm_H} {d : Nat} {Q : Option mi_V → sm_H → Prop} {zf zd : Int} (hS : ab_Sh sx_sk h) (ok_zf : mi_in zf) (ok_zd : mi_in zd) (ho : ((mi_f h 13571) = ((0 : Int))) ∧ (zd < ((60 : Int))) ∧ (zf < ((0 : Int))) ∧ (((0 : Int)) ≤ ((1 : Int))) ∧ (((0 : Int)) = ((0 : Int)))) (kon : ∀ h1, me_W [] h h1 → me_E (d + 12) 120 55 [some (.inr (.inr 106)), some (.inl (zf)), some (.inl (zd)), some (.inl ((0 : Int))), some (.inl ((0 : Int))), none, none, none, none, none, none] [] h1 Q) : me_E (d + 12) 120 0 [some (.inr (.inr 106)), some (.inl (zf)), some (.inl (zd)), none, none, none, none, none, none, none, none] [] h Q := mf_seg (mp_kpwA_1 h d zf zd) (mi_tab_kpwA_1) hS (mi_okL_c (trivial) (mi_okL_c (ok_zf) (mi_okL_c (ok_zd) (mi_okL_n (mi_okL_n (mi_okL_n (mi_okL_n (mi_okL_n (mi_okL_n (mi_okL_n (mi_okL_n (mi_okL_e)))))))))))) (mi_okS_e) (mi_al (ho.1) (mi_al (ho.2.1) (mi_al (ho.2.2.1) (mi_al (ho.2.2.2.1) (mi_al (ho.2.2.2.2) (mi_al_e)))))) (fun h1 W _ hst => kon h1 W)
set_option maxRecDepth 20000 in
theorem mp_kpwA_2 (h : sm_H) (d : Nat) (zf zd : Int) : mj_path [(120, (11, 0, sb_120)), (16, (3, 0, sb_16)), (49, (2, 1, sb_49)), (72, (2, 2, sb_72))] sx_sk h 27 [0, 1, 0, 1, 1, 1] (d + 12, 120, 0, [some (.inr (.inr 106)), some (.inl (zf)), some (.inl (zd)), none, none, none, none, none, none, none, none], [], [], []) = some ((d + 12, 120, 55, [some (.inr (.inr 106)), some (.inl (zf)), some (.inl (zd)), some (.inl ((0 : Int))), some (.inl ((0 : Int))), none, none, none, none, none, none], [], [], []), [(mi_f h 13571) = ((0 : Int)), zd < ((60 : Int)), ((0 : Int)) ≤ zf, ((70 : Int)) ≤ zf, ((0 : Int)) ≤ ((1 : Int)), ((0 : Int)) = ((0 : Int))]) := rfl
theorem mi_tab_kpwA_2 : ∀ e ∈ ([(120, (11, 0, sb_120)), (16, (3, 0, sb_16)), (49, (2, 1, sb_49)), (72, (2, 2, sb_72))] : mi_T), sc_P e.1 = some e.2 := mi_tb mi_P120 (mi_tb mi_P16 (mi_tb mi_P49 (mi_tb mi_P72 (mi_tb_e))))
set_option maxRecDepth 20000 in
theorem ms_kpwA_2 {h : sm_H} {d : Nat} {Q : Option mi_V → sm_H → Prop} {zf zd : Int} (hS : ab_Sh sx_sk h) (ok_zf : mi_in zf) (ok_zd : mi_in zd) (ho : ((mi_f h 13571) = ((0 : Int))) ∧ (zd < ((60 : Int))) ∧ (((0 : Int)) ≤ zf) ∧ (((70 : Int)) ≤ zf) ∧ (((0 : Int)) ≤ ((1 : Int))) ∧ (((0 : Int)) = ((0 : Int)))) (kon : ∀ h1, me_W [] h h1 → me_E (d + 12) 120 55 [some (.inr (.inr 106)), some (.inl (zf)), some (.inl (zd)), some (.inl ((0 : Int))), some (.inl ((0 : Int))), none, none, none, none, none, none] [] h1 Q) : me_E (d + 12) 120 0 [some (.inr (.inr 106)), some (.inl (zf)), some (.inl (zd)), none, none, none, none, none, none, none, none] [] h Q := mf_seg (mp_kpwA_2 h d zf zd) (mi_tab_kpwA_2) hS (mi_okL_c (trivial) (mi_okL_c (ok_zf) (mi_okL_c (ok_zd) (mi_okL_n (mi_okL_n (mi_okL_n (mi_okL_n (mi_okL_n (mi_okL_n (mi_okL_n (mi_okL_n (mi_okL_e)))))))))))) (mi_okS_e) (mi_al (ho.1) (mi_al (ho.2.1) (mi_al (ho.2.2.1) (mi_al (ho.2.2.2.1) (mi_al (ho.2.2.2.2.1) (mi_al (ho.2.2.2.2.2) (mi_al_e))))))) (fun h1 W _ hst => kon h1 W)
set_option maxRecDepth 20000 in
theorem mp_kpwA_3 (h : sm_H) (d : Nat) (zf zd : Int) : mj_path [(120, (11, 0, sb_120)), (16, (3, 0, sb_16)), (49, (2, 1, sb_49)), (72, (2, 2, sb_72))] sx_sk h 30 [0, 1, 0, 0, 1, 1] (d + 12, 120, 0, [some (.inr (.inr 106)), some (.inl (zf)), some (.inl (zd)), none, none, none, none, none, none, none, none], [], [], []) = some ((d + 12, 120, 55, [some (.inr (.inr 106)), some (.inl (zf)), some (.inl (zd)), some (.inl ((0 : Int))), some (.inl ((0 : Int))), none, none, none, none, none, none], [], [], []), [(mi_f h 13571) = ((0 : Int)), zd < ((60 : Int)), ((0 : Int)) ≤ zf, zf < ((70 : Int)), 0 ≤ zf ∧ zf < 70, (mi_a h 64 (Int.toNat zf)) ≤ ((1 : Int)), ((0 : Int)) = ((0 : Int))]) := rfl
theorem mi_tab_kpwA_3 : ∀ e ∈ ([(120, (11, 0, sb_120)), (16, (3, 0, sb_16)), (49, (2, 1, sb_49)), (72, (2, 2, sb_72))] : mi_T), sc_P e.1 = some e.2 := mi_tb mi_P120 (mi_tb mi_P16 (mi_tb mi_P49 (mi_tb mi_P72 (mi_tb_e))))
set_option maxRecDepth 20000 in
theorem ms_kpwA_3 {h : sm_H} {d : Nat} {Q : Option mi_V → sm_H → Prop} {zf zd : Int} (hS : ab_Sh sx_sk h) (ok_zf : mi_in zf) (ok_zd : mi_in zd) (ho : ((mi_f h 13571) = ((0 : Int))) ∧ (zd < ((60 : Int))) ∧ (((0 : Int)) ≤ zf) ∧ (zf < ((70 : Int))) ∧ (0 ≤ zf ∧ zf < 70) ∧ ((mi_a h 64 (Int.toNat zf)) ≤ ((1 : Int))) ∧ (((0 : Int)) = ((0 : Int)))) (kon : ∀ h1, me_W [] h h1 → me_E (d + 12) 120 55 [some (.inr (.inr 106)), some (.inl (zf)), some (.inl (zd)), some (.inl ((0 : Int))), some (.inl ((0 : Int))), none, none, none, none, none, none] [] h1 Q) : me_E (d + 12) 120 0 [some (.inr (.inr 106)), some (.inl (zf)), some (.inl (zd)), none, none, none, none, none, none, none, none] [] h Q := mf_seg (mp_kpwA_3 h d zf zd) (mi_tab_kpwA_3) hS (mi_okL_c (trivial) (mi_okL_c (ok_zf) (mi_okL_c (ok_zd) (mi_okL_n (mi_okL_n (mi_okL_n (mi_okL_n (mi_okL_n (mi_okL_n (mi_okL_n (mi_okL_n (mi_okL_e)))))))))))) (mi_okS_e) (mi_al (ho.1) (mi_al (ho.2.1) (mi_al (ho.2.2.1) (mi_al (ho.2.2.2.1) (mi_al (ho.2.2.2.2.1) (mi_al (ho.2.2.2.2.2.1) (mi_al (ho.2.2.2.2.2.2) (mi_al_e)))))))) (fun h1 W _ hst => kon h1 W)
set_option maxRecDepth 20000 in
theorem mp_kpwA_4 (h : sm_H) (d : Nat) (zf zd : Int) : mj_path [(120, (11, 0, sb_120)), (16, (3, 0, sb_16)), (49, (2, 1, sb_49)), (72, (2, 2, sb_72))] sx_sk h 31 [0, 1, 0, 0, 0, 0] (d + 12, 120, 0, [some (.inr (.inr 106)), some (.inl (zf)), some (.inl (zd)), none, none, none, none, none, none, none, none], [], [], []) = some ((d + 12, 120, 46, [some (.inr (.inr 106)), some (.inl (zf)), some (.inl (zd)), some (.inl ((1 : Int))), none, none, none, none, none, none, none], [.inl (zf), .inr (.inr 106)], [], []), [(mi_f h 13571) = ((0 : Int)), zd < ((60 : Int)), ((0 : Int)) ≤ zf, zf < ((70 : Int)), 0 ≤ zf ∧ zf < 70, ((1 : Int)) < (mi_a h 64 (Int.toNat zf)), ((1 : Int)) ≠ ((0 : Int))]) := rfl
theorem mi_tab_kpwA_4 : ∀ e ∈ ([(120, (11, 0, sb_120)), (16, (3, 0, sb_16)), (49, (2, 1, sb_49)), (72, (2, 2, sb_72))] : mi_T), sc_P e.1 = some e.2 := mi_tb mi_P120 (mi_tb mi_P16 (mi_tb mi_P49 (mi_tb mi_P72 (mi_tb_e))))
set_option maxRecDepth 20000 in
theorem ms_kpwA_4 {h : sm_H} {d : Nat} {Q : Option mi_V → sm_H → Prop} {zf zd : Int} (hS : ab_Sh sx_sk h) (ok_zf : mi_in zf) (ok_zd : mi_in zd) (ho : ((mi_f h 13571) = ((0 : Int))) ∧ (zd < ((60 : Int))) ∧ (((0 : Int)) ≤ zf) ∧ (zf < ((70 : Int))) ∧ (0 ≤ zf ∧ zf < 70) ∧ (((1 : Int)) < (mi_a h 64 (Int.toNat zf))) ∧ (((1 : Int)) ≠ ((0 : Int)))) (kon : ∀ h1, me_W [] h h1 → ∃ Q1, me_E (d + 11) 124 0 (mi_entry 4 [.inr (.inr 106), .inl (zf)]) [] h1 Q1 ∧ ∀ w h2, (∀ x, w = some x → mi_ok x) → Q1 w h2 → me_E (d + 12) 120 49 [some (.inr (.inr 106)), some (.inl (zf)), some (.inl (zd)), some (.inl ((1 : Int))), none, none, none, none, none, none, none] (mi_back w []) h2 Q) : me_E (d + 12) 120 0 [some (.inr (.inr 106)), some (.inl (zf)), some (.inl (zd)), none, none, none, none, none, none, none, none] [] h Q := mf_seg (mp_kpwA_4 h d zf zd) (mi_tab_kpwA_4) hS (mi_okL_c (trivial) (mi_okL_c (ok_zf) (mi_okL_c (ok_zd) (mi_okL_n (mi_okL_n (mi_okL_n (mi_okL_n (mi_okL_n (mi_okL_n (mi_okL_n (mi_okL_n (mi_okL_e)))))))))))) (mi_okS_e) (mi_al (ho.1) (mi_al (ho.2.1) (mi_al (ho.2.2.1) (mi_al (ho.2.2.2.1) (mi_al (ho.2.2.2.2.1) (mi_al (ho.2.2.2.2.2.1) (mi_al (ho.2.2.2.2.2.2) (mi_al_e)))))))) (fun h1 W _ hst => let ⟨_, k1, k2⟩ := kon h1 W; mf_call (M := (11, 0, sb_120)) (M' := (4, 1, sb_124)) rfl rfl rfl rfl (Nat.le_of_ble_eq_true rfl) (Nat.le_of_ble_eq_true rfl) W.1 k1 k2)
set_option maxRecDepth 20000 in
theorem mp_kpwA_5 (h : sm_H) (d : Nat) (zf zd : Int) : mj_path [(120, (11, 0, sb_120)), (16, (3, 0, sb_16)), (49, (2, 1, sb_49)), (72, (2, 2, sb_72))] sx_sk h 9 [0, 0] (d + 12, 120, 0, [some (.inr (.inr 106)), some (.inl (zf)), some (.inl (zd)), none, none, none, none, none, none, none, none], [], [], []) = some ((d + 12, 120, 18, [some (.inr (.inr 106)), some (.inl (zf)), some (.inl (zd)), none, none, none, none, none, none, none, none], [], [.inl (13571, (1 : Int))], []), [(mi_f h 13571) = ((0 : Int)), ((60 : Int)) ≤ zd, 0 ≤ ((1 : Int)) ∧ ((1 : Int)) ≤ 1, 0 ≤ ((1 : Int)) ∧ ((1 : Int)) ≤ 1]) := rfl
theorem mi_tab_kpwA_5 : ∀ e ∈ ([(120, (11, 0, sb_120)), (16, (3, 0, sb_16)), (49, (2, 1, sb_49)), (72, (2, 2, sb_72))] : mi_T), sc_P e.1 = some e.2 := mi_tb mi_P120 (mi_tb mi_P16 (mi_tb mi_P49 (mi_tb mi_P72 (mi_tb_e))))
set_option maxRecDepth 20000 in
theorem ms_kpwA_5 {h : sm_H} {d : Nat} {Q : Option mi_V → sm_H → Prop} {zf zd : Int} (hS : ab_Sh sx_sk h) (ok_zf : mi_in zf) (ok_zd : mi_in zd) (ho : ((mi_f h 13571) = ((0 : Int))) ∧ (((60 : Int)) ≤ zd) ∧ (0 ≤ ((1 : Int)) ∧ ((1 : Int)) ≤ 1) ∧ (0 ≤ ((1 : Int)) ∧ ((1 : Int)) ≤ 1)) (kon : ∀ h1, me_W [.inl (13571, (1 : Int))] h h1 → Q none h1) : me_E (d + 12) 120 0 [some (.inr (.inr 106)), some (.inl (zf)), some (.inl (zd)), none, none, none, none, none, none, none, none] [] h Q := mf_seg (mp_kpwA_5 h d zf zd) (mi_tab_kpwA_5) hS (mi_okL_c (trivial) (mi_okL_c (ok_zf) (mi_okL_c (ok_zd) (mi_okL_n (mi_okL_n (mi_okL_n (mi_okL_n (mi_okL_n (mi_okL_n (mi_okL_n (mi_okL_n (mi_okL_e)))))))))))) (mi_okS_e) (mi_al (ho.1) (mi_al (ho.2.1) (mi_al (ho.2.2.1) (mi_al (ho.2.2.2) (mi_al_e))))) (fun h1 W _ hst => mf_ret (M := (11, 0, sb_120)) rfl rfl rfl hst (mi_al_e) (kon h1 W))
set_option maxRecDepth 20000 in
theorem mt_kpwA {h : sm_H} {d : Nat} {Q : Option mi_V → sm_H → Prop} {zf zd : Int} (hS : ab_Sh sx_sk h) (ok_zf : mi_in zf) (ok_zd : mi_in zd) (k0 : (0 ≤ mi_f h 13571 ∧ mi_f h 13571 ≤ 1) → ((mi_f h 13571) ≠ ((0 : Int))) → (∀ h1, ab_Sh sx_sk h1 → mi_f h1 13571 = (1 : Int) → ab_Fr [(13571, 13572)] h h1 → Q none h1)) (k1 : (0 ≤ mi_f h 13571 ∧ mi_f h 13571 ≤ 1) → ((mi_f h 13571) = ((0 : Int))) → (zd < ((60 : Int))) → (zf < ((0 : Int))) → (∀ h1, ab_Sh sx_sk h1 → ab_Fr [] h h1 → me_E (d + 12) 120 55 [some (.inr (.inr 106)), some (.inl (zf)), some (.inl (zd)), some (.inl ((0 : Int))), some (.inl ((0 : Int))), none, none, none, none, none, none] [] h1 Q)) (k2 : (0 ≤ mi_f h 13571 ∧ mi_f h 13571 ≤ 1) → ((mi_f h 13571) = ((0 : Int))) → (zd < ((60 : Int))) → (((0 : Int)) ≤ zf) → (((70 : Int)) ≤ zf) → (∀ h1, ab_Sh sx_sk h1 → ab_Fr [] h h1 → me_E (d + 12) 120 55 [some (.inr (.inr 106)), some (.inl (zf)), some (.inl (zd)), some (.inl ((0 : Int))), some (.inl ((0 : Int))), none, none, none, none, none, none] [] h1 Q)) (k3 : (0 ≤ mi_f h 13571 ∧ mi_f h 13571 ≤ 1) → ((mi_f h 13571) = ((0 : Int))) → (zd < ((60 : Int))) → (((0 : Int)) ≤ zf) → (zf < ((70 : Int))) → ((mi_a h 64 (Int.toNat zf)) ≤ ((1 : Int))) → ((0 ≤ zf ∧ zf < 70)) ∧ (∀ h1, ab_Sh sx_sk h1 → ab_Fr [] h h1 → me_E (d + 12) 120 55 [some (.inr (.inr 106)), some (.inl (zf)), some (.inl (zd)), some (.inl ((0 : Int))), some (.inl ((0 : Int))), none, none, none, none, none, none] [] h1 Q)) (k4 : (0 ≤ mi_f h 13571 ∧ mi_f h 13571 ≤ 1) → ((mi_f h 13571) = ((0 : Int))) → (zd < ((60 : Int))) → (((0 : Int)) ≤ zf) → (zf < ((70 : Int))) → (((1 : Int)) < (mi_a h 64 (Int.toNat zf))) → ((0 ≤ zf ∧ zf < 70)) ∧ (∀ h1, ab_Sh sx_sk h1 → ab_Fr [] h h1 → ∃ Q1, me_E (d + 11) 124 0 (mi_entry 4 [.inr (.inr 106), .inl (zf)]) [] h1 Q1 ∧ ∀ w h2, (∀ x, w = some x → mi_ok x) → Q1 w h2 → me_E (d + 12) 120 49 [some (.inr (.inr 106)), some (.inl (zf)), some (.inl (zd)), some (.inl ((1 : Int))), none, none, none, none, none, none, none] (mi_back w []) h2 Q)) (k5 : (0 ≤ mi_f h 13571 ∧ mi_f h 13571 ≤ 1) → ((mi_f h 13571) = ((0 : Int))) → (((60 : Int)) ≤ zd) → (∀ h1, ab_Sh sx_sk h1 → mi_f h1 13571 = (1 : Int) → ab_Fr [(13571, 13572)] h h1 → Q none h1)) : me_E (d + 12) 120 0 [some (.inr (.inr 106)), some (.inl (zf)), some (.inl (zd)), none, none, none, none, none, none, none, none] [] h Q := Or.elim (mi_em .ne ((mi_f h 13571)) (((0 : Int)))) (fun c0 => ms_kpwA_0 hS ok_zf ok_zd ⟨c0, (by decide), (by decide)⟩ (fun h1 W => (k0 (me_fb hS rfl) c0) h1 W.1 (W.2.1 13571) (W.2.2.2.2.2 _ rfl))) (fun c0 => Or.elim (mi_em .lt (zd) (((60 : Int)))) (fun c1 => Or.elim (mi_em .lt (zf) (((0 : Int)))) (fun c2 => ms_kpwA_1 hS ok_zf ok_zd ⟨c0, c1, c2, (by decide), (by decide)⟩ (fun h1 W => (k1 (me_fb hS rfl) c0 c1 c2) h1 W.1 (W.2.2.2.2.2 _ rfl))) (fun c2 => Or.elim (mi_em .ge (zf) (((70 : Int)))) (fun c3 => ms_kpwA_2 hS ok_zf ok_zd ⟨c0, c1, c2, c3, (by decide), (by decide)⟩ (fun h1 W => (k2 (me_fb hS rfl) c0 c1 c2 c3) h1 W.1 (W.2.2.2.2.2 _ rfl))) (fun c3 => Or.elim (mi_em .le ((mi_a h 64 (Int.toNat zf))) (((1 : Int)))) (fun c4 => ms_kpwA_3 hS ok_zf ok_zd ⟨c0, c1, c2, c3, (k3 (me_fb hS rfl) c0 c1 c2 c3 c4).1, c4, (by decide)⟩ (fun h1 W => (k3 (me_fb hS rfl) c0 c1 c2 c3 c4).2 h1 W.1 (W.2.2.2.2.2 _ rfl))) (fun c4 => ms_kpwA_4 hS ok_zf ok_zd ⟨c0, c1, c2, c3, (k4 (me_fb hS rfl) c0 c1 c2 c3 c4).1, c4, (by decide)⟩ (fun h1 W => (k4 (me_fb hS rfl) c0 c1 c2 c3 c4).2 h1 W.1 (W.2.2.2.2.2 _ rfl)))))) (fun c1 => ms_kpwA_5 hS ok_zf ok_zd ⟨c0, c1, (by decide), (by decide)⟩ (fun h1 W => (k5 (me_fb hS rfl) c0 c1) h1 W.1 (W.2.1 13571) (W.2.2.2.2.2 _ rfl))))
set_option maxRecDepth 20000 in
theorem mp_kpwB_0 (h : sm_H) (d : Nat) (zf zd zi zz : Int) : mj_path [(120, (11, 0, sb_120))] sx_sk h 2 [] (d + 16, 120, 49, [some (.inr (.inr 106)), some (.inl (zf)), some (.inl (zd)), some (.inl (zi)), none, none, none, none, none, none, none], [.inl (zz)], [], []) = some ((d + 16, 120, 55, [some (.inr (.inr 106)), some (.inl (zf)), some (.inl (zd)), some (.inl (zi)), some (.inl (zz)), none, none, none, none, none, none], [], [], []), []) := rfl
theorem mi_tab_kpwB_0 : ∀ e ∈ ([(120, (11, 0, sb_120))] : mi_T), sc_P e.1 = some e.2 := mi_tb mi_P120 (mi_tb_e)
set_option maxRecDepth 20000 in
theorem ms_kpwB_0 {h : sm_H} {d : Nat} {Q : Option mi_V → sm_H → Prop} {zf zd zi zz : Int} (hS : ab_Sh sx_sk h) (ok_zf : mi_in zf) (ok_zd : mi_in zd) (ok_zi : mi_in zi) (ok_zz : mi_in zz) (kon : ∀ h1, me_W [] h h1 → me_E (d + 16) 120 55 [some (.inr (.inr 106)), some (.inl (zf)), some (.inl (zd)), some (.inl (zi)), some (.inl (zz)), none, none, none, none, none, none] [] h1 Q) : me_E (d + 16) 120 49 [some (.inr (.inr 106)), some (.inl (zf)), some (.inl (zd)), some (.inl (zi)), none, none, none, none, none, none, none] [.inl (zz)] h Q := mf_seg (mp_kpwB_0 h d zf zd zi zz) (mi_tab_kpwB_0) hS (mi_okL_c (trivial) (mi_okL_c (ok_zf) (mi_okL_c (ok_zd) (mi_okL_c (ok_zi) (mi_okL_n (mi_okL_n (mi_okL_n (mi_okL_n (mi_okL_n (mi_okL_n (mi_okL_n (mi_okL_e)))))))))))) (mi_okS_cons (ok_zz) (mi_okS_e)) (mi_al_e) (fun h1 W _ hst => kon h1 W)
set_option maxRecDepth 20000 in
theorem mt_kpwB {h : sm_H} {d : Nat} {Q : Option mi_V → sm_H → Prop} {zf zd zi zz : Int} (hS : ab_Sh sx_sk h) (ok_zf : mi_in zf) (ok_zd : mi_in zd) (ok_zi : mi_in zi) (ok_zz : mi_in zz) (k0 : (∀ h1, ab_Sh sx_sk h1 → ab_Fr [] h h1 → me_E (d + 16) 120 55 [some (.inr (.inr 106)), some (.inl (zf)), some (.inl (zd)), some (.inl (zi)), some (.inl (zz)), none, none, none, none, none, none] [] h1 Q)) : me_E (d + 16) 120 49 [some (.inr (.inr 106)), some (.inl (zf)), some (.inl (zd)), some (.inl (zi)), none, none, none, none, none, none, none] [.inl (zz)] h Q := ms_kpwB_0 hS ok_zf ok_zd ok_zi ok_zz (fun h1 W => (k0) h1 W.1 (W.2.2.2.2.2 _ rfl))
set_option maxRecDepth 20000 in
theorem mp_kpwC_0 (h : sm_H) (d : Nat) (zf zd zi zw : Int) : mj_path [(120, (11, 0, sb_120))] sx_sk h 4 [1] (d + 16, 120, 55, [some (.inr (.inr 106)), some (.inl (zf)), some (.inl (zd)), some (.inl (zi)), some (.inl (zw)), none, none, none, none, none, none], [], [], []) = some ((d + 16, 120, 79, [some (.inr (.inr 106)), some (.inl (zf)), some (.inl (zd)), some (.inl (zi)), some (.inl (zw)), some (.inl ((-1 : Int))), none, none, none, none, none], [], [], []), [zi = ((0 : Int))]) := rfl
theorem mi_tab_kpwC_0 : ∀ e ∈ ([(120, (11, 0, sb_120))] : mi_T), sc_P e.1 = some e.2 := mi_tb mi_P120 (mi_tb_e)
set_option maxRecDepth 20000 in
theorem ms_kpwC_0 {h : sm_H} {d : Nat} {Q : Option mi_V → sm_H → Prop} {zf zd zi zw : Int} (hS : ab_Sh sx_sk h) (ok_zf : mi_in zf) (ok_zd : mi_in zd) (ok_zi : mi_in zi) (ok_zw : mi_in zw) (ho : (zi = ((0 : Int)))) (kon : ∀ h1, me_W [] h h1 → me_E (d + 16) 120 79 [some (.inr (.inr 106)), some (.inl (zf)), some (.inl (zd)), some (.inl (zi)), some (.inl (zw)), some (.inl ((-1 : Int))), none, none, none, none, none] [] h1 Q) : me_E (d + 16) 120 55 [some (.inr (.inr 106)), some (.inl (zf)), some (.inl (zd)), some (.inl (zi)), some (.inl (zw)), none, none, none, none, none, none] [] h Q := mf_seg (mp_kpwC_0 h d zf zd zi zw) (mi_tab_kpwC_0) hS (mi_okL_c (trivial) (mi_okL_c (ok_zf) (mi_okL_c (ok_zd) (mi_okL_c (ok_zi) (mi_okL_c (ok_zw) (mi_okL_n (mi_okL_n (mi_okL_n (mi_okL_n (mi_okL_n (mi_okL_n (mi_okL_e)))))))))))) (mi_okS_e) (mi_al (ho) (mi_al_e)) (fun h1 W _ hst => kon h1 W)
set_option maxRecDepth 20000 in
theorem mp_kpwC_1 (h : sm_H) (d : Nat) (zf zd zi zw : Int) : mj_path [(120, (11, 0, sb_120))] sx_sk h 7 [0, 1] (d + 16, 120, 55, [some (.inr (.inr 106)), some (.inl (zf)), some (.inl (zd)), some (.inl (zi)), some (.inl (zw)), none, none, none, none, none, none], [], [], []) = some ((d + 16, 120, 79, [some (.inr (.inr 106)), some (.inl (zf)), some (.inl (zd)), some (.inl (zi)), some (.inl (zw)), some (.inl ((-1 : Int))), none, none, none, none, none], [], [], []), [zi ≠ ((0 : Int)), (mi_f h 13571) ≠ ((0 : Int))]) := rfl
theorem mi_tab_kpwC_1 : ∀ e ∈ ([(120, (11, 0, sb_120))] : mi_T), sc_P e.1 = some e.2 := mi_tb mi_P120 (mi_tb_e)
set_option maxRecDepth 20000 in
theorem ms_kpwC_1 {h : sm_H} {d : Nat} {Q : Option mi_V → sm_H → Prop} {zf zd zi zw : Int} (hS : ab_Sh sx_sk h) (ok_zf : mi_in zf) (ok_zd : mi_in zd) (ok_zi : mi_in zi) (ok_zw : mi_in zw) (ho : (zi ≠ ((0 : Int))) ∧ ((mi_f h 13571) ≠ ((0 : Int)))) (kon : ∀ h1, me_W [] h h1 → me_E (d + 16) 120 79 [some (.inr (.inr 106)), some (.inl (zf)), some (.inl (zd)), some (.inl (zi)), some (.inl (zw)), some (.inl ((-1 : Int))), none, none, none, none, none] [] h1 Q) : me_E (d + 16) 120 55 [some (.inr (.inr 106)), some (.inl (zf)), some (.inl (zd)), some (.inl (zi)), some (.inl (zw)), none, none, none, none, none, none] [] h Q := mf_seg (mp_kpwC_1 h d zf zd zi zw) (mi_tab_kpwC_1) hS (mi_okL_c (trivial) (mi_okL_c (ok_zf) (mi_okL_c (ok_zd) (mi_okL_c (ok_zi) (mi_okL_c (ok_zw) (mi_okL_n (mi_okL_n (mi_okL_n (mi_okL_n (mi_okL_n (mi_okL_n (mi_okL_e)))))))))))) (mi_okS_e) (mi_al (ho.1) (mi_al (ho.2) (mi_al_e))) (fun h1 W _ hst => kon h1 W)
set_option maxRecDepth 20000 in
theorem mp_kpwC_2 (h : sm_H) (d : Nat) (zf zd zi zw : Int) : mj_path [(120, (11, 0, sb_120))] sx_sk h 8 [0, 0] (d + 16, 120, 55, [some (.inr (.inr 106)), some (.inl (zf)), some (.inl (zd)), some (.inl (zi)), some (.inl (zw)), none, none, none, none, none, none], [], [], []) = some ((d + 16, 120, 70, [some (.inr (.inr 106)), some (.inl (zf)), some (.inl (zd)), some (.inl (zi)), some (.inl (zw)), none, none, none, none, none, none], [.inl (zw), .inl ((4 : Int)), .inr (.inr 106)], [], []), [zi ≠ ((0 : Int)), (mi_f h 13571) = ((0 : Int))]) := rfl
theorem mi_tab_kpwC_2 : ∀ e ∈ ([(120, (11, 0, sb_120))] : mi_T), sc_P e.1 = some e.2 := mi_tb mi_P120 (mi_tb_e)
set_option maxRecDepth 20000 in
theorem ms_kpwC_2 {h : sm_H} {d : Nat} {Q : Option mi_V → sm_H → Prop} {zf zd zi zw : Int} (hS : ab_Sh sx_sk h) (ok_zf : mi_in zf) (ok_zd : mi_in zd) (ok_zi : mi_in zi) (ok_zw : mi_in zw) (ho : (zi ≠ ((0 : Int))) ∧ ((mi_f h 13571) = ((0 : Int)))) (kon : ∀ h1, me_W [] h h1 → ∃ Q1, me_E (d + 15) 116 0 (mi_entry 4 [.inr (.inr 106), .inl ((4 : Int)), .inl (zw)]) [] h1 Q1 ∧ ∀ w h2, (∀ x, w = some x → mi_ok x) → Q1 w h2 → me_E (d + 16) 120 73 [some (.inr (.inr 106)), some (.inl (zf)), some (.inl (zd)), some (.inl (zi)), some (.inl (zw)), none, none, none, none, none, none] (mi_back w []) h2 Q) : me_E (d + 16) 120 55 [some (.inr (.inr 106)), some (.inl (zf)), some (.inl (zd)), some (.inl (zi)), some (.inl (zw)), none, none, none, none, none, none] [] h Q := mf_seg (mp_kpwC_2 h d zf zd zi zw) (mi_tab_kpwC_2) hS (mi_okL_c (trivial) (mi_okL_c (ok_zf) (mi_okL_c (ok_zd) (mi_okL_c (ok_zi) (mi_okL_c (ok_zw) (mi_okL_n (mi_okL_n (mi_okL_n (mi_okL_n (mi_okL_n (mi_okL_n (mi_okL_e)))))))))))) (mi_okS_e) (mi_al (ho.1) (mi_al (ho.2) (mi_al_e))) (fun h1 W _ hst => let ⟨_, k1, k2⟩ := kon h1 W; mf_call (M := (11, 0, sb_120)) (M' := (4, 1, sb_116)) rfl rfl rfl rfl (Nat.le_of_ble_eq_true rfl) (Nat.le_of_ble_eq_true rfl) W.1 k1 k2)
set_option maxRecDepth 20000 in
theorem mt_kpwC {h : sm_H} {d : Nat} {Q : Option mi_V → sm_H → Prop} {zf zd zi zw : Int} (hS : ab_Sh sx_sk h) (ok_zf : mi_in zf) (ok_zd : mi_in zd) (ok_zi : mi_in zi) (ok_zw : mi_in zw) (k0 : (zi = ((0 : Int))) → (∀ h1, ab_Sh sx_sk h1 → ab_Fr [] h h1 → me_E (d + 16) 120 79 [some (.inr (.inr 106)), some (.inl (zf)), some (.inl (zd)), some (.inl (zi)), some (.inl (zw)), some (.inl ((-1 : Int))), none, none, none, none, none] [] h1 Q)) (k1 : (0 ≤ mi_f h 13571 ∧ mi_f h 13571 ≤ 1) → (zi ≠ ((0 : Int))) → ((mi_f h 13571) ≠ ((0 : Int))) → (∀ h1, ab_Sh sx_sk h1 → ab_Fr [] h h1 → me_E (d + 16) 120 79 [some (.inr (.inr 106)), some (.inl (zf)), some (.inl (zd)), some (.inl (zi)), some (.inl (zw)), some (.inl ((-1 : Int))), none, none, none, none, none] [] h1 Q)) (k2 : (0 ≤ mi_f h 13571 ∧ mi_f h 13571 ≤ 1) → (zi ≠ ((0 : Int))) → ((mi_f h 13571) = ((0 : Int))) → (∀ h1, ab_Sh sx_sk h1 → ab_Fr [] h h1 → ∃ Q1, me_E (d + 15) 116 0 (mi_entry 4 [.inr (.inr 106), .inl ((4 : Int)), .inl (zw)]) [] h1 Q1 ∧ ∀ w h2, (∀ x, w = some x → mi_ok x) → Q1 w h2 → me_E (d + 16) 120 73 [some (.inr (.inr 106)), some (.inl (zf)), some (.inl (zd)), some (.inl (zi)), some (.inl (zw)), none, none, none, none, none, none] (mi_back w []) h2 Q)) : me_E (d + 16) 120 55 [some (.inr (.inr 106)), some (.inl (zf)), some (.inl (zd)), some (.inl (zi)), some (.inl (zw)), none, none, none, none, none, none] [] h Q := Or.elim (mi_em .eq (zi) (((0 : Int)))) (fun c0 => ms_kpwC_0 hS ok_zf ok_zd ok_zi ok_zw (c0) (fun h1 W => (k0 c0) h1 W.1 (W.2.2.2.2.2 _ rfl))) (fun c0 => Or.elim (mi_em .ne ((mi_f h 13571)) (((0 : Int)))) (fun c1 => ms_kpwC_1 hS ok_zf ok_zd ok_zi ok_zw ⟨c0, c1⟩ (fun h1 W => (k1 (me_fb hS rfl) c0 c1) h1 W.1 (W.2.2.2.2.2 _ rfl))) (fun c1 => ms_kpwC_2 hS ok_zf ok_zd ok_zi ok_zw ⟨c0, c1⟩ (fun h1 W => (k2 (me_fb hS rfl) c0 c1) h1 W.1 (W.2.2.2.2.2 _ rfl))))
set_option maxRecDepth 20000 in
theorem mp_kpwD_0 (h : sm_H) (d : Nat) (zf zd zi zw zz : Int) : mj_path [(120, (11, 0, sb_120))] sx_sk h 2 [] (d + 16, 120, 73, [some (.inr (.inr 106)), some (.inl (zf)), some (.inl (zd)), some (.inl (zi)), some (.inl (zw)), none, none, none, none, none, none], [.inl (zz)], [], []) = some ((d + 16, 120, 79, [some (.inr (.inr 106)), some (.inl (zf)), some (.inl (zd)), some (.inl (zi)), some (.inl (zw)), some (.inl (zz)), none, none, none, none, none], [], [], []), []) := rfl
theorem mi_tab_kpwD_0 : ∀ e ∈ ([(120, (11, 0, sb_120))] : mi_T), sc_P e.1 = some e.2 := mi_tb mi_P120 (mi_tb_e)
set_option maxRecDepth 20000 in
theorem ms_kpwD_0 {h : sm_H} {d : Nat} {Q : Option mi_V → sm_H → Prop} {zf zd zi zw zz : Int} (hS : ab_Sh sx_sk h) (ok_zf : mi_in zf) (ok_zd : mi_in zd) (ok_zi : mi_in zi) (ok_zw : mi_in zw) (ok_zz : mi_in zz) (kon : ∀ h1, me_W [] h h1 → me_E (d + 16) 120 79 [some (.inr (.inr 106)), some (.inl (zf)), some (.inl (zd)), some (.inl (zi)), some (.inl (zw)), some (.inl (zz)), none, none, none, none, none] [] h1 Q) : me_E (d + 16) 120 73 [some (.inr (.inr 106)), some (.inl (zf)), some (.inl (zd)), some (.inl (zi)), some (.inl (zw)), none, none, none, none, none, none] [.inl (zz)] h Q := mf_seg (mp_kpwD_0 h d zf zd zi zw zz) (mi_tab_kpwD_0) hS (mi_okL_c (trivial) (mi_okL_c (ok_zf) (mi_okL_c (ok_zd) (mi_okL_c (ok_zi) (mi_okL_c (ok_zw) (mi_okL_n (mi_okL_n (mi_okL_n (mi_okL_n (mi_okL_n (mi_okL_n (mi_okL_e)))))))))))) (mi_okS_cons (ok_zz) (mi_okS_e)) (mi_al_e) (fun h1 W _ hst => kon h1 W)
set_option maxRecDepth 20000 in
theorem mt_kpwD {h : sm_H} {d : Nat} {Q : Option mi_V → sm_H → Prop} {zf zd zi zw zz : Int} (hS : ab_Sh sx_sk h) (ok_zf : mi_in zf) (ok_zd : mi_in zd) (ok_zi : mi_in zi) (ok_zw : mi_in zw) (ok_zz : mi_in zz) (k0 : (∀ h1, ab_Sh sx_sk h1 → ab_Fr [] h h1 → me_E (d + 16) 120 79 [some (.inr (.inr 106)), some (.inl (zf)), some (.inl (zd)), some (.inl (zi)), some (.inl (zw)), some (.inl (zz)), none, none, none, none, none] [] h1 Q)) : me_E (d + 16) 120 73 [some (.inr (.inr 106)), some (.inl (zf)), some (.inl (zd)), some (.inl (zi)), some (.inl (zw)), none, none, none, none, none, none] [.inl (zz)] h Q := ms_kpwD_0 hS ok_zf ok_zd ok_zi ok_zw ok_zz (fun h1 W => (k0) h1 W.1 (W.2.2.2.2.2 _ rfl))
set_option maxRecDepth 20000 in
theorem mp_kpwE_0 (h : sm_H) (d : Nat) (zf zd zi zw zo : Int) : mj_path [(120, (11, 0, sb_120))] sx_sk h 7 [] (d + 16, 120, 79, [some (.inr (.inr 106)), some (.inl (zf)), some (.inl (zd)), some (.inl (zi)), some (.inl (zw)), some (.inl (zo)), none, none, none, none, none], [], [], []) = some ((d + 16, 120, 93, [some (.inr (.inr 106)), some (.inl (zf)), some (.inl (zd)), some (.inl (zi)), some (.inl (zw)), some (.inl (zo)), none, none, none, none, none], [.inl (zw), .inl (zf), .inr (.inr 60), .inr (.inr 65)], [], []), []) := rfl
theorem mi_tab_kpwE_0 : ∀ e ∈ ([(120, (11, 0, sb_120))] : mi_T), sc_P e.1 = some e.2 := mi_tb mi_P120 (mi_tb_e)
set_option maxRecDepth 20000 in
theorem ms_kpwE_0 {h : sm_H} {d : Nat} {Q : Option mi_V → sm_H → Prop} {zf zd zi zw zo : Int} (hS : ab_Sh sx_sk h) (ok_zf : mi_in zf) (ok_zd : mi_in zd) (ok_zi : mi_in zi) (ok_zw : mi_in zw) (ok_zo : mi_in zo) (kon : ∀ h1, me_W [] h h1 → ∃ Q1, me_E (d + 15) 127 0 (mi_entry 5 [.inr (.inr 60), .inl (zf), .inl (zw)]) [] h1 Q1 ∧ ∀ w h2, (∀ x, w = some x → mi_ok x) → Q1 w h2 → me_E (d + 16) 120 96 [some (.inr (.inr 106)), some (.inl (zf)), some (.inl (zd)), some (.inl (zi)), some (.inl (zw)), some (.inl (zo)), none, none, none, none, none] (mi_back w [.inr (.inr 65)]) h2 Q) : me_E (d + 16) 120 79 [some (.inr (.inr 106)), some (.inl (zf)), some (.inl (zd)), some (.inl (zi)), some (.inl (zw)), some (.inl (zo)), none, none, none, none, none] [] h Q := mf_seg (mp_kpwE_0 h d zf zd zi zw zo) (mi_tab_kpwE_0) hS (mi_okL_c (trivial) (mi_okL_c (ok_zf) (mi_okL_c (ok_zd) (mi_okL_c (ok_zi) (mi_okL_c (ok_zw) (mi_okL_c (ok_zo) (mi_okL_n (mi_okL_n (mi_okL_n (mi_okL_n (mi_okL_n (mi_okL_e)))))))))))) (mi_okS_e) (mi_al_e) (fun h1 W _ hst => let ⟨_, k1, k2⟩ := kon h1 W; mf_call (M := (11, 0, sb_120)) (M' := (5, 1, sb_127)) rfl rfl rfl rfl (Nat.le_of_ble_eq_true rfl) (Nat.le_of_ble_eq_true rfl) W.1 k1 k2)
set_option maxRecDepth 20000 in
theorem mt_kpwE {h : sm_H} {d : Nat} {Q : Option mi_V → sm_H → Prop} {zf zd zi zw zo : Int} (hS : ab_Sh sx_sk h) (ok_zf : mi_in zf) (ok_zd : mi_in zd) (ok_zi : mi_in zi) (ok_zw : mi_in zw) (ok_zo : mi_in zo) (k0 : (∀ h1, ab_Sh sx_sk h1 → ab_Fr [] h h1 → ∃ Q1, me_E (d + 15) 127 0 (mi_entry 5 [.inr (.inr 60), .inl (zf), .inl (zw)]) [] h1 Q1 ∧ ∀ w h2, (∀ x, w = some x → mi_ok x) → Q1 w h2 → me_E (d + 16) 120 96 [some (.inr (.inr 106)), some (.inl (zf)), some (.inl (zd)), some (.inl (zi)), some (.inl (zw)), some (.inl (zo)), none, none, none, none, none] (mi_back w [.inr (.inr 65)]) h2 Q)) : me_E (d + 16) 120 79 [some (.inr (.inr 106)), some (.inl (zf)), some (.inl (zd)), some (.inl (zi)), some (.inl (zw)), some (.inl (zo)), none, none, none, none, none] [] h Q := ms_kpwE_0 hS ok_zf ok_zd ok_zi ok_zw ok_zo (fun h1 W => (k0) h1 W.1 (W.2.2.2.2.2 _ rfl))
set_option maxRecDepth 20000 in
theorem mp_kpwF_0 (h : sm_H) (d : Nat) (zf zd zi zw zo zz : Int) : mj_path [(120, (11, 0, sb_120)), (16, (3, 0, sb_16)), (49, (2, 1, sb_49)), (72, (2, 2, sb_72))] sx_sk h 8 [1] (d + 16, 120, 96, [some (.inr (.inr 106)), some (.inl (zf)), some (.inl (zd)), some (.inl (zi)), some (.inl (zw)), some (.inl (zo)), none, none, none, none, none], [.inl (zz), .inr (.inr 65)], [], []) = some ((d + 16, 120, 104, [some (.inr (.inr 106)), some (.inl (zf)), some (.inl (zd)), some (.inl (zi)), some (.inl (zw)), some (.inl (zo)), some (.inl ((0 : Int))), some (.inl ((0 : Int))), none, none, none], [], [], []), [zz < ((0 : Int))]) := rfl
theorem mi_tab_kpwF_0 : ∀ e ∈ ([(120, (11, 0, sb_120)), (16, (3, 0, sb_16)), (49, (2, 1, sb_49)), (72, (2, 2, sb_72))] : mi_T), sc_P e.1 = some e.2 := mi_tb mi_P120 (mi_tb mi_P16 (mi_tb mi_P49 (mi_tb mi_P72 (mi_tb_e))))
set_option maxRecDepth 20000 in
theorem ms_kpwF_0 {h : sm_H} {d : Nat} {Q : Option mi_V → sm_H → Prop} {zf zd zi zw zo zz : Int} (hS : ab_Sh sx_sk h) (ok_zf : mi_in zf) (ok_zd : mi_in zd) (ok_zi : mi_in zi) (ok_zw : mi_in zw) (ok_zo : mi_in zo) (ok_zz : mi_in zz) (ho : (zz < ((0 : Int)))) (kon : ∀ h1, me_W [] h h1 → me_E (d + 16) 120 104 [some (.inr (.inr 106)), some (.inl (zf)), some (.inl (zd)), some (.inl (zi)), some (.inl (zw)), some (.inl (zo)), some (.inl ((0 : Int))), some (.inl ((0 : Int))), none, none, none] [] h1 Q) : me_E (d + 16) 120 96 [some (.inr (.inr 106)), some (.inl (zf)), some (.inl (zd)), some (.inl (zi)), some (.inl (zw)), some (.inl (zo)), none, none, none, none, none] [.inl (zz), .inr (.inr 65)] h Q := mf_seg (mp_kpwF_0 h d zf zd zi zw zo zz) (mi_tab_kpwF_0) hS (mi_okL_c (trivial) (mi_okL_c (ok_zf) (mi_okL_c (ok_zd) (mi_okL_c (ok_zi) (mi_okL_c (ok_zw) (mi_okL_c (ok_zo) (mi_okL_n (mi_okL_n (mi_okL_n (mi_okL_n (mi_okL_n (mi_okL_e)))))))))))) (mi_okS_cons (ok_zz) (mi_okS_cons (trivial) (mi_okS_e))) (mi_al (ho) (mi_al_e)) (fun h1 W _ hst => kon h1 W)
set_option maxRecDepth 20000 in
theorem mp_kpwF_1 (h : sm_H) (d : Nat) (zf zd zi zw zo zz : Int) : mj_path [(120, (11, 0, sb_120)), (16, (3, 0, sb_16)), (49, (2, 1, sb_49)), (72, (2, 2, sb_72))] sx_sk h 12 [0, 1] (d + 16, 120, 96, [some (.inr (.inr 106)), some (.inl (zf)), some (.inl (zd)), some (.inl (zi)), some (.inl (zw)), some (.inl (zo)), none, none, none, none, none], [.inl (zz), .inr (.inr 65)], [], []) = some ((d + 16, 120, 104, [some (.inr (.inr 106)), some (.inl (zf)), some (.inl (zd)), some (.inl (zi)), some (.inl (zw)), some (.inl (zo)), some (.inl ((0 : Int))), some (.inl ((0 : Int))), none, none, none], [], [], []), [((0 : Int)) ≤ zz, ((66 : Int)) ≤ zz]) := rfl
theorem mi_tab_kpwF_1 : ∀ e ∈ ([(120, (11, 0, sb_120)), (16, (3, 0, sb_16)), (49, (2, 1, sb_49)), (72, (2, 2, sb_72))] : mi_T), sc_P e.1 = some e.2 := mi_tb mi_P120 (mi_tb mi_P16 (mi_tb mi_P49 (mi_tb mi_P72 (mi_tb_e))))
set_option maxRecDepth 20000 in
theorem ms_kpwF_1 {h : sm_H} {d : Nat} {Q : Option mi_V → sm_H → Prop} {zf zd zi zw zo zz : Int} (hS : ab_Sh sx_sk h) (ok_zf : mi_in zf) (ok_zd : mi_in zd) (ok_zi : mi_in zi) (ok_zw : mi_in zw) (ok_zo : mi_in zo) (ok_zz : mi_in zz) (ho : (((0 : Int)) ≤ zz) ∧ (((66 : Int)) ≤ zz)) (kon : ∀ h1, me_W [] h h1 → me_E (d + 16) 120 104 [some (.inr (.inr 106)), some (.inl (zf)), some (.inl (zd)), some (.inl (zi)), some (.inl (zw)), some (.inl (zo)), some (.inl ((0 : Int))), some (.inl ((0 : Int))), none, none, none] [] h1 Q) : me_E (d + 16) 120 96 [some (.inr (.inr 106)), some (.inl (zf)), some (.inl (zd)), some (.inl (zi)), some (.inl (zw)), some (.inl (zo)), none, none, none, none, none] [.inl (zz), .inr (.inr 65)] h Q := mf_seg (mp_kpwF_1 h d zf zd zi zw zo zz) (mi_tab_kpwF_1) hS (mi_okL_c (trivial) (mi_okL_c (ok_zf) (mi_okL_c (ok_zd) (mi_okL_c (ok_zi) (mi_okL_c (ok_zw) (mi_okL_c (ok_zo) (mi_okL_n (mi_okL_n (mi_okL_n (mi_okL_n (mi_okL_n (mi_okL_e)))))))))))) (mi_okS_cons (ok_zz) (mi_okS_cons (trivial) (mi_okS_e))) (mi_al (ho.1) (mi_al (ho.2) (mi_al_e))) (fun h1 W _ hst => kon h1 W)
set_option maxRecDepth 20000 in
theorem mp_kpwF_2 (h : sm_H) (d : Nat) (zf zd zi zw zo zz : Int) : mj_path [(120, (11, 0, sb_120)), (16, (3, 0, sb_16)), (49, (2, 1, sb_49)), (72, (2, 2, sb_72))] sx_sk h 15 [0, 0] (d + 16, 120, 96, [some (.inr (.inr 106)), some (.inl (zf)), some (.inl (zd)), some (.inl (zi)), some (.inl (zw)), some (.inl (zo)), none, none, none, none, none], [.inl (zz), .inr (.inr 65)], [], []) = some ((d + 16, 120, 104, [some (.inr (.inr 106)), some (.inl (zf)), some (.inl (zd)), some (.inl (zi)), some (.inl (zw)), some (.inl (zo)), some (.inl (mi_a h 65 (Int.toNat zz))), some (.inl ((0 : Int))), none, none, none], [], [], []), [((0 : Int)) ≤ zz, zz < ((66 : Int)), 0 ≤ zz ∧ zz < 66]) := rfl
theorem mi_tab_kpwF_2 : ∀ e ∈ ([(120, (11, 0, sb_120)), (16, (3, 0, sb_16)), (49, (2, 1, sb_49)), (72, (2, 2, sb_72))] : mi_T), sc_P e.1 = some e.2 := mi_tb mi_P120 (mi_tb mi_P16 (mi_tb mi_P49 (mi_tb mi_P72 (mi_tb_e))))
set_option maxRecDepth 20000 in
theorem ms_kpwF_2 {h : sm_H} {d : Nat} {Q : Option mi_V → sm_H → Prop} {zf zd zi zw zo zz : Int} (hS : ab_Sh sx_sk h) (ok_zf : mi_in zf) (ok_zd : mi_in zd) (ok_zi : mi_in zi) (ok_zw : mi_in zw) (ok_zo : mi_in zo) (ok_zz : mi_in zz) (ho : (((0 : Int)) ≤ zz) ∧ (zz < ((66 : Int))) ∧ (0 ≤ zz ∧ zz < 66)) (kon : ∀ h1, me_W [] h h1 → me_E (d + 16) 120 104 [some (.inr (.inr 106)), some (.inl (zf)), some (.inl (zd)), some (.inl (zi)), some (.inl (zw)), some (.inl (zo)), some (.inl (mi_a h 65 (Int.toNat zz))), some (.inl ((0 : Int))), none, none, none] [] h1 Q) : me_E (d + 16) 120 96 [some (.inr (.inr 106)), some (.inl (zf)), some (.inl (zd)), some (.inl (zi)), some (.inl (zw)), some (.inl (zo)), none, none, none, none, none] [.inl (zz), .inr (.inr 65)] h Q := mf_seg (mp_kpwF_2 h d zf zd zi zw zo zz) (mi_tab_kpwF_2) hS (mi_okL_c (trivial) (mi_okL_c (ok_zf) (mi_okL_c (ok_zd) (mi_okL_c (ok_zi) (mi_okL_c (ok_zw) (mi_okL_c (ok_zo) (mi_okL_n (mi_okL_n (mi_okL_n (mi_okL_n (mi_okL_n (mi_okL_e)))))))))))) (mi_okS_cons (ok_zz) (mi_okS_cons (trivial) (mi_okS_e))) (mi_al (ho.1) (mi_al (ho.2.1) (mi_al (ho.2.2) (mi_al_e)))) (fun h1 W _ hst => kon h1 W)
set_option maxRecDepth 20000 in
theorem mt_kpwF {h : sm_H} {d : Nat} {Q : Option mi_V → sm_H → Prop} {zf zd zi zw zo zz : Int} (hS : ab_Sh sx_sk h) (ok_zf : mi_in zf) (ok_zd : mi_in zd) (ok_zi : mi_in zi) (ok_zw : mi_in zw) (ok_zo : mi_in zo) (ok_zz : mi_in zz) (k0 : (zz < ((0 : Int))) → (∀ h1, ab_Sh sx_sk h1 → ab_Fr [] h h1 → me_E (d + 16) 120 104 [some (.inr (.inr 106)), some (.inl (zf)), some (.inl (zd)), some (.inl (zi)), some (.inl (zw)), some (.inl (zo)), some (.inl ((0 : Int))), some (.inl ((0 : Int))), none, none, none] [] h1 Q)) (k1 : (((0 : Int)) ≤ zz) → (((66 : Int)) ≤ zz) → (∀ h1, ab_Sh sx_sk h1 → ab_Fr [] h h1 → me_E (d + 16) 120 104 [some (.inr (.inr 106)), some (.inl (zf)), some (.inl (zd)), some (.inl (zi)), some (.inl (zw)), some (.inl (zo)), some (.inl ((0 : Int))), some (.inl ((0 : Int))), none, none, none] [] h1 Q)) (k2 : (((0 : Int)) ≤ zz) → (zz < ((66 : Int))) → ((0 ≤ zz ∧ zz < 66)) ∧ (∀ h1, ab_Sh sx_sk h1 → ab_Fr [] h h1 → me_E (d + 16) 120 104 [some (.inr (.inr 106)), some (.inl (zf)), some (.inl (zd)), some (.inl (zi)), some (.inl (zw)), some (.inl (zo)), some (.inl (mi_a h 65 (Int.toNat zz))), some (.inl ((0 : Int))), none, none, none] [] h1 Q)) : me_E (d + 16) 120 96 [some (.inr (.inr 106)), some (.inl (zf)), some (.inl (zd)), some (.inl (zi)), some (.inl (zw)), some (.inl (zo)), none, none, none, none, none] [.inl (zz), .inr (.inr 65)] h Q := Or.elim (mi_em .lt (zz) (((0 : Int)))) (fun c0 => ms_kpwF_0 hS ok_zf ok_zd ok_zi ok_zw ok_zo ok_zz (c0) (fun h1 W => (k0 c0) h1 W.1 (W.2.2.2.2.2 _ rfl))) (fun c0 => Or.elim (mi_em .ge (zz) (((66 : Int)))) (fun c1 => ms_kpwF_1 hS ok_zf ok_zd ok_zi ok_zw ok_zo ok_zz ⟨c0, c1⟩ (fun h1 W => (k1 c0 c1) h1 W.1 (W.2.2.2.2.2 _ rfl))) (fun c1 => ms_kpwF_2 hS ok_zf ok_zd ok_zi ok_zw ok_zo ok_zz ⟨c0, c1, (k2 c0 c1).1⟩ (fun h1 W => (k2 c0 c1).2 h1 W.1 (W.2.2.2.2.2 _ rfl))))
set_option maxRecDepth 20000 in
theorem mp_kpwG_0 (h : sm_H) (d : Nat) (zf zd zi zw zo zp zn : Int) (q8 q9 qa : Option mi_V) : mj_path [(120, (11, 0, sb_120)), (16, (3, 0, sb_16)), (49, (2, 1, sb_49)), (72, (2, 2, sb_72)), (130, (2, 1, sb_130))] sx_sk h 3 [1] (d + 16, 120, 104, [some (.inr (.inr 106)), some (.inl (zf)), some (.inl (zd)), some (.inl (zi)), some (.inl (zw)), some (.inl (zo)), some (.inl (zp)), some (.inl (zn)), q8, q9, qa], [], [], []) = some ((d + 16, 120, 226, [some (.inr (.inr 106)), some (.inl (zf)), some (.inl (zd)), some (.inl (zi)), some (.inl (zw)), some (.inl (zo)), some (.inl (zp)), some (.inl (zn)), q8, q9, qa], [], [], []), [(mi_f h 13571) ≠ ((0 : Int))]) := rfl
theorem mi_tab_kpwG_0 : ∀ e ∈ ([(120, (11, 0, sb_120)), (16, (3, 0, sb_16)), (49, (2, 1, sb_49)), (72, (2, 2, sb_72)), (130, (2, 1, sb_130))] : mi_T), sc_P e.1 = some e.2 := mi_tb mi_P120 (mi_tb mi_P16 (mi_tb mi_P49 (mi_tb mi_P72 (mi_tb mi_P130 (mi_tb_e)))))
set_option maxRecDepth 20000 in
theorem ms_kpwG_0 {h : sm_H} {d : Nat} {Q : Option mi_V → sm_H → Prop} {zf zd zi zw zo zp zn : Int} {q8 q9 qa : Option mi_V} (hS : ab_Sh sx_sk h) (ok_zf : mi_in zf) (ok_zd : mi_in zd) (ok_zi : mi_in zi) (ok_zw : mi_in zw) (ok_zo : mi_in zo) (ok_zp : mi_in zp) (ok_zn : mi_in zn) (ok_q8 : ∀ v, q8 = some v → mi_ok v) (ok_q9 : ∀ v, q9 = some v → mi_ok v) (ok_qa : ∀ v, qa = some v → mi_ok v) (ho : ((mi_f h 13571) ≠ ((0 : Int)))) (kon : ∀ h1, me_W [] h h1 → me_E (d + 16) 120 226 [some (.inr (.inr 106)), some (.inl (zf)), some (.inl (zd)), some (.inl (zi)), some (.inl (zw)), some (.inl (zo)), some (.inl (zp)), some (.inl (zn)), q8, q9, qa] [] h1 Q) : me_E (d + 16) 120 104 [some (.inr (.inr 106)), some (.inl (zf)), some (.inl (zd)), some (.inl (zi)), some (.inl (zw)), some (.inl (zo)), some (.inl (zp)), some (.inl (zn)), q8, q9, qa] [] h Q := mf_seg (mp_kpwG_0 h d zf zd zi zw zo zp zn q8 q9 qa) (mi_tab_kpwG_0) hS (mi_okL_c (trivial) (mi_okL_c (ok_zf) (mi_okL_c (ok_zd) (mi_okL_c (ok_zi) (mi_okL_c (ok_zw) (mi_okL_c (ok_zo) (mi_okL_c (ok_zp) (mi_okL_c (ok_zn) (mi_okL_o ok_q8 (mi_okL_o ok_q9 (mi_okL_o ok_qa (mi_okL_e)))))))))))) (mi_okS_e) (mi_al (ho) (mi_al_e)) (fun h1 W _ hst => kon h1 W)
set_option maxRecDepth 20000 in
theorem mp_kpwG_1 (h : sm_H) (d : Nat) (zf zd zi zw zo zp zn : Int) (q8 q9 qa : Option mi_V) : mj_path [(120, (11, 0, sb_120)), (16, (3, 0, sb_16)), (49, (2, 1, sb_49)), (72, (2, 2, sb_72)), (130, (2, 1, sb_130))] sx_sk h 6 [0, 1] (d + 16, 120, 104, [some (.inr (.inr 106)), some (.inl (zf)), some (.inl (zd)), some (.inl (zi)), some (.inl (zw)), some (.inl (zo)), some (.inl (zp)), some (.inl (zn)), q8, q9, qa], [], [], []) = some ((d + 16, 120, 226, [some (.inr (.inr 106)), some (.inl (zf)), some (.inl (zd)), some (.inl (zi)), some (.inl (zw)), some (.inl (zo)), some (.inl (zp)), some (.inl (zn)), q8, q9, qa], [], [], []), [(mi_f h 13571) = ((0 : Int)), zp = ((-1 : Int))]) := rfl
theorem mi_tab_kpwG_1 : ∀ e ∈ ([(120, (11, 0, sb_120)), (16, (3, 0, sb_16)), (49, (2, 1, sb_49)), (72, (2, 2, sb_72)), (130, (2, 1, sb_130))] : mi_T), sc_P e.1 = some e.2 := mi_tb mi_P120 (mi_tb mi_P16 (mi_tb mi_P49 (mi_tb mi_P72 (mi_tb mi_P130 (mi_tb_e)))))
set_option maxRecDepth 20000 in
theorem ms_kpwG_1 {h : sm_H} {d : Nat} {Q : Option mi_V → sm_H → Prop} {zf zd zi zw zo zp zn : Int} {q8 q9 qa : Option mi_V} (hS : ab_Sh sx_sk h) (ok_zf : mi_in zf) (ok_zd : mi_in zd) (ok_zi : mi_in zi) (ok_zw : mi_in zw) (ok_zo : mi_in zo) (ok_zp : mi_in zp) (ok_zn : mi_in zn) (ok_q8 : ∀ v, q8 = some v → mi_ok v) (ok_q9 : ∀ v, q9 = some v → mi_ok v) (ok_qa : ∀ v, qa = some v → mi_ok v) (ho : ((mi_f h 13571) = ((0 : Int))) ∧ (zp = ((-1 : Int)))) (kon : ∀ h1, me_W [] h h1 → me_E (d + 16) 120 226 [some (.inr (.inr 106)), some (.inl (zf)), some (.inl (zd)), some (.inl (zi)), some (.inl (zw)), some (.inl (zo)), some (.inl (zp)), some (.inl (zn)), q8, q9, qa] [] h1 Q) : me_E (d + 16) 120 104 [some (.inr (.inr 106)), some (.inl (zf)), some (.inl (zd)), some (.inl (zi)), some (.inl (zw)), some (.inl (zo)), some (.inl (zp)), some (.inl (zn)), q8, q9, qa] [] h Q := mf_seg (mp_kpwG_1 h d zf zd zi zw zo zp zn q8 q9 qa) (mi_tab_kpwG_1) hS (mi_okL_c (trivial) (mi_okL_c (ok_zf) (mi_okL_c (ok_zd) (mi_okL_c (ok_zi) (mi_okL_c (ok_zw) (mi_okL_c (ok_zo) (mi_okL_c (ok_zp) (mi_okL_c (ok_zn) (mi_okL_o ok_q8 (mi_okL_o ok_q9 (mi_okL_o ok_qa (mi_okL_e)))))))))))) (mi_okS_e) (mi_al (ho.1) (mi_al (ho.2) (mi_al_e))) (fun h1 W _ hst => kon h1 W)
set_option maxRecDepth 20000 in
theorem mp_kpwG_2 (h : sm_H) (d : Nat) (zf zd zi zw zo zp zn : Int) (q8 q9 qa : Option mi_V) : mj_path [(120, (11, 0, sb_120)), (16, (3, 0, sb_16)), (49, (2, 1, sb_49)), (72, (2, 2, sb_72)), (130, (2, 1, sb_130))] sx_sk h 9 [0, 0, 1] (d + 16, 120, 104, [some (.inr (.inr 106)), some (.inl (zf)), some (.inl (zd)), some (.inl (zi)), some (.inl (zw)), some (.inl (zo)), some (.inl (zp)), some (.inl (zn)), q8, q9, qa], [], [], []) = some ((d + 16, 120, 226, [some (.inr (.inr 106)), some (.inl (zf)), some (.inl (zd)), some (.inl (zi)), some (.inl (zw)), some (.inl (zo)), some (.inl (zp)), some (.inl (zn)), q8, q9, qa], [], [], []), [(mi_f h 13571) = ((0 : Int)), zp ≠ ((-1 : Int)), ((60 : Int)) ≤ zn]) := rfl
theorem mi_tab_kpwG_2 : ∀ e ∈ ([(120, (11, 0, sb_120)), (16, (3, 0, sb_16)), (49, (2, 1, sb_49)), (72, (2, 2, sb_72)), (130, (2, 1, sb_130))] : mi_T), sc_P e.1 = some e.2 := mi_tb mi_P120 (mi_tb mi_P16 (mi_tb mi_P49 (mi_tb mi_P72 (mi_tb mi_P130 (mi_tb_e)))))
set_option maxRecDepth 20000 in
theorem ms_kpwG_2 {h : sm_H} {d : Nat} {Q : Option mi_V → sm_H → Prop} {zf zd zi zw zo zp zn : Int} {q8 q9 qa : Option mi_V} (hS : ab_Sh sx_sk h) (ok_zf : mi_in zf) (ok_zd : mi_in zd) (ok_zi : mi_in zi) (ok_zw : mi_in zw) (ok_zo : mi_in zo) (ok_zp : mi_in zp) (ok_zn : mi_in zn) (ok_q8 : ∀ v, q8 = some v → mi_ok v) (ok_q9 : ∀ v, q9 = some v → mi_ok v) (ok_qa : ∀ v, qa = some v → mi_ok v) (ho : ((mi_f h 13571) = ((0 : Int))) ∧ (zp ≠ ((-1 : Int))) ∧ (((60 : Int)) ≤ zn)) (kon : ∀ h1, me_W [] h h1 → me_E (d + 16) 120 226 [some (.inr (.inr 106)), some (.inl (zf)), some (.inl (zd)), some (.inl (zi)), some (.inl (zw)), some (.inl (zo)), some (.inl (zp)), some (.inl (zn)), q8, q9, qa] [] h1 Q) : me_E (d + 16) 120 104 [some (.inr (.inr 106)), some (.inl (zf)), some (.inl (zd)), some (.inl (zi)), some (.inl (zw)), some (.inl (zo)), some (.inl (zp)), some (.inl (zn)), q8, q9, qa] [] h Q := mf_seg (mp_kpwG_2 h d zf zd zi zw zo zp zn q8 q9 qa) (mi_tab_kpwG_2) hS (mi_okL_c (trivial) (mi_okL_c (ok_zf) (mi_okL_c (ok_zd) (mi_okL_c (ok_zi) (mi_okL_c (ok_zw) (mi_okL_c (ok_zo) (mi_okL_c (ok_zp) (mi_okL_c (ok_zn) (mi_okL_o ok_q8 (mi_okL_o ok_q9 (mi_okL_o ok_qa (mi_okL_e)))))))))))) (mi_okS_e) (mi_al (ho.1) (mi_al (ho.2.1) (mi_al (ho.2.2) (mi_al_e)))) (fun h1 W _ hst => kon h1 W)
set_option maxRecDepth 20000 in
theorem mp_kpwG_3 (h : sm_H) (d : Nat) (zf zd zi zw zo zp zn : Int) (q8 q9 qa : Option mi_V) : mj_path [(120, (11, 0, sb_120)), (16, (3, 0, sb_16)), (49, (2, 1, sb_49)), (72, (2, 2, sb_72)), (130, (2, 1, sb_130))] sx_sk h 25 [0, 0, 0, 1, 1] (d + 16, 120, 104, [some (.inr (.inr 106)), some (.inl (zf)), some (.inl (zd)), some (.inl (zi)), some (.inl (zw)), some (.inl (zo)), some (.inl (zp)), some (.inl (zn)), q8, q9, qa], [], [], []) = some ((d + 16, 120, 203, [some (.inr (.inr 106)), some (.inl (zf)), some (.inl (zd)), some (.inl (zi)), some (.inl (zw)), some (.inl (zo)), some (.inl (zp)), some (.inl (zn)), some (.inl (zp)), q9, qa], [.inl (zd), .inl (zp), .inr (.inr 106)], [], []), [(mi_f h 13571) = ((0 : Int)), zp ≠ ((-1 : Int)), zn < ((60 : Int)), zp < ((0 : Int)), ((0 : Int)) ≠ ((1 : Int))]) := rfl
theorem mi_tab_kpwG_3 : ∀ e ∈ ([(120, (11, 0, sb_120)), (16, (3, 0, sb_16)), (49, (2, 1, sb_49)), (72, (2, 2, sb_72)), (130, (2, 1, sb_130))] : mi_T), sc_P e.1 = some e.2 := mi_tb mi_P120 (mi_tb mi_P16 (mi_tb mi_P49 (mi_tb mi_P72 (mi_tb mi_P130 (mi_tb_e)))))
set_option maxRecDepth 20000 in
theorem ms_kpwG_3 {h : sm_H} {d : Nat} {Q : Option mi_V → sm_H → Prop} {zf zd zi zw zo zp zn : Int} {q8 q9 qa : Option mi_V} (hS : ab_Sh sx_sk h) (ok_zf : mi_in zf) (ok_zd : mi_in zd) (ok_zi : mi_in zi) (ok_zw : mi_in zw) (ok_zo : mi_in zo) (ok_zp : mi_in zp) (ok_zn : mi_in zn) (ok_q8 : ∀ v, q8 = some v → mi_ok v) (ok_q9 : ∀ v, q9 = some v → mi_ok v) (ok_qa : ∀ v, qa = some v → mi_ok v) (ho : ((mi_f h 13571) = ((0 : Int))) ∧ (zp ≠ ((-1 : Int))) ∧ (zn < ((60 : Int))) ∧ (zp < ((0 : Int))) ∧ (((0 : Int)) ≠ ((1 : Int)))) (kon : ∀ h1, me_W [] h h1 → ∃ Q1, me_E (d + 15) 131 0 (mi_entry 7 [.inr (.inr 106), .inl (zp), .inl (zd)]) [] h1 Q1 ∧ ∀ w h2, (∀ x, w = some x → mi_ok x) → Q1 w h2 → me_E (d + 16) 120 206 [some (.inr (.inr 106)), some (.inl (zf)), some (.inl (zd)), some (.inl (zi)), some (.inl (zw)), some (.inl (zo)), some (.inl (zp)), some (.inl (zn)), some (.inl (zp)), q9, qa] (mi_back w []) h2 Q) : me_E (d + 16) 120 104 [some (.inr (.inr 106)), some (.inl (zf)), some (.inl (zd)), some (.inl (zi)), some (.inl (zw)), some (.inl (zo)), some (.inl (zp)), some (.inl (zn)), q8, q9, qa] [] h Q := mf_seg (mp_kpwG_3 h d zf zd zi zw zo zp zn q8 q9 qa) (mi_tab_kpwG_3) hS (mi_okL_c (trivial) (mi_okL_c (ok_zf) (mi_okL_c (ok_zd) (mi_okL_c (ok_zi) (mi_okL_c (ok_zw) (mi_okL_c (ok_zo) (mi_okL_c (ok_zp) (mi_okL_c (ok_zn) (mi_okL_o ok_q8 (mi_okL_o ok_q9 (mi_okL_o ok_qa (mi_okL_e)))))))))))) (mi_okS_e) (mi_al (ho.1) (mi_al (ho.2.1) (mi_al (ho.2.2.1) (mi_al (ho.2.2.2.1) (mi_al (ho.2.2.2.2) (mi_al_e)))))) (fun h1 W _ hst => let ⟨_, k1, k2⟩ := kon h1 W; mf_call (M := (11, 0, sb_120)) (M' := (7, 0, sb_131)) rfl rfl rfl rfl (Nat.le_of_ble_eq_true rfl) (Nat.le_of_ble_eq_true rfl) W.1 k1 k2)
set_option maxRecDepth 20000 in
theorem mp_kpwG_4 (h : sm_H) (d : Nat) (zf zd zi zw zo zp zn : Int) (q8 q9 qa : Option mi_V) : mj_path [(120, (11, 0, sb_120)), (16, (3, 0, sb_16)), (49, (2, 1, sb_49)), (72, (2, 2, sb_72)), (130, (2, 1, sb_130))] sx_sk h 29 [0, 0, 0, 0, 1, 1] (d + 16, 120, 104, [some (.inr (.inr 106)), some (.inl (zf)), some (.inl (zd)), some (.inl (zi)), some (.inl (zw)), some (.inl (zo)), some (.inl (zp)), some (.inl (zn)), q8, q9, qa], [], [], []) = some ((d + 16, 120, 203, [some (.inr (.inr 106)), some (.inl (zf)), some (.inl (zd)), some (.inl (zi)), some (.inl (zw)), some (.inl (zo)), some (.inl (zp)), some (.inl (zn)), some (.inl (zp)), q9, qa], [.inl (zd), .inl (zp), .inr (.inr 106)], [], []), [(mi_f h 13571) = ((0 : Int)), zp ≠ ((-1 : Int)), zn < ((60 : Int)), ((0 : Int)) ≤ zp, ((60 : Int)) ≤ zp, ((0 : Int)) ≠ ((1 : Int))]) := rfl
theorem mi_tab_kpwG_4 : ∀ e ∈ ([(120, (11, 0, sb_120)), (16, (3, 0, sb_16)), (49, (2, 1, sb_49)), (72, (2, 2, sb_72)), (130, (2, 1, sb_130))] : mi_T), sc_P e.1 = some e.2 := mi_tb mi_P120 (mi_tb mi_P16 (mi_tb mi_P49 (mi_tb mi_P72 (mi_tb mi_P130 (mi_tb_e)))))
set_option maxRecDepth 20000 in
theorem ms_kpwG_4 {h : sm_H} {d : Nat} {Q : Option mi_V → sm_H → Prop} {zf zd zi zw zo zp zn : Int} {q8 q9 qa : Option mi_V} (hS : ab_Sh sx_sk h) (ok_zf : mi_in zf) (ok_zd : mi_in zd) (ok_zi : mi_in zi) (ok_zw : mi_in zw) (ok_zo : mi_in zo) (ok_zp : mi_in zp) (ok_zn : mi_in zn) (ok_q8 : ∀ v, q8 = some v → mi_ok v) (ok_q9 : ∀ v, q9 = some v → mi_ok v) (ok_qa : ∀ v, qa = some v → mi_ok v) (ho : ((mi_f h 13571) = ((0 : Int))) ∧ (zp ≠ ((-1 : Int))) ∧ (zn < ((60 : Int))) ∧ (((0 : Int)) ≤ zp) ∧ (((60 : Int)) ≤ zp) ∧ (((0 : Int)) ≠ ((1 : Int)))) (kon : ∀ h1, me_W [] h h1 → ∃ Q1, me_E (d + 15) 131 0 (mi_entry 7 [.inr (.inr 106), .inl (zp), .inl (zd)]) [] h1 Q1 ∧ ∀ w h2, (∀ x, w = some x → mi_ok x) → Q1 w h2 → me_E (d + 16) 120 206 [some (.inr (.inr 106)), some (.inl (zf)), some (.inl (zd)), some (.inl (zi)), some (.inl (zw)), some (.inl (zo)), some (.inl (zp)), some (.inl (zn)), some (.inl (zp)), q9, qa] (mi_back w []) h2 Q) : me_E (d + 16) 120 104 [some (.inr (.inr 106)), some (.inl (zf)), some (.inl (zd)), some (.inl (zi)), some (.inl (zw)), some (.inl (zo)), some (.inl (zp)), some (.inl (zn)), q8, q9, qa] [] h Q := mf_seg (mp_kpwG_4 h d zf zd zi zw zo zp zn q8 q9 qa) (mi_tab_kpwG_4) hS (mi_okL_c (trivial) (mi_okL_c (ok_zf) (mi_okL_c (ok_zd) (mi_okL_c (ok_zi) (mi_okL_c (ok_zw) (mi_okL_c (ok_zo) (mi_okL_c (ok_zp) (mi_okL_c (ok_zn) (mi_okL_o ok_q8 (mi_okL_o ok_q9 (mi_okL_o ok_qa (mi_okL_e)))))))))))) (mi_okS_e) (mi_al (ho.1) (mi_al (ho.2.1) (mi_al (ho.2.2.1) (mi_al (ho.2.2.2.1) (mi_al (ho.2.2.2.2.1) (mi_al (ho.2.2.2.2.2) (mi_al_e))))))) (fun h1 W _ hst => let ⟨_, k1, k2⟩ := kon h1 W; mf_call (M := (11, 0, sb_120)) (M' := (7, 0, sb_131)) rfl rfl rfl rfl (Nat.le_of_ble_eq_true rfl) (Nat.le_of_ble_eq_true rfl) W.1 k1 k2)
set_option maxRecDepth 20000 in
theorem mp_kpwG_5 (h : sm_H) (d : Nat) (zf zd zi zw zo zp zn : Int) (q8 q9 qa : Option mi_V) : mj_path [(120, (11, 0, sb_120)), (16, (3, 0, sb_16)), (49, (2, 1, sb_49)), (72, (2, 2, sb_72)), (130, (2, 1, sb_130))] sx_sk h 32 [0, 0, 0, 0, 0, 1] (d + 16, 120, 104, [some (.inr (.inr 106)), some (.inl (zf)), some (.inl (zd)), some (.inl (zi)), some (.inl (zw)), some (.inl (zo)), some (.inl (zp)), some (.inl (zn)), q8, q9, qa], [], [], []) = some ((d + 16, 120, 203, [some (.inr (.inr 106)), some (.inl (zf)), some (.inl (zd)), some (.inl (zi)), some (.inl (zw)), some (.inl (zo)), some (.inl (zp)), some (.inl (zn)), some (.inl (zp)), q9, qa], [.inl (zd), .inl (zp), .inr (.inr 106)], [], []), [(mi_f h 13571) = ((0 : Int)), zp ≠ ((-1 : Int)), zn < ((60 : Int)), ((0 : Int)) ≤ zp, zp < ((60 : Int)), 0 ≤ zp ∧ zp < 60, (mi_a h 74 (Int.toNat zp)) ≠ ((1 : Int))]) := rfl
theorem mi_tab_kpwG_5 : ∀ e ∈ ([(120, (11, 0, sb_120)), (16, (3, 0, sb_16)), (49, (2, 1, sb_49)), (72, (2, 2, sb_72)), (130, (2, 1, sb_130))] : mi_T), sc_P e.1 = some e.2 := mi_tb mi_P120 (mi_tb mi_P16 (mi_tb mi_P49 (mi_tb mi_P72 (mi_tb mi_P130 (mi_tb_e)))))
set_option maxRecDepth 20000 in
theorem ms_kpwG_5 {h : sm_H} {d : Nat} {Q : Option mi_V → sm_H → Prop} {zf zd zi zw zo zp zn : Int} {q8 q9 qa : Option mi_V} (hS : ab_Sh sx_sk h) (ok_zf : mi_in zf) (ok_zd : mi_in zd) (ok_zi : mi_in zi) (ok_zw : mi_in zw) (ok_zo : mi_in zo) (ok_zp : mi_in zp) (ok_zn : mi_in zn) (ok_q8 : ∀ v, q8 = some v → mi_ok v) (ok_q9 : ∀ v, q9 = some v → mi_ok v) (ok_qa : ∀ v, qa = some v → mi_ok v) (ho : ((mi_f h 13571) = ((0 : Int))) ∧ (zp ≠ ((-1 : Int))) ∧ (zn < ((60 : Int))) ∧ (((0 : Int)) ≤ zp) ∧ (zp < ((60 : Int))) ∧ (0 ≤ zp ∧ zp < 60) ∧ ((mi_a h 74 (Int.toNat zp)) ≠ ((1 : Int)))) (kon : ∀ h1, me_W [] h h1 → ∃ Q1, me_E (d + 15) 131 0 (mi_entry 7 [.inr (.inr 106), .inl (zp), .inl (zd)]) [] h1 Q1 ∧ ∀ w h2, (∀ x, w = some x → mi_ok x) → Q1 w h2 → me_E (d + 16) 120 206 [some (.inr (.inr 106)), some (.inl (zf)), some (.inl (zd)), some (.inl (zi)), some (.inl (zw)), some (.inl (zo)), some (.inl (zp)), some (.inl (zn)), some (.inl (zp)), q9, qa] (mi_back w []) h2 Q) : me_E (d + 16) 120 104 [some (.inr (.inr 106)), some (.inl (zf)), some (.inl (zd)), some (.inl (zi)), some (.inl (zw)), some (.inl (zo)), some (.inl (zp)), some (.inl (zn)), q8, q9, qa] [] h Q := mf_seg (mp_kpwG_5 h d zf zd zi zw zo zp zn q8 q9 qa) (mi_tab_kpwG_5) hS (mi_okL_c (trivial) (mi_okL_c (ok_zf) (mi_okL_c (ok_zd) (mi_okL_c (ok_zi) (mi_okL_c (ok_zw) (mi_okL_c (ok_zo) (mi_okL_c (ok_zp) (mi_okL_c (ok_zn) (mi_okL_o ok_q8 (mi_okL_o ok_q9 (mi_okL_o ok_qa (mi_okL_e)))))))))))) (mi_okS_e) (mi_al (ho.1) (mi_al (ho.2.1) (mi_al (ho.2.2.1) (mi_al (ho.2.2.2.1) (mi_al (ho.2.2.2.2.1) (mi_al (ho.2.2.2.2.2.1) (mi_al (ho.2.2.2.2.2.2) (mi_al_e)))))))) (fun h1 W _ hst => let ⟨_, k1, k2⟩ := kon h1 W; mf_call (M := (11, 0, sb_120)) (M' := (7, 0, sb_131)) rfl rfl rfl rfl (Nat.le_of_ble_eq_true rfl) (Nat.le_of_ble_eq_true rfl) W.1 k1 k2)
set_option maxRecDepth 20000 in
theorem mp_kpwG_6 (h : sm_H) (d : Nat) (zf zd zi zw zo zp zn : Int) (q8 q9 qa : Option mi_V) : mj_path [(120, (11, 0, sb_120)), (16, (3, 0, sb_16)), (49, (2, 1, sb_49)), (72, (2, 2, sb_72)), (130, (2, 1, sb_130))] sx_sk h 57 [0, 0, 0, 0, 0, 0, 0, 0] (d + 16, 120, 104, [some (.inr (.inr 106)), some (.inl (zf)), some (.inl (zd)), some (.inl (zi)), some (.inl (zw)), some (.inl (zo)), some (.inl (zp)), some (.inl (zn)), q8, q9, qa], [], [], []) = some ((d + 16, 120, 170, [some (.inr (.inr 106)), some (.inl (zf)), some (.inl (zd)), some (.inl (zi)), some (.inl (zw)), some (.inl (zo)), some (.inl (zp)), some (.inl (zn)), some (.inl (mi_a h 71 (Int.toNat zp))), some (.inl (mi_f h 13056)), qa], [.inl (zd), .inl (zp), .inr (.inr 106)], [], []), [(mi_f h 13571) = ((0 : Int)), zp ≠ ((-1 : Int)), zn < ((60 : Int)), ((0 : Int)) ≤ zp, zp < ((60 : Int)), 0 ≤ zp ∧ zp < 60, (mi_a h 74 (Int.toNat zp)) = ((1 : Int)), ((0 : Int)) ≤ zp, zp < ((60 : Int)), 0 ≤ zp ∧ zp < 60]) := rfl
theorem mi_tab_kpwG_6 : ∀ e ∈ ([(120, (11, 0, sb_120)), (16, (3, 0, sb_16)), (49, (2, 1, sb_49)), (72, (2, 2, sb_72)), (130, (2, 1, sb_130))] : mi_T), sc_P e.1 = some e.2 := mi_tb mi_P120 (mi_tb mi_P16 (mi_tb mi_P49 (mi_tb mi_P72 (mi_tb mi_P130 (mi_tb_e)))))
set_option maxRecDepth 20000 in
theorem ms_kpwG_6 {h : sm_H} {d : Nat} {Q : Option mi_V → sm_H → Prop} {zf zd zi zw zo zp zn : Int} {q8 q9 qa : Option mi_V} (hS : ab_Sh sx_sk h) (ok_zf : mi_in zf) (ok_zd : mi_in zd) (ok_zi : mi_in zi) (ok_zw : mi_in zw) (ok_zo : mi_in zo) (ok_zp : mi_in zp) (ok_zn : mi_in zn) (ok_q8 : ∀ v, q8 = some v → mi_ok v) (ok_q9 : ∀ v, q9 = some v → mi_ok v) (ok_qa : ∀ v, qa = some v → mi_ok v) (ho : ((mi_f h 13571) = ((0 : Int))) ∧ (zp ≠ ((-1 : Int))) ∧ (zn < ((60 : Int))) ∧ (((0 : Int)) ≤ zp) ∧ (zp < ((60 : Int))) ∧ (0 ≤ zp ∧ zp < 60) ∧ ((mi_a h 74 (Int.toNat zp)) = ((1 : Int))) ∧ (((0 : Int)) ≤ zp) ∧ (zp < ((60 : Int))) ∧ (0 ≤ zp ∧ zp < 60)) (kon : ∀ h1, me_W [] h h1 → ∃ Q1, me_E (d + 15) 131 0 (mi_entry 7 [.inr (.inr 106), .inl (zp), .inl (zd)]) [] h1 Q1 ∧ ∀ w h2, (∀ x, w = some x → mi_ok x) → Q1 w h2 → me_E (d + 16) 120 173 [some (.inr (.inr 106)), some (.inl (zf)), some (.inl (zd)), some (.inl (zi)), some (.inl (zw)), some (.inl (zo)), some (.inl (zp)), some (.inl (zn)), some (.inl (mi_a h 71 (Int.toNat zp))), some (.inl (mi_f h 13056)), qa] (mi_back w []) h2 Q) : me_E (d + 16) 120 104 [some (.inr (.inr 106)), some (.inl (zf)), some (.inl (zd)), some (.inl (zi)), some (.inl (zw)), some (.inl (zo)), some (.inl (zp)), some (.inl (zn)), q8, q9, qa] [] h Q := mf_seg (mp_kpwG_6 h d zf zd zi zw zo zp zn q8 q9 qa) (mi_tab_kpwG_6) hS (mi_okL_c (trivial) (mi_okL_c (ok_zf) (mi_okL_c (ok_zd) (mi_okL_c (ok_zi) (mi_okL_c (ok_zw) (mi_okL_c (ok_zo) (mi_okL_c (ok_zp) (mi_okL_c (ok_zn) (mi_okL_o ok_q8 (mi_okL_o ok_q9 (mi_okL_o ok_qa (mi_okL_e)))))))))))) (mi_okS_e) (mi_al (ho.1) (mi_al (ho.2.1) (mi_al (ho.2.2.1) (mi_al (ho.2.2.2.1) (mi_al (ho.2.2.2.2.1) (mi_al (ho.2.2.2.2.2.1) (mi_al (ho.2.2.2.2.2.2.1) (mi_al (ho.2.2.2.2.2.2.2.1) (mi_al (ho.2.2.2.2.2.2.2.2.1) (mi_al (ho.2.2.2.2.2.2.2.2.2) (mi_al_e))))))))))) (fun h1 W _ hst => let ⟨_, k1, k2⟩ := kon h1 W; mf_call (M := (11, 0, sb_120)) (M' := (7, 0, sb_131)) rfl rfl rfl rfl (Nat.le_of_ble_eq_true rfl) (Nat.le_of_ble_eq_true rfl) W.1 k1 k2)
set_option maxRecDepth 20000 in
theorem mt_kpwG {h : sm_H} {d : Nat} {Q : Option mi_V → sm_H → Prop} {zf zd zi zw zo zp zn : Int} {q8 q9 qa : Option mi_V} (hS : ab_Sh sx_sk h) (ok_zf : mi_in zf) (ok_zd : mi_in zd) (ok_zi : mi_in zi) (ok_zw : mi_in zw) (ok_zo : mi_in zo) (ok_zp : mi_in zp) (ok_zn : mi_in zn) (ok_q8 : ∀ v, q8 = some v → mi_ok v) (ok_q9 : ∀ v, q9 = some v → mi_ok v) (ok_qa : ∀ v, qa = some v → mi_ok v) (k0 : (0 ≤ mi_f h 13571 ∧ mi_f h 13571 ≤ 1) → ((mi_f h 13571) ≠ ((0 : Int))) → (∀ h1, ab_Sh sx_sk h1 → ab_Fr [] h h1 → me_E (d + 16) 120 226 [some (.inr (.inr 106)), some (.inl (zf)), some (.inl (zd)), some (.inl (zi)), some (.inl (zw)), some (.inl (zo)), some (.inl (zp)), some (.inl (zn)), q8, q9, qa] [] h1 Q)) (k1 : (0 ≤ mi_f h 13571 ∧ mi_f h 13571 ≤ 1) → ((mi_f h 13571) = ((0 : Int))) → (zp = ((-1 : Int))) → (∀ h1, ab_Sh sx_sk h1 → ab_Fr [] h h1 → me_E (d + 16) 120 226 [some (.inr (.inr 106)), some (.inl (zf)), some (.inl (zd)), some (.inl (zi)), some (.inl (zw)), some (.inl (zo)), some (.inl (zp)), some (.inl (zn)), q8, q9, qa] [] h1 Q)) (k2 : (0 ≤ mi_f h 13571 ∧ mi_f h 13571 ≤ 1) → ((mi_f h 13571) = ((0 : Int))) → (zp ≠ ((-1 : Int))) → (((60 : Int)) ≤ zn) → (∀ h1, ab_Sh sx_sk h1 → ab_Fr [] h h1 → me_E (d + 16) 120 226 [some (.inr (.inr 106)), some (.inl (zf)), some (.inl (zd)), some (.inl (zi)), some (.inl (zw)), some (.inl (zo)), some (.inl (zp)), some (.inl (zn)), q8, q9, qa] [] h1 Q)) (k3 : (0 ≤ mi_f h 13571 ∧ mi_f h 13571 ≤ 1) → ((mi_f h 13571) = ((0 : Int))) → (zp ≠ ((-1 : Int))) → (zn < ((60 : Int))) → (zp < ((0 : Int))) → (∀ h1, ab_Sh sx_sk h1 → ab_Fr [] h h1 → ∃ Q1, me_E (d + 15) 131 0 (mi_entry 7 [.inr (.inr 106), .inl (zp), .inl (zd)]) [] h1 Q1 ∧ ∀ w h2, (∀ x, w = some x → mi_ok x) → Q1 w h2 → me_E (d + 16) 120 206 [some (.inr (.inr 106)), some (.inl (zf)), some (.inl (zd)), some (.inl (zi)), some (.inl (zw)), some (.inl (zo)), some (.inl (zp)), some (.inl (zn)), some (.inl (zp)), q9, qa] (mi_back w []) h2 Q)) (k4 : (0 ≤ mi_f h 13571 ∧ mi_f h 13571 ≤ 1) → ((mi_f h 13571) = ((0 : Int))) → (zp ≠ ((-1 : Int))) → (zn < ((60 : Int))) → (((0 : Int)) ≤ zp) → (((60 : Int)) ≤ zp) → (∀ h1, ab_Sh sx_sk h1 → ab_Fr [] h h1 → ∃ Q1, me_E (d + 15) 131 0 (mi_entry 7 [.inr (.inr 106), .inl (zp), .inl (zd)]) [] h1 Q1 ∧ ∀ w h2, (∀ x, w = some x → mi_ok x) → Q1 w h2 → me_E (d + 16) 120 206 [some (.inr (.inr 106)), some (.inl (zf)), some (.inl (zd)), some (.inl (zi)), some (.inl (zw)), some (.inl (zo)), some (.inl (zp)), some (.inl (zn)), some (.inl (zp)), q9, qa] (mi_back w []) h2 Q)) (k5 : (0 ≤ mi_f h 13571 ∧ mi_f h 13571 ≤ 1) → ((mi_f h 13571) = ((0 : Int))) → (zp ≠ ((-1 : Int))) → (zn < ((60 : Int))) → (((0 : Int)) ≤ zp) → (zp < ((60 : Int))) → ((mi_a h 74 (Int.toNat zp)) ≠ ((1 : Int))) → ((0 ≤ zp ∧ zp < 60)) ∧ (∀ h1, ab_Sh sx_sk h1 → ab_Fr [] h h1 → ∃ Q1, me_E (d + 15) 131 0 (mi_entry 7 [.inr (.inr 106), .inl (zp), .inl (zd)]) [] h1 Q1 ∧ ∀ w h2, (∀ x, w = some x → mi_ok x) → Q1 w h2 → me_E (d + 16) 120 206 [some (.inr (.inr 106)), some (.inl (zf)), some (.inl (zd)), some (.inl (zi)), some (.inl (zw)), some (.inl (zo)), some (.inl (zp)), some (.inl (zn)), some (.inl (zp)), q9, qa] (mi_back w []) h2 Q)) (k6 : (0 ≤ mi_f h 13571 ∧ mi_f h 13571 ≤ 1) → ((mi_f h 13571) = ((0 : Int))) → (zp ≠ ((-1 : Int))) → (zn < ((60 : Int))) → (((0 : Int)) ≤ zp) → (zp < ((60 : Int))) → ((mi_a h 74 (Int.toNat zp)) = ((1 : Int))) → ((0 ≤ zp ∧ zp < 60)) ∧ (∀ h1, ab_Sh sx_sk h1 → ab_Fr [] h h1 → ∃ Q1, me_E (d + 15) 131 0 (mi_entry 7 [.inr (.inr 106), .inl (zp), .inl (zd)]) [] h1 Q1 ∧ ∀ w h2, (∀ x, w = some x → mi_ok x) → Q1 w h2 → me_E (d + 16) 120 173 [some (.inr (.inr 106)), some (.inl (zf)), some (.inl (zd)), some (.inl (zi)), some (.inl (zw)), some (.inl (zo)), some (.inl (zp)), some (.inl (zn)), some (.inl (mi_a h 71 (Int.toNat zp))), some (.inl (mi_f h 13056)), qa] (mi_back w []) h2 Q)) : me_E (d + 16) 120 104 [some (.inr (.inr 106)), some (.inl (zf)), some (.inl (zd)), some (.inl (zi)), some (.inl (zw)), some (.inl (zo)), some (.inl (zp)), some (.inl (zn)), q8, q9, qa] [] h Q := Or.elim (mi_em .ne ((mi_f h 13571)) (((0 : Int)))) (fun c0 => ms_kpwG_0 hS ok_zf ok_zd ok_zi ok_zw ok_zo ok_zp ok_zn ok_q8 ok_q9 ok_qa (c0) (fun h1 W => (k0 (me_fb hS rfl) c0) h1 W.1 (W.2.2.2.2.2 _ rfl))) (fun c0 => Or.elim (mi_em .eq (zp) (((-1 : Int)))) (fun c1 => ms_kpwG_1 hS ok_zf ok_zd ok_zi ok_zw ok_zo ok_zp ok_zn ok_q8 ok_q9 ok_qa ⟨c0, c1⟩ (fun h1 W => (k1 (me_fb hS rfl) c0 c1) h1 W.1 (W.2.2.2.2.2 _ rfl))) (fun c1 => Or.elim (mi_em .ge (zn) (((60 : Int)))) (fun c2 => ms_kpwG_2 hS ok_zf ok_zd ok_zi ok_zw ok_zo ok_zp ok_zn ok_q8 ok_q9 ok_qa ⟨c0, c1, c2⟩ (fun h1 W => (k2 (me_fb hS rfl) c0 c1 c2) h1 W.1 (W.2.2.2.2.2 _ rfl))) (fun c2 => Or.elim (mi_em .lt (zp) (((0 : Int)))) (fun c3 => ms_kpwG_3 hS ok_zf ok_zd ok_zi ok_zw ok_zo ok_zp ok_zn ok_q8 ok_q9 ok_qa ⟨c0, c1, c2, c3, (by decide)⟩ (fun h1 W => (k3 (me_fb hS rfl) c0 c1 c2 c3) h1 W.1 (W.2.2.2.2.2 _ rfl))) (fun c3 => Or.elim (mi_em .ge (zp) (((60 : Int)))) (fun c4 => ms_kpwG_4 hS ok_zf ok_zd ok_zi ok_zw ok_zo ok_zp ok_zn ok_q8 ok_q9 ok_qa ⟨c0, c1, c2, c3, c4, (by decide)⟩ (fun h1 W => (k4 (me_fb hS rfl) c0 c1 c2 c3 c4) h1 W.1 (W.2.2.2.2.2 _ rfl))) (fun c4 => Or.elim (mi_em .ne ((mi_a h 74 (Int.toNat zp))) (((1 : Int)))) (fun c5 => ms_kpwG_5 hS ok_zf ok_zd ok_zi ok_zw ok_zo ok_zp ok_zn ok_q8 ok_q9 ok_qa ⟨c0, c1, c2, c3, c4, (k5 (me_fb hS rfl) c0 c1 c2 c3 c4 c5).1, c5⟩ (fun h1 W => (k5 (me_fb hS rfl) c0 c1 c2 c3 c4 c5).2 h1 W.1 (W.2.2.2.2.2 _ rfl))) (fun c5 => ms_kpwG_6 hS ok_zf ok_zd ok_zi ok_zw ok_zo ok_zp ok_zn ok_q8 ok_q9 ok_qa ⟨c0, c1, c2, c3, c4, (k6 (me_fb hS rfl) c0 c1 c2 c3 c4 c5).1, c5, c3, c4, (k6 (me_fb hS rfl) c0 c1 c2 c3 c4 c5).1⟩ (fun h1 W => (k6 (me_fb hS rfl) c0 c1 c2 c3 c4 c5).2 h1 W.1 (W.2.2.2.2.2 _ rfl))))))))
set_option maxRecDepth 20000 in
theorem mp_kpwH_0 (h : sm_H) (d : Nat) (zf zd zi zw zo zp zn zl : Int) (q9 qa : Option mi_V) : mj_path [(120, (11, 0, sb_120)), (16, (3, 0, sb_16)), (49, (2, 1, sb_49)), (72, (2, 2, sb_72))] sx_sk h 12 [1] (d + 16, 120, 206, [some (.inr (.inr 106)), some (.inl (zf)), some (.inl (zd)), some (.inl (zi)), some (.inl (zw)), some (.inl (zo)), some (.inl (zp)), some (.inl (zn)), some (.inl (zl)), q9, qa], [], [], []) = some ((d + 16, 120, 104, [some (.inr (.inr 106)), some (.inl (zf)), some (.inl (zd)), some (.inl (zi)), some (.inl (zw)), some (.inl (zo)), some (.inl ((0 : Int))), some (.inl (zn + 1)), some (.inl (zl)), q9, qa], [], [], []), [zl < ((0 : Int)), -2147483648 ≤ zn + 1 ∧ zn + 1 ≤ 2147483647]) := rfl
theorem mi_tab_kpwH_0 : ∀ e ∈ ([(120, (11, 0, sb_120)), (16, (3, 0, sb_16)), (49, (2, 1, sb_49)), (72, (2, 2, sb_72))] : mi_T), sc_P e.1 = some e.2 := mi_tb mi_P120 (mi_tb mi_P16 (mi_tb mi_P49 (mi_tb mi_P72 (mi_tb_e))))
set_option maxRecDepth 20000 in
theorem ms_kpwH_0 {h : sm_H} {d : Nat} {Q : Option mi_V → sm_H → Prop} {zf zd zi zw zo zp zn zl : Int} {q9 qa : Option mi_V} (hS : ab_Sh sx_sk h) (ok_zf : mi_in zf) (ok_zd : mi_in zd) (ok_zi : mi_in zi) (ok_zw : mi_in zw) (ok_zo : mi_in zo) (ok_zp : mi_in zp) (ok_zn : mi_in zn) (ok_zl : mi_in zl) (ok_q9 : ∀ v, q9 = some v → mi_ok v) (ok_qa : ∀ v, qa = some v → mi_ok v) (ho : (zl < ((0 : Int))) ∧ (-2147483648 ≤ zn + 1 ∧ zn + 1 ≤ 2147483647)) (kon : ∀ h1, me_W [] h h1 → me_E (d + 16) 120 104 [some (.inr (.inr 106)), some (.inl (zf)), some (.inl (zd)), some (.inl (zi)), some (.inl (zw)), some (.inl (zo)), some (.inl ((0 : Int))), some (.inl (zn + 1)), some (.inl (zl)), q9, qa] [] h1 Q) : me_E (d + 16) 120 206 [some (.inr (.inr 106)), some (.inl (zf)), some (.inl (zd)), some (.inl (zi)), some (.inl (zw)), some (.inl (zo)), some (.inl (zp)), some (.inl (zn)), some (.inl (zl)), q9, qa] [] h Q := mf_seg (mp_kpwH_0 h d zf zd zi zw zo zp zn zl q9 qa) (mi_tab_kpwH_0) hS (mi_okL_c (trivial) (mi_okL_c (ok_zf) (mi_okL_c (ok_zd) (mi_okL_c (ok_zi) (mi_okL_c (ok_zw) (mi_okL_c (ok_zo) (mi_okL_c (ok_zp) (mi_okL_c (ok_zn) (mi_okL_c (ok_zl) (mi_okL_o ok_q9 (mi_okL_o ok_qa (mi_okL_e)))))))))))) (mi_okS_e) (mi_al (ho.1) (mi_al (ho.2) (mi_al_e))) (fun h1 W _ hst => kon h1 W)
set_option maxRecDepth 20000 in
theorem mp_kpwH_1 (h : sm_H) (d : Nat) (zf zd zi zw zo zp zn zl : Int) (q9 qa : Option mi_V) : mj_path [(120, (11, 0, sb_120)), (16, (3, 0, sb_16)), (49, (2, 1, sb_49)), (72, (2, 2, sb_72))] sx_sk h 16 [0, 1] (d + 16, 120, 206, [some (.inr (.inr 106)), some (.inl (zf)), some (.inl (zd)), some (.inl (zi)), some (.inl (zw)), some (.inl (zo)), some (.inl (zp)), some (.inl (zn)), some (.inl (zl)), q9, qa], [], [], []) = some ((d + 16, 120, 104, [some (.inr (.inr 106)), some (.inl (zf)), some (.inl (zd)), some (.inl (zi)), some (.inl (zw)), some (.inl (zo)), some (.inl ((0 : Int))), some (.inl (zn + 1)), some (.inl (zl)), q9, qa], [], [], []), [((0 : Int)) ≤ zl, ((60 : Int)) ≤ zl, -2147483648 ≤ zn + 1 ∧ zn + 1 ≤ 2147483647]) := rfl
theorem mi_tab_kpwH_1 : ∀ e ∈ ([(120, (11, 0, sb_120)), (16, (3, 0, sb_16)), (49, (2, 1, sb_49)), (72, (2, 2, sb_72))] : mi_T), sc_P e.1 = some e.2 := mi_tb mi_P120 (mi_tb mi_P16 (mi_tb mi_P49 (mi_tb mi_P72 (mi_tb_e))))
set_option maxRecDepth 20000 in
theorem ms_kpwH_1 {h : sm_H} {d : Nat} {Q : Option mi_V → sm_H → Prop} {zf zd zi zw zo zp zn zl : Int} {q9 qa : Option mi_V} (hS : ab_Sh sx_sk h) (ok_zf : mi_in zf) (ok_zd : mi_in zd) (ok_zi : mi_in zi) (ok_zw : mi_in zw) (ok_zo : mi_in zo) (ok_zp : mi_in zp) (ok_zn : mi_in zn) (ok_zl : mi_in zl) (ok_q9 : ∀ v, q9 = some v → mi_ok v) (ok_qa : ∀ v, qa = some v → mi_ok v) (ho : (((0 : Int)) ≤ zl) ∧ (((60 : Int)) ≤ zl) ∧ (-2147483648 ≤ zn + 1 ∧ zn + 1 ≤ 2147483647)) (kon : ∀ h1, me_W [] h h1 → me_E (d + 16) 120 104 [some (.inr (.inr 106)), some (.inl (zf)), some (.inl (zd)), some (.inl (zi)), some (.inl (zw)), some (.inl (zo)), some (.inl ((0 : Int))), some (.inl (zn + 1)), some (.inl (zl)), q9, qa] [] h1 Q) : me_E (d + 16) 120 206 [some (.inr (.inr 106)), some (.inl (zf)), some (.inl (zd)), some (.inl (zi)), some (.inl (zw)), some (.inl (zo)), some (.inl (zp)), some (.inl (zn)), some (.inl (zl)), q9, qa] [] h Q := mf_seg (mp_kpwH_1 h d zf zd zi zw zo zp zn zl q9 qa) (mi_tab_kpwH_1) hS (mi_okL_c (trivial) (mi_okL_c (ok_zf) (mi_okL_c (ok_zd) (mi_okL_c (ok_zi) (mi_okL_c (ok_zw) (mi_okL_c (ok_zo) (mi_okL_c (ok_zp) (mi_okL_c (ok_zn) (mi_okL_c (ok_zl) (mi_okL_o ok_q9 (mi_okL_o ok_qa (mi_okL_e)))))))))))) (mi_okS_e) (mi_al (ho.1) (mi_al (ho.2.1) (mi_al (ho.2.2) (mi_al_e)))) (fun h1 W _ hst => kon h1 W)
set_option maxRecDepth 20000 in
theorem mp_kpwH_2 (h : sm_H) (d : Nat) (zf zd zi zw zo zp zn zl : Int) (q9 qa : Option mi_V) : mj_path [(120, (11, 0, sb_120)), (16, (3, 0, sb_16)), (49, (2, 1, sb_49)), (72, (2, 2, sb_72))] sx_sk h 19 [0, 0] (d + 16, 120, 206, [some (.inr (.inr 106)), some (.inl (zf)), some (.inl (zd)), some (.inl (zi)), some (.inl (zw)), some (.inl (zo)), some (.inl (zp)), some (.inl (zn)), some (.inl (zl)), q9, qa], [], [], []) = some ((d + 16, 120, 104, [some (.inr (.inr 106)), some (.inl (zf)), some (.inl (zd)), some (.inl (zi)), some (.inl (zw)), some (.inl (zo)), some (.inl (mi_a h 71 (Int.toNat zl))), some (.inl (zn + 1)), some (.inl (zl)), q9, qa], [], [], []), [((0 : Int)) ≤ zl, zl < ((60 : Int)), 0 ≤ zl ∧ zl < 60, -2147483648 ≤ zn + 1 ∧ zn + 1 ≤ 2147483647]) := rfl
theorem mi_tab_kpwH_2 : ∀ e ∈ ([(120, (11, 0, sb_120)), (16, (3, 0, sb_16)), (49, (2, 1, sb_49)), (72, (2, 2, sb_72))] : mi_T), sc_P e.1 = some e.2 := mi_tb mi_P120 (mi_tb mi_P16 (mi_tb mi_P49 (mi_tb mi_P72 (mi_tb_e))))
set_option maxRecDepth 20000 in
theorem ms_kpwH_2 {h : sm_H} {d : Nat} {Q : Option mi_V → sm_H → Prop} {zf zd zi zw zo zp zn zl : Int} {q9 qa : Option mi_V} (hS : ab_Sh sx_sk h) (ok_zf : mi_in zf) (ok_zd : mi_in zd) (ok_zi : mi_in zi) (ok_zw : mi_in zw) (ok_zo : mi_in zo) (ok_zp : mi_in zp) (ok_zn : mi_in zn) (ok_zl : mi_in zl) (ok_q9 : ∀ v, q9 = some v → mi_ok v) (ok_qa : ∀ v, qa = some v → mi_ok v) (ho : (((0 : Int)) ≤ zl) ∧ (zl < ((60 : Int))) ∧ (0 ≤ zl ∧ zl < 60) ∧ (-2147483648 ≤ zn + 1 ∧ zn + 1 ≤ 2147483647)) (kon : ∀ h1, me_W [] h h1 → me_E (d + 16) 120 104 [some (.inr (.inr 106)), some (.inl (zf)), some (.inl (zd)), some (.inl (zi)), some (.inl (zw)), some (.inl (zo)), some (.inl (mi_a h 71 (Int.toNat zl))), some (.inl (zn + 1)), some (.inl (zl)), q9, qa] [] h1 Q) : me_E (d + 16) 120 206 [some (.inr (.inr 106)), some (.inl (zf)), some (.inl (zd)), some (.inl (zi)), some (.inl (zw)), some (.inl (zo)), some (.inl (zp)), some (.inl (zn)), some (.inl (zl)), q9, qa] [] h Q := mf_seg (mp_kpwH_2 h d zf zd zi zw zo zp zn zl q9 qa) (mi_tab_kpwH_2) hS (mi_okL_c (trivial) (mi_okL_c (ok_zf) (mi_okL_c (ok_zd) (mi_okL_c (ok_zi) (mi_okL_c (ok_zw) (mi_okL_c (ok_zo) (mi_okL_c (ok_zp) (mi_okL_c (ok_zn) (mi_okL_c (ok_zl) (mi_okL_o ok_q9 (mi_okL_o ok_qa (mi_okL_e)))))))))))) (mi_okS_e) (mi_al (ho.1) (mi_al (ho.2.1) (mi_al (ho.2.2.1) (mi_al (ho.2.2.2) (mi_al_e))))) (fun h1 W _ hst => kon h1 W)
set_option maxRecDepth 20000 in
theorem mt_kpwH {h : sm_H} {d : Nat} {Q : Option mi_V → sm_H → Prop} {zf zd zi zw zo zp zn zl : Int} {q9 qa : Option mi_V} (hS : ab_Sh sx_sk h) (ok_zf : mi_in zf) (ok_zd : mi_in zd) (ok_zi : mi_in zi) (ok_zw : mi_in zw) (ok_zo : mi_in zo) (ok_zp : mi_in zp) (ok_zn : mi_in zn) (ok_zl : mi_in zl) (ok_q9 : ∀ v, q9 = some v → mi_ok v) (ok_qa : ∀ v, qa = some v → mi_ok v) (k0 : (zl < ((0 : Int))) → ((-2147483648 ≤ zn + 1 ∧ zn + 1 ≤ 2147483647)) ∧ (∀ h1, ab_Sh sx_sk h1 → ab_Fr [] h h1 → me_E (d + 16) 120 104 [some (.inr (.inr 106)), some (.inl (zf)), some (.inl (zd)), some (.inl (zi)), some (.inl (zw)), some (.inl (zo)), some (.inl ((0 : Int))), some (.inl (zn + 1)), some (.inl (zl)), q9, qa] [] h1 Q)) (k1 : (((0 : Int)) ≤ zl) → (((60 : Int)) ≤ zl) → ((-2147483648 ≤ zn + 1 ∧ zn + 1 ≤ 2147483647)) ∧ (∀ h1, ab_Sh sx_sk h1 → ab_Fr [] h h1 → me_E (d + 16) 120 104 [some (.inr (.inr 106)), some (.inl (zf)), some (.inl (zd)), some (.inl (zi)), some (.inl (zw)), some (.inl (zo)), some (.inl ((0 : Int))), some (.inl (zn + 1)), some (.inl (zl)), q9, qa] [] h1 Q)) (k2 : (((0 : Int)) ≤ zl) → (zl < ((60 : Int))) → ((0 ≤ zl ∧ zl < 60) ∧ (-2147483648 ≤ zn + 1 ∧ zn + 1 ≤ 2147483647)) ∧ (∀ h1, ab_Sh sx_sk h1 → ab_Fr [] h h1 → me_E (d + 16) 120 104 [some (.inr (.inr 106)), some (.inl (zf)), some (.inl (zd)), some (.inl (zi)), some (.inl (zw)), some (.inl (zo)), some (.inl (mi_a h 71 (Int.toNat zl))), some (.inl (zn + 1)), some (.inl (zl)), q9, qa] [] h1 Q)) : me_E (d + 16) 120 206 [some (.inr (.inr 106)), some (.inl (zf)), some (.inl (zd)), some (.inl (zi)), some (.inl (zw)), some (.inl (zo)), some (.inl (zp)), some (.inl (zn)), some (.inl (zl)), q9, qa] [] h Q := Or.elim (mi_em .lt (zl) (((0 : Int)))) (fun c0 => ms_kpwH_0 hS ok_zf ok_zd ok_zi ok_zw ok_zo ok_zp ok_zn ok_zl ok_q9 ok_qa ⟨c0, (k0 c0).1⟩ (fun h1 W => (k0 c0).2 h1 W.1 (W.2.2.2.2.2 _ rfl))) (fun c0 => Or.elim (mi_em .ge (zl) (((60 : Int)))) (fun c1 => ms_kpwH_1 hS ok_zf ok_zd ok_zi ok_zw ok_zo ok_zp ok_zn ok_zl ok_q9 ok_qa ⟨c0, c1, (k1 c0 c1).1⟩ (fun h1 W => (k1 c0 c1).2 h1 W.1 (W.2.2.2.2.2 _ rfl))) (fun c1 => ms_kpwH_2 hS ok_zf ok_zd ok_zi ok_zw ok_zo ok_zp ok_zn ok_zl ok_q9 ok_qa ⟨c0, c1, (k2 c0 c1).1.1, (k2 c0 c1).1.2⟩ (fun h1 W => (k2 c0 c1).2 h1 W.1 (W.2.2.2.2.2 _ rfl))))
set_option maxRecDepth 20000 in
theorem mp_kpwI_0 (h : sm_H) (d : Nat) (zf zd zi zw zo zp zn zl zs : Int) (qa : Option mi_V) : mj_path [(120, (11, 0, sb_120)), (150, (2, 1, sb_150))] sx_sk h 11 [] (d + 16, 120, 173, [some (.inr (.inr 106)), some (.inl (zf)), some (.inl (zd)), some (.inl (zi)), some (.inl (zw)), some (.inl (zo)), some (.inl (zp)), some (.inl (zn)), some (.inl (zl)), some (.inl (zs)), qa], [], [], []) = some ((d + 16, 120, 185, [some (.inr (.inr 106)), some (.inl (zf)), some (.inl (zd)), some (.inl (zi)), some (.inl (zw)), some (.inl (zo)), some (.inl (zp)), some (.inl (zn)), some (.inl (zl)), some (.inl (zs)), some (.inl (mi_f h 13056))], [.inl (zd), .inl (zl), .inr (.inr 106)], [], []), []) := rfl
theorem mi_tab_kpwI_0 : ∀ e ∈ ([(120, (11, 0, sb_120)), (150, (2, 1, sb_150))] : mi_T), sc_P e.1 = some e.2 := mi_tb mi_P120 (mi_tb mi_P150 (mi_tb_e))
set_option maxRecDepth 20000 in
theorem ms_kpwI_0 {h : sm_H} {d : Nat} {Q : Option mi_V → sm_H → Prop} {zf zd zi zw zo zp zn zl zs : Int} {qa : Option mi_V} (hS : ab_Sh sx_sk h) (ok_zf : mi_in zf) (ok_zd : mi_in zd) (ok_zi : mi_in zi) (ok_zw : mi_in zw) (ok_zo : mi_in zo) (ok_zp : mi_in zp) (ok_zn : mi_in zn) (ok_zl : mi_in zl) (ok_zs : mi_in zs) (ok_qa : ∀ v, qa = some v → mi_ok v) (kon : ∀ h1, me_W [] h h1 → ∃ Q1, me_E (d + 15) 131 0 (mi_entry 7 [.inr (.inr 106), .inl (zl), .inl (zd)]) [] h1 Q1 ∧ ∀ w h2, (∀ x, w = some x → mi_ok x) → Q1 w h2 → me_E (d + 16) 120 188 [some (.inr (.inr 106)), some (.inl (zf)), some (.inl (zd)), some (.inl (zi)), some (.inl (zw)), some (.inl (zo)), some (.inl (zp)), some (.inl (zn)), some (.inl (zl)), some (.inl (zs)), some (.inl (mi_f h 13056))] (mi_back w []) h2 Q) : me_E (d + 16) 120 173 [some (.inr (.inr 106)), some (.inl (zf)), some (.inl (zd)), some (.inl (zi)), some (.inl (zw)), some (.inl (zo)), some (.inl (zp)), some (.inl (zn)), some (.inl (zl)), some (.inl (zs)), qa] [] h Q := mf_seg (mp_kpwI_0 h d zf zd zi zw zo zp zn zl zs qa) (mi_tab_kpwI_0) hS (mi_okL_c (trivial) (mi_okL_c (ok_zf) (mi_okL_c (ok_zd) (mi_okL_c (ok_zi) (mi_okL_c (ok_zw) (mi_okL_c (ok_zo) (mi_okL_c (ok_zp) (mi_okL_c (ok_zn) (mi_okL_c (ok_zl) (mi_okL_c (ok_zs) (mi_okL_o ok_qa (mi_okL_e)))))))))))) (mi_okS_e) (mi_al_e) (fun h1 W _ hst => let ⟨_, k1, k2⟩ := kon h1 W; mf_call (M := (11, 0, sb_120)) (M' := (7, 0, sb_131)) rfl rfl rfl rfl (Nat.le_of_ble_eq_true rfl) (Nat.le_of_ble_eq_true rfl) W.1 k1 k2)
set_option maxRecDepth 20000 in
theorem mt_kpwI {h : sm_H} {d : Nat} {Q : Option mi_V → sm_H → Prop} {zf zd zi zw zo zp zn zl zs : Int} {qa : Option mi_V} (hS : ab_Sh sx_sk h) (ok_zf : mi_in zf) (ok_zd : mi_in zd) (ok_zi : mi_in zi) (ok_zw : mi_in zw) (ok_zo : mi_in zo) (ok_zp : mi_in zp) (ok_zn : mi_in zn) (ok_zl : mi_in zl) (ok_zs : mi_in zs) (ok_qa : ∀ v, qa = some v → mi_ok v) (k0 : (∀ h1, ab_Sh sx_sk h1 → ab_Fr [] h h1 → ∃ Q1, me_E (d + 15) 131 0 (mi_entry 7 [.inr (.inr 106), .inl (zl), .inl (zd)]) [] h1 Q1 ∧ ∀ w h2, (∀ x, w = some x → mi_ok x) → Q1 w h2 → me_E (d + 16) 120 188 [some (.inr (.inr 106)), some (.inl (zf)), some (.inl (zd)), some (.inl (zi)), some (.inl (zw)), some (.inl (zo)), some (.inl (zp)), some (.inl (zn)), some (.inl (zl)), some (.inl (zs)), some (.inl (mi_f h 13056))] (mi_back w []) h2 Q)) : me_E (d + 16) 120 173 [some (.inr (.inr 106)), some (.inl (zf)), some (.inl (zd)), some (.inl (zi)), some (.inl (zw)), some (.inl (zo)), some (.inl (zp)), some (.inl (zn)), some (.inl (zl)), some (.inl (zs)), qa] [] h Q := ms_kpwI_0 hS ok_zf ok_zd ok_zi ok_zw ok_zo ok_zp ok_zn ok_zl ok_zs ok_qa (fun h1 W => (k0) h1 W.1 (W.2.2.2.2.2 _ rfl))
set_option maxRecDepth 20000 in
theorem mp_kpwJ_0 (h : sm_H) (d : Nat) (zf zd zi zw zo zp zn zl zs zm : Int) : mj_path [(120, (11, 0, sb_120))] sx_sk h 3 [] (d + 16, 120, 188, [some (.inr (.inr 106)), some (.inl (zf)), some (.inl (zd)), some (.inl (zi)), some (.inl (zw)), some (.inl (zo)), some (.inl (zp)), some (.inl (zn)), some (.inl (zl)), some (.inl (zs)), some (.inl (zm))], [], [], []) = some ((d + 16, 120, 193, [some (.inr (.inr 106)), some (.inl (zf)), some (.inl (zd)), some (.inl (zi)), some (.inl (zw)), some (.inl (zo)), some (.inl (zp)), some (.inl (zn)), some (.inl (zl)), some (.inl (zs)), some (.inl (zm))], [.inl (zm), .inl (zs), .inr (.inr 106)], [], []), []) := rfl
theorem mi_tab_kpwJ_0 : ∀ e ∈ ([(120, (11, 0, sb_120))] : mi_T), sc_P e.1 = some e.2 := mi_tb mi_P120 (mi_tb_e)
set_option maxRecDepth 20000 in
theorem ms_kpwJ_0 {h : sm_H} {d : Nat} {Q : Option mi_V → sm_H → Prop} {zf zd zi zw zo zp zn zl zs zm : Int} (hS : ab_Sh sx_sk h) (ok_zf : mi_in zf) (ok_zd : mi_in zd) (ok_zi : mi_in zi) (ok_zw : mi_in zw) (ok_zo : mi_in zo) (ok_zp : mi_in zp) (ok_zn : mi_in zn) (ok_zl : mi_in zl) (ok_zs : mi_in zs) (ok_zm : mi_in zm) (kon : ∀ h1, me_W [] h h1 → ∃ Q1, me_E (d + 15) 152 0 (mi_entry 3 [.inr (.inr 106), .inl (zs), .inl (zm)]) [] h1 Q1 ∧ ∀ w h2, (∀ x, w = some x → mi_ok x) → Q1 w h2 → me_E (d + 16) 120 196 [some (.inr (.inr 106)), some (.inl (zf)), some (.inl (zd)), some (.inl (zi)), some (.inl (zw)), some (.inl (zo)), some (.inl (zp)), some (.inl (zn)), some (.inl (zl)), some (.inl (zs)), some (.inl (zm))] (mi_back w []) h2 Q) : me_E (d + 16) 120 188 [some (.inr (.inr 106)), some (.inl (zf)), some (.inl (zd)), some (.inl (zi)), some (.inl (zw)), some (.inl (zo)), some (.inl (zp)), some (.inl (zn)), some (.inl (zl)), some (.inl (zs)), some (.inl (zm))] [] h Q := mf_seg (mp_kpwJ_0 h d zf zd zi zw zo zp zn zl zs zm) (mi_tab_kpwJ_0) hS (mi_okL_c (trivial) (mi_okL_c (ok_zf) (mi_okL_c (ok_zd) (mi_okL_c (ok_zi) (mi_okL_c (ok_zw) (mi_okL_c (ok_zo) (mi_okL_c (ok_zp) (mi_okL_c (ok_zn) (mi_okL_c (ok_zl) (mi_okL_c (ok_zs) (mi_okL_c (ok_zm) (mi_okL_e)))))))))))) (mi_okS_e) (mi_al_e) (fun h1 W _ hst => let ⟨_, k1, k2⟩ := kon h1 W; mf_call (M := (11, 0, sb_120)) (M' := (3, 0, sb_152)) rfl rfl rfl rfl (Nat.le_of_ble_eq_true rfl) (Nat.le_of_ble_eq_true rfl) W.1 k1 k2)
set_option maxRecDepth 20000 in
theorem mt_kpwJ {h : sm_H} {d : Nat} {Q : Option mi_V → sm_H → Prop} {zf zd zi zw zo zp zn zl zs zm : Int} (hS : ab_Sh sx_sk h) (ok_zf : mi_in zf) (ok_zd : mi_in zd) (ok_zi : mi_in zi) (ok_zw : mi_in zw) (ok_zo : mi_in zo) (ok_zp : mi_in zp) (ok_zn : mi_in zn) (ok_zl : mi_in zl) (ok_zs : mi_in zs) (ok_zm : mi_in zm) (k0 : (∀ h1, ab_Sh sx_sk h1 → ab_Fr [] h h1 → ∃ Q1, me_E (d + 15) 152 0 (mi_entry 3 [.inr (.inr 106), .inl (zs), .inl (zm)]) [] h1 Q1 ∧ ∀ w h2, (∀ x, w = some x → mi_ok x) → Q1 w h2 → me_E (d + 16) 120 196 [some (.inr (.inr 106)), some (.inl (zf)), some (.inl (zd)), some (.inl (zi)), some (.inl (zw)), some (.inl (zo)), some (.inl (zp)), some (.inl (zn)), some (.inl (zl)), some (.inl (zs)), some (.inl (zm))] (mi_back w []) h2 Q)) : me_E (d + 16) 120 188 [some (.inr (.inr 106)), some (.inl (zf)), some (.inl (zd)), some (.inl (zi)), some (.inl (zw)), some (.inl (zo)), some (.inl (zp)), some (.inl (zn)), some (.inl (zl)), some (.inl (zs)), some (.inl (zm))] [] h Q := ms_kpwJ_0 hS ok_zf ok_zd ok_zi ok_zw ok_zo ok_zp ok_zn ok_zl ok_zs ok_zm (fun h1 W => (k0) h1 W.1 (W.2.2.2.2.2 _ rfl))
set_option maxRecDepth 20000 in
theorem mp_kpwK_0 (h : sm_H) (d : Nat) (zf zd zi zw zo zp zn zl zs zm : Int) : mj_path [(120, (11, 0, sb_120))] sx_sk h 1 [] (d + 16, 120, 196, [some (.inr (.inr 106)), some (.inl (zf)), some (.inl (zd)), some (.inl (zi)), some (.inl (zw)), some (.inl (zo)), some (.inl (zp)), some (.inl (zn)), some (.inl (zl)), some (.inl (zs)), some (.inl (zm))], [], [], []) = some ((d + 16, 120, 206, [some (.inr (.inr 106)), some (.inl (zf)), some (.inl (zd)), some (.inl (zi)), some (.inl (zw)), some (.inl (zo)), some (.inl (zp)), some (.inl (zn)), some (.inl (zl)), some (.inl (zs)), some (.inl (zm))], [], [], []), []) := rfl
theorem mi_tab_kpwK_0 : ∀ e ∈ ([(120, (11, 0, sb_120))] : mi_T), sc_P e.1 = some e.2 := mi_tb mi_P120 (mi_tb_e)
set_option maxRecDepth 20000 in
theorem ms_kpwK_0 {h : sm_H} {d : Nat} {Q : Option mi_V → sm_H → Prop} {zf zd zi zw zo zp zn zl zs zm : Int} (hS : ab_Sh sx_sk h) (ok_zf : mi_in zf) (ok_zd : mi_in zd) (ok_zi : mi_in zi) (ok_zw : mi_in zw) (ok_zo : mi_in zo) (ok_zp : mi_in zp) (ok_zn : mi_in zn) (ok_zl : mi_in zl) (ok_zs : mi_in zs) (ok_zm : mi_in zm) (kon : ∀ h1, me_W [] h h1 → me_E (d + 16) 120 206 [some (.inr (.inr 106)), some (.inl (zf)), some (.inl (zd)), some (.inl (zi)), some (.inl (zw)), some (.inl (zo)), some (.inl (zp)), some (.inl (zn)), some (.inl (zl)), some (.inl (zs)), some (.inl (zm))] [] h1 Q) : me_E (d + 16) 120 196 [some (.inr (.inr 106)), some (.inl (zf)), some (.inl (zd)), some (.inl (zi)), some (.inl (zw)), some (.inl (zo)), some (.inl (zp)), some (.inl (zn)), some (.inl (zl)), some (.inl (zs)), some (.inl (zm))] [] h Q := mf_seg (mp_kpwK_0 h d zf zd zi zw zo zp zn zl zs zm) (mi_tab_kpwK_0) hS (mi_okL_c (trivial) (mi_okL_c (ok_zf) (mi_okL_c (ok_zd) (mi_okL_c (ok_zi) (mi_okL_c (ok_zw) (mi_okL_c (ok_zo) (mi_okL_c (ok_zp) (mi_okL_c (ok_zn) (mi_okL_c (ok_zl) (mi_okL_c (ok_zs) (mi_okL_c (ok_zm) (mi_okL_e)))))))))))) (mi_okS_e) (mi_al_e) (fun h1 W _ hst => kon h1 W)
set_option maxRecDepth 20000 in
theorem mt_kpwK {h : sm_H} {d : Nat} {Q : Option mi_V → sm_H → Prop} {zf zd zi zw zo zp zn zl zs zm : Int} (hS : ab_Sh sx_sk h) (ok_zf : mi_in zf) (ok_zd : mi_in zd) (ok_zi : mi_in zi) (ok_zw : mi_in zw) (ok_zo : mi_in zo) (ok_zp : mi_in zp) (ok_zn : mi_in zn) (ok_zl : mi_in zl) (ok_zs : mi_in zs) (ok_zm : mi_in zm) (k0 : (∀ h1, ab_Sh sx_sk h1 → ab_Fr [] h h1 → me_E (d + 16) 120 206 [some (.inr (.inr 106)), some (.inl (zf)), some (.inl (zd)), some (.inl (zi)), some (.inl (zw)), some (.inl (zo)), some (.inl (zp)), some (.inl (zn)), some (.inl (zl)), some (.inl (zs)), some (.inl (zm))] [] h1 Q)) : me_E (d + 16) 120 196 [some (.inr (.inr 106)), some (.inl (zf)), some (.inl (zd)), some (.inl (zi)), some (.inl (zw)), some (.inl (zo)), some (.inl (zp)), some (.inl (zn)), some (.inl (zl)), some (.inl (zs)), some (.inl (zm))] [] h Q := ms_kpwK_0 hS ok_zf ok_zd ok_zi ok_zw ok_zo ok_zp ok_zn ok_zl ok_zs ok_zm (fun h1 W => (k0) h1 W.1 (W.2.2.2.2.2 _ rfl))
set_option maxRecDepth 20000 in
theorem mp_kpwL_0 (h : sm_H) (d : Nat) (zf zd zi zw zo zp zn : Int) (q8 q9 qa : Option mi_V) : mj_path [(120, (11, 0, sb_120))] sx_sk h 3 [1] (d + 16, 120, 226, [some (.inr (.inr 106)), some (.inl (zf)), some (.inl (zd)), some (.inl (zi)), some (.inl (zw)), some (.inl (zo)), some (.inl (zp)), some (.inl (zn)), q8, q9, qa], [], [], []) = some ((d + 16, 120, 238, [some (.inr (.inr 106)), some (.inl (zf)), some (.inl (zd)), some (.inl (zi)), some (.inl (zw)), some (.inl (zo)), some (.inl (zp)), some (.inl (zn)), q8, q9, qa], [], [], []), [zo = ((-1 : Int))]) := rfl
theorem mi_tab_kpwL_0 : ∀ e ∈ ([(120, (11, 0, sb_120))] : mi_T), sc_P e.1 = some e.2 := mi_tb mi_P120 (mi_tb_e)
set_option maxRecDepth 20000 in
theorem ms_kpwL_0 {h : sm_H} {d : Nat} {Q : Option mi_V → sm_H → Prop} {zf zd zi zw zo zp zn : Int} {q8 q9 qa : Option mi_V} (hS : ab_Sh sx_sk h) (ok_zf : mi_in zf) (ok_zd : mi_in zd) (ok_zi : mi_in zi) (ok_zw : mi_in zw) (ok_zo : mi_in zo) (ok_zp : mi_in zp) (ok_zn : mi_in zn) (ok_q8 : ∀ v, q8 = some v → mi_ok v) (ok_q9 : ∀ v, q9 = some v → mi_ok v) (ok_qa : ∀ v, qa = some v → mi_ok v) (ho : (zo = ((-1 : Int)))) (kon : ∀ h1, me_W [] h h1 → Q none h1) : me_E (d + 16) 120 226 [some (.inr (.inr 106)), some (.inl (zf)), some (.inl (zd)), some (.inl (zi)), some (.inl (zw)), some (.inl (zo)), some (.inl (zp)), some (.inl (zn)), q8, q9, qa] [] h Q := mf_seg (mp_kpwL_0 h d zf zd zi zw zo zp zn q8 q9 qa) (mi_tab_kpwL_0) hS (mi_okL_c (trivial) (mi_okL_c (ok_zf) (mi_okL_c (ok_zd) (mi_okL_c (ok_zi) (mi_okL_c (ok_zw) (mi_okL_c (ok_zo) (mi_okL_c (ok_zp) (mi_okL_c (ok_zn) (mi_okL_o ok_q8 (mi_okL_o ok_q9 (mi_okL_o ok_qa (mi_okL_e)))))))))))) (mi_okS_e) (mi_al (ho) (mi_al_e)) (fun h1 W _ hst => mf_ret (M := (11, 0, sb_120)) rfl rfl rfl hst (mi_al_e) (kon h1 W))
set_option maxRecDepth 20000 in
theorem mp_kpwL_1 (h : sm_H) (d : Nat) (zf zd zi zw zo zp zn : Int) (q8 q9 qa : Option mi_V) : mj_path [(120, (11, 0, sb_120))] sx_sk h 5 [0] (d + 16, 120, 226, [some (.inr (.inr 106)), some (.inl (zf)), some (.inl (zd)), some (.inl (zi)), some (.inl (zw)), some (.inl (zo)), some (.inl (zp)), some (.inl (zn)), q8, q9, qa], [], [], []) = some ((d + 16, 120, 235, [some (.inr (.inr 106)), some (.inl (zf)), some (.inl (zd)), some (.inl (zi)), some (.inl (zw)), some (.inl (zo)), some (.inl (zp)), some (.inl (zn)), q8, q9, qa], [.inl (zo), .inr (.inr 106)], [], []), [zo ≠ ((-1 : Int))]) := rfl
theorem mi_tab_kpwL_1 : ∀ e ∈ ([(120, (11, 0, sb_120))] : mi_T), sc_P e.1 = some e.2 := mi_tb mi_P120 (mi_tb_e)
set_option maxRecDepth 20000 in
theorem ms_kpwL_1 {h : sm_H} {d : Nat} {Q : Option mi_V → sm_H → Prop} {zf zd zi zw zo zp zn : Int} {q8 q9 qa : Option mi_V} (hS : ab_Sh sx_sk h) (ok_zf : mi_in zf) (ok_zd : mi_in zd) (ok_zi : mi_in zi) (ok_zw : mi_in zw) (ok_zo : mi_in zo) (ok_zp : mi_in zp) (ok_zn : mi_in zn) (ok_q8 : ∀ v, q8 = some v → mi_ok v) (ok_q9 : ∀ v, q9 = some v → mi_ok v) (ok_qa : ∀ v, qa = some v → mi_ok v) (ho : (zo ≠ ((-1 : Int)))) (kon : ∀ h1, me_W [] h h1 → ∃ Q1, me_E (d + 15) 147 0 (mi_entry 2 [.inr (.inr 106), .inl (zo)]) [] h1 Q1 ∧ ∀ w h2, (∀ x, w = some x → mi_ok x) → Q1 w h2 → me_E (d + 16) 120 238 [some (.inr (.inr 106)), some (.inl (zf)), some (.inl (zd)), some (.inl (zi)), some (.inl (zw)), some (.inl (zo)), some (.inl (zp)), some (.inl (zn)), q8, q9, qa] (mi_back w []) h2 Q) : me_E (d + 16) 120 226 [some (.inr (.inr 106)), some (.inl (zf)), some (.inl (zd)), some (.inl (zi)), some (.inl (zw)), some (.inl (zo)), some (.inl (zp)), some (.inl (zn)), q8, q9, qa] [] h Q := mf_seg (mp_kpwL_1 h d zf zd zi zw zo zp zn q8 q9 qa) (mi_tab_kpwL_1) hS (mi_okL_c (trivial) (mi_okL_c (ok_zf) (mi_okL_c (ok_zd) (mi_okL_c (ok_zi) (mi_okL_c (ok_zw) (mi_okL_c (ok_zo) (mi_okL_c (ok_zp) (mi_okL_c (ok_zn) (mi_okL_o ok_q8 (mi_okL_o ok_q9 (mi_okL_o ok_qa (mi_okL_e)))))))))))) (mi_okS_e) (mi_al (ho) (mi_al_e)) (fun h1 W _ hst => let ⟨_, k1, k2⟩ := kon h1 W; mf_call (M := (11, 0, sb_120)) (M' := (2, 0, sb_147)) rfl rfl rfl rfl (Nat.le_of_ble_eq_true rfl) (Nat.le_of_ble_eq_true rfl) W.1 k1 k2)
set_option maxRecDepth 20000 in
theorem mt_kpwL {h : sm_H} {d : Nat} {Q : Option mi_V → sm_H → Prop} {zf zd zi zw zo zp zn : Int} {q8 q9 qa : Option mi_V} (hS : ab_Sh sx_sk h) (ok_zf : mi_in zf) (ok_zd : mi_in zd) (ok_zi : mi_in zi) (ok_zw : mi_in zw) (ok_zo : mi_in zo) (ok_zp : mi_in zp) (ok_zn : mi_in zn) (ok_q8 : ∀ v, q8 = some v → mi_ok v) (ok_q9 : ∀ v, q9 = some v → mi_ok v) (ok_qa : ∀ v, qa = some v → mi_ok v) (k0 : (zo = ((-1 : Int))) → (∀ h1, ab_Sh sx_sk h1 → ab_Fr [] h h1 → Q none h1)) (k1 : (zo ≠ ((-1 : Int))) → (∀ h1, ab_Sh sx_sk h1 → ab_Fr [] h h1 → ∃ Q1, me_E (d + 15) 147 0 (mi_entry 2 [.inr (.inr 106), .inl (zo)]) [] h1 Q1 ∧ ∀ w h2, (∀ x, w = some x → mi_ok x) → Q1 w h2 → me_E (d + 16) 120 238 [some (.inr (.inr 106)), some (.inl (zf)), some (.inl (zd)), some (.inl (zi)), some (.inl (zw)), some (.inl (zo)), some (.inl (zp)), some (.inl (zn)), q8, q9, qa] (mi_back w []) h2 Q)) : me_E (d + 16) 120 226 [some (.inr (.inr 106)), some (.inl (zf)), some (.inl (zd)), some (.inl (zi)), some (.inl (zw)), some (.inl (zo)), some (.inl (zp)), some (.inl (zn)), q8, q9, qa] [] h Q := Or.elim (mi_em .eq (zo) (((-1 : Int)))) (fun c0 => ms_kpwL_0 hS ok_zf ok_zd ok_zi ok_zw ok_zo ok_zp ok_zn ok_q8 ok_q9 ok_qa (c0) (fun h1 W => (k0 c0) h1 W.1 (W.2.2.2.2.2 _ rfl))) (fun c0 => ms_kpwL_1 hS ok_zf ok_zd ok_zi ok_zw ok_zo ok_zp ok_zn ok_q8 ok_q9 ok_qa (c0) (fun h1 W => (k1 c0) h1 W.1 (W.2.2.2.2.2 _ rfl)))
set_option maxRecDepth 20000 in
theorem mp_kpwM_0 (h : sm_H) (d : Nat) (zf zd zi zw zo zp zn : Int) (q8 q9 qa : Option mi_V) : mj_path [(120, (11, 0, sb_120))] sx_sk h 0 [] (d + 16, 120, 238, [some (.inr (.inr 106)), some (.inl (zf)), some (.inl (zd)), some (.inl (zi)), some (.inl (zw)), some (.inl (zo)), some (.inl (zp)), some (.inl (zn)), q8, q9, qa], [], [], []) = some ((d + 16, 120, 238, [some (.inr (.inr 106)), some (.inl (zf)), some (.inl (zd)), some (.inl (zi)), some (.inl (zw)), some (.inl (zo)), some (.inl (zp)), some (.inl (zn)), q8, q9, qa], [], [], []), []) := rfl
theorem mi_tab_kpwM_0 : ∀ e ∈ ([(120, (11, 0, sb_120))] : mi_T), sc_P e.1 = some e.2 := mi_tb mi_P120 (mi_tb_e)
set_option maxRecDepth 20000 in
theorem ms_kpwM_0 {h : sm_H} {d : Nat} {Q : Option mi_V → sm_H → Prop} {zf zd zi zw zo zp zn : Int} {q8 q9 qa : Option mi_V} (hS : ab_Sh sx_sk h) (ok_zf : mi_in zf) (ok_zd : mi_in zd) (ok_zi : mi_in zi) (ok_zw : mi_in zw) (ok_zo : mi_in zo) (ok_zp : mi_in zp) (ok_zn : mi_in zn) (ok_q8 : ∀ v, q8 = some v → mi_ok v) (ok_q9 : ∀ v, q9 = some v → mi_ok v) (ok_qa : ∀ v, qa = some v → mi_ok v) (kon : ∀ h1, me_W [] h h1 → Q none h1) : me_E (d + 16) 120 238 [some (.inr (.inr 106)), some (.inl (zf)), some (.inl (zd)), some (.inl (zi)), some (.inl (zw)), some (.inl (zo)), some (.inl (zp)), some (.inl (zn)), q8, q9, qa] [] h Q := mf_seg (mp_kpwM_0 h d zf zd zi zw zo zp zn q8 q9 qa) (mi_tab_kpwM_0) hS (mi_okL_c (trivial) (mi_okL_c (ok_zf) (mi_okL_c (ok_zd) (mi_okL_c (ok_zi) (mi_okL_c (ok_zw) (mi_okL_c (ok_zo) (mi_okL_c (ok_zp) (mi_okL_c (ok_zn) (mi_okL_o ok_q8 (mi_okL_o ok_q9 (mi_okL_o ok_qa (mi_okL_e)))))))))))) (mi_okS_e) (mi_al_e) (fun h1 W _ hst => mf_ret (M := (11, 0, sb_120)) rfl rfl rfl hst (mi_al_e) (kon h1 W))
set_option maxRecDepth 20000 in
theorem mt_kpwM {h : sm_H} {d : Nat} {Q : Option mi_V → sm_H → Prop} {zf zd zi zw zo zp zn : Int} {q8 q9 qa : Option mi_V} (hS : ab_Sh sx_sk h) (ok_zf : mi_in zf) (ok_zd : mi_in zd) (ok_zi : mi_in zi) (ok_zw : mi_in zw) (ok_zo : mi_in zo) (ok_zp : mi_in zp) (ok_zn : mi_in zn) (ok_q8 : ∀ v, q8 = some v → mi_ok v) (ok_q9 : ∀ v, q9 = some v → mi_ok v) (ok_qa : ∀ v, qa = some v → mi_ok v) (k0 : (∀ h1, ab_Sh sx_sk h1 → ab_Fr [] h h1 → Q none h1)) : me_E (d + 16) 120 238 [some (.inr (.inr 106)), some (.inl (zf)), some (.inl (zd)), some (.inl (zi)), some (.inl (zw)), some (.inl (zo)), some (.inl (zp)), some (.inl (zn)), q8, q9, qa] [] h Q := ms_kpwM_0 hS ok_zf ok_zd ok_zi ok_zw ok_zo ok_zp ok_zn ok_q8 ok_q9 ok_qa (fun h1 W => (k0) h1 W.1 (W.2.2.2.2.2 _ rfl))
