/-! again, unit of the reference, in parsing, exactly -/
theorem pm_up_get : ∀ (a : Nat) (T : List (Int × Int × Int)) (k : Nat), (pm_up a T)[k]? = if k = a then (T[k]?).map (fun x => (x.1, x.2.1 + 1, x.2.2)) else T[k]? := by
  intro a
  induction a with
  | zero =>
    intro T k
    cases T with
    | nil =>
      show ([] : List (Int × Int × Int))[k]? = _
      split <;> rfl
    | cons x q =>
      cases k with
      | zero => rfl
      | succ k => rfl
  | succ a ih =>
    intro T k
    cases T with
    | nil =>
      show ([] : List (Int × Int × Int))[k]? = _
      split <;> rfl
    | cons x q =>
      cases k with
      | zero => rfl
      | succ k =>
        show (pm_up a q)[k]? = if k + 1 = a + 1 then (q[k]?).map _ else q[k]?
        rw [ih]
        by_cases c : k = a
        · rw [if_pos c, if_pos (by omega)]
        · rw [if_neg c, if_neg (by omega)]
def px_we (wr : List (Nat × Nat)) : Bool := ab_in wr 19456 || ab_in wr 19712 || ab_in wr 17152 || ab_in wr 17280 || ab_in wr 16896 || ab_in wr 17664
theorem px_E_fr {h h' : sm_H} {wr : List (Nat × Nat)} (hF : ab_Fr wr h h') (hS : ab_Sh sx_sk h) (hw : px_we wr = false) : px_E h' = px_E h := by
  unfold px_we at hw
  simp only [Bool.or_eq_false_iff] at hw
  obtain ⟨⟨⟨⟨⟨w1, w2⟩, w3⟩, w4⟩, w5⟩, w6⟩ := hw
  have e1 : ∀ i, mi_a h' 152 i = mi_a h 152 i := fun i => me_a (k := 152) hF hS rfl w1
  have e2 : ∀ i, mx_b h' 154 i = mx_b h 154 i := fun i => me_b (k := 154) hF hS rfl w2
  have e3 : ∀ i, mx_b h' 134 i = mx_b h 134 i := fun i => me_b (k := 134) hF hS rfl w3
  have e4 : ∀ i, mx_b h' 135 i = mx_b h 135 i := fun i => me_b (k := 135) hF hS rfl w4
  have e5 : ∀ i, mi_a h' 132 i = mi_a h 132 i := fun i => me_a (k := 132) hF hS rfl w5
  have e6 : ∀ i, mx_b h' 138 i = mx_b h 138 i := fun i => me_b (k := 138) hF hS rfl w6
  unfold px_E
  simp only [e1, e2, e3, e4, e5, e6]
theorem px_V_fr {h h' : sm_H} {wr : List (Nat × Nat)} (hV : px_V h) (hF : ab_Fr wr h h') (hS : ab_Sh sx_sk h) (w1 : ab_in wr 14011 = false) (w2 : ab_in wr 19712 = false) : px_V h' := by
  intro i hi
  rw [me_f (c := 14011) hF hS rfl w1] at hi
  rw [me_b (k := 154) hF hS rfl w2]
  exact hV i hi
theorem px_tok_fr {h h' : sm_H} {wr : List (Nat × Nat)} (ht : wk_tok 0 h) (hF : ab_Fr wr h h') (hS : ab_Sh sx_sk h) (w1 : ab_in wr 14011 = false) (w2 : ab_in wr 19456 = false) (w3 : ab_in wr 14033 = false) : wk_tok 0 h' := fun _ => by
  rw [me_f (c := 14033) hF hS rfl w3, me_f (c := 14011) hF hS rfl w1, me_a (k := 152) hF hS rfl w2]
  exact ht rfl
theorem pm_en_g {l : Int} {s : gm_S} {g g' : wk_g} (hg : wk_gc g g') {i : Int} {r : List wk_E} : pm_en l g' i r s = pm_en l g i r s := by
  unfold pm_en
  rw [hg 114 (by decide)]
theorem pm_sg_g {l : Int} {s : gm_S} {g g' : wk_g} (hg : wk_gc g g') {E : pm_E} {u : Int} {r : List wk_E} : pm_sg l g' E u r s = pm_sg l g E u r s := by
  unfold pm_sg
  rw [hg 119 (by decide), hg 120 (by decide), hg 115 (by decide), pm_en_g hg]
theorem px_W_g {h h' : sm_H} {u : Int} (hg : wk_gc (mi_a h) (mi_a h')) (hW : px_W h u) : px_W h' u := by
  unfold px_W
  rw [hg 119 (by decide), hg 120 (by decide)]
  exact hW
section PX3
variable {h : sm_H} {d : Nat} {zu zo za : Int} {s : gm_S}
theorem px_Q_fr {h1 h' : sm_H} {m : Option gm_C} {w : Option mi_V} (hF : ab_Fr wr_W1 h h1) (hq : pxm_Q h1 m w h') : pxm_Q h m w h' := by
  obtain ⟨q0, q1, q2, q3⟩ := hq
  exact ⟨q0, q1, hF.trans q2, q3⟩
theorem gx_T_up {h h' : sm_H} {T : List (Int × Int × Int)} {a : Nat} (hT : gx_T h T) (ha : a < T.length) (ho : mi_a h 160 a = (a : Int)) (hv0 : 0 ≤ (mx_b h 163 a).toInt) (hv1 : (mx_b h 163 a).toInt ≤ 1000000) (e16 : mi_f h' 14016 = mi_f h 14016) (e158 : ∀ i, mi_a h' 158 i = mi_a h 158 i) (e159 : ∀ i, mi_a h' 159 i = mi_a h 159 i) (e160 : ∀ i, mi_a h' 160 i = mi_a h 160 i) (e163 : ∀ i, mx_b h' 163 i = if i = a then mx_b h 163 a + Int64.ofNat 1 else mx_b h 163 i) : gx_T h' (pm_up a T) := by
  obtain ⟨t1, t2, t3⟩ := hT
  unfold gx_T
  rw [pm_up_len, e16]
  simp only [e158, e159, e160]
  refine ⟨t1, fun k hk => ?_, t3⟩
  obtain ⟨a1, a2, a3⟩ := t2 k hk
  refine ⟨a1, a2, ?_, a3.2⟩
  have a3 := a3.1
  rw [pm_up_get, e163]
  by_cases c : k = a
  · subst c
    have e1 : (Int64.ofNat 1).toInt = 1 := rfl
    have e2 : (mx_b h 163 k + Int64.ofNat 1).toInt = (mx_b h 163 k).toInt + 1 := by
      rw [Int64.toInt_add, e1]
      exact Int.bmod_eq_of_le (by omega) (by omega)
    rw [ho, Int.toNat_natCast] at a3 ⊢
    rw [if_pos rfl, if_pos rfl, a3, e2]
    rfl
  · have n : (mi_a h 160 k).toNat ≠ a := fun e => c (t3 k a hk ha (by omega))
    rw [if_neg c, if_neg n]
    exact a3
theorem me_againp (hi : px_in h s) (hu : wk_us h zu) (hW : px_W h zu) (ht : mi_f h 14029 ≤ 2985) (a0 : 0 ≤ za) (a1 : za < gm_len s) (a2 : mi_a h 160 za.toNat = za) (v0 : 0 ≤ (mx_b h 163 za.toNat).toInt) (v1 : (mx_b h 163 za.toNat).toInt ≤ 1000000) : me_E (d + 6) 227 0 [some (.inr (.inr 109)), some (.inl zu), some (.inl za), none] [] h (pxm_Q h (pm_ag 0 (mi_a h) (px_E h) zu za (wk_stk h) s)) := by
  obtain ⟨i1, i2, i3, i4, i5, i6, i7, i8, i9, i10, i11, i12, i13⟩ := id hi
  have hu0 := hu.1
  have hu1 := hu.2.1
  have ok : mi_in zu := ⟨by omega, by omega⟩
  obtain ⟨r1, r2, r3, r4, r5, r6⟩ := id i9
  dsimp only at r1 r2 r3 r4 r5 r6
  have r16 : mi_f h 14016 = gm_len s := r1.1
  have b16 := me_fb (c := 14016) i1 rfl
  have b11 := me_fb (c := 14011) i1 rfl
  have hza : mi_in za := ⟨by omega, by omega⟩
  obtain ⟨n0, n1, n2⟩ := i10 rfl
  have eK : pm_h (px_E h) zu s = px_bit (mx_b h 134 zu.toNat) (mi_a h 152 (mi_f h 14033).toNat) := by
    show px_bit _ (mi_a h 152 (gm_F s).toNat) = _
    rw [r2]
  refine mt_agA i1 ok hza ?_ ?_ ?_
  · intro b c1 c2
    exact absurd i2 c1
  · intro b1 b2 c1 c2
    exact absurd i2 c1
  · intro b c1
    refine ⟨by omega, fun h1 g1 g2 => ?_⟩
    have e3 := me_nil g2
    subst e3
    refine ⟨_, me_hasx i1 n0 (by omega), ?_⟩
    intro w h3 hw hq
    obtain ⟨rfl, rfl⟩ := hq
    rw [← eK]
    unfold pm_ag
    by_cases ch : pm_h (px_E h3) zu s = true
    · rw [if_pos ch, if_pos ch]
      refine mt_agB i1 ok hza ⟨by decide, by decide⟩ ?_ ?_ ?_
      · intro b1 b2 c2 c3
        exact absurd i2 c3
      · intro b1 b2 c2 c3
        refine ⟨by omega, fun h4 g4 g5 x5 x6 x7 x8 g6 => ?_⟩
        have est := wk_push1 i5 g5 x5 x6 x7
        have hg : wk_gc (mi_a h3) (mi_a h4) := wk_gc_fr g6 i1 rfl
        have hE : px_E h4 = px_E h3 := px_E_fr g6 i1 rfl
        have e32 : mi_f h4 14032 = mi_f h3 14032 := me_f (c := 14032) g6 i1 rfl rfl
        have e34 : mi_f h4 14034 = mi_f h3 14034 := me_f (c := 14034) g6 i1 rfl rfl
        obtain ⟨y1, y2, y3, y4⟩ := pm_inc_e (s := s) (a := za)
        have hR4 : px_R h4 (wk_stk h4, pm_inc za s) := by
          unfold px_R gm_len
          dsimp only
          rw [y1, y2, y3, y4]
          refine ⟨gx_T_up r1 (by unfold gm_len at a1; omega) (by omega) v0 v1 (me_f (c := 14016) g6 i1 rfl rfl) (fun i => me_a (k := 158) g6 i1 rfl rfl) (fun i => me_a (k := 159) g6 i1 rfl rfl) (fun i => me_a (k := 160) g6 i1 rfl rfl) x8, (me_f (c := 14033) g6 i1 rfl rfl).trans r2, (me_f (c := 14031) g6 i1 rfl rfl).trans r3, (me_f (c := 14030) g6 i1 rfl rfl).trans r4, gx_P_fr g6 i1 rfl _ r5, fun x hx x5 => ?_⟩
          rw [pm_up_len, me_a (k := 160) g6 i1 rfl rfl]
          rw [est] at hx
          rcases List.mem_cons.mp hx with rfl | hx
          · exact ⟨a0, a1, a2⟩
          · exact r6 x hx x5
        have hi4 : px_in h4 (pm_inc za s) := ⟨g4, (me_f (c := 14028) g6 i1 rfl rfl).trans i2, (me_f (c := 14044) g6 i1 rfl rfl).trans i3, by omega, by omega, by rw [est, wk_ul_c (by decide), e32]; exact i6, by omega, by omega, hR4, px_tok_fr i10 g6 i1 rfl rfl rfl, px_V_fr i11 g6 i1 rfl rfl, by rw [y3]; exact i12, by rw [y3]; exact i13⟩
        refine ⟨_, me_singlep (d := d) hi4 (wk_us_g hg hu) (px_W_g hg hW) (by omega), ?_⟩
        intro w h5 hw5 hq
        have e := hq.1
        subst e
        refine mt_agC hq.2.1 ok hza ⟨by decide, by decide⟩ ?_
        intro h6 u1 u2
        have e6 := me_nil u2
        subst e6
        rw [pm_sg_g hg, hE, est] at hq
        exact px_Q_fr (g6.wide (fun c hc => ab_swr_ok (by decide) hc)) hq
      · intro c2
        exact absurd c2 (by decide)
    · rw [if_neg ch, if_neg ch]
      refine mt_agB i1 ok hza ⟨by decide, by decide⟩ ?_ ?_ ?_
      · intro b1 b2 c2
        exact absurd rfl c2
      · intro b1 b2 c2
        exact absurd rfl c2
      · intro c2 h4 g4 g5
        have e5 := me_nil g5
        subst e5
        exact ⟨rfl, g4, ab_Fr.refl, Or.inr ⟨i3, i4, (wk_stk h4, s), rfl, rfl, i9, i6⟩⟩
/-- a many -/
theorem un83p (hi : px_in h s) (hu0 : 0 ≤ zu) (hu1 : zu < 60) (ht : mi_f h 14029 ≤ 2985) (oo : mi_in zo) : me_E (d + 6) 210 83 [some (.inr (.inr 109)), some (.inl zu), some (.inl zo), none, none] [.inl 0] h (pxm_Q h ((gm_c 5 0 s).map (fun t => ((5, zu, gm_len s) :: (2, 0, 0) :: wk_stk h, gm_d t)))) := by
  obtain ⟨i1, i2, i3, i4, i5, i6, i7, i8, i9, i10, i11, i12, i13⟩ := hi
  have ok : mi_in zu := ⟨by omega, by omega⟩
  have ez : ((Int32.ofInt (0 : Int)).toInt64).toInt = 0 := by decide
  refine mt_unD i1 ok oo ⟨by decide, by decide⟩ ?_
  intro h2 p1 p2
  have e2 := me_nil p2
  subst e2
  refine ⟨_, me_comesp i1 i2 ⟨by decide, by decide⟩ i9, ?_⟩
  intro w h3 hw3 hq
  obtain ⟨q1, q2, ⟨z, rfl⟩, q3⟩ := hq
  rw [ez] at q3
  have k29 : mi_f h3 14029 = mi_f h2 14029 := me_f (c := 14029) q2 i1 rfl rfl
  have k32 : mi_f h3 14032 = mi_f h2 14032 := me_f (c := 14032) q2 i1 rfl rfl
  have k28 : mi_f h3 14028 = 0 := (me_f (c := 14028) q2 i1 rfl rfl).trans i2
  have kst : wk_stk h3 = wk_stk h2 := wk_stk_fr q2 i1 rfl
  refine mt_unE q1 ok oo ⟨by decide, by decide⟩ (hw3 _ rfl) ?_ ?_
  · intro b1 b2 c1
    exfalso; omega
  · intro b1 b2 c1
    refine ⟨by omega, fun h4 r1 r2 r3 a5 a6 a7 r4 => ?_⟩
    have hF : ab_Fr wr_W1 h2 h4 := (q2.wide (fun c hc => ab_swr_ok (by decide) hc)).trans (r4.wide (fun c hc => ab_swr_ok (by decide) hc))
    have l44 : mi_f h4 14044 = mi_f h3 14044 := me_f (c := 14044) r4 q1 rfl rfl
    have l34 : mi_f h4 14034 = mi_f h2 14034 := (me_f (c := 14034) r4 q1 rfl rfl).trans (me_f (c := 14034) q2 i1 rfl rfl)
    refine ⟨rfl, r1, hF, ?_⟩
    rcases q3 with ⟨e1, e2⟩ | ⟨e1, ew, eo, t, e2, e3⟩
    · exact Or.inl ⟨by rw [e1]; rfl, Or.inl (l44.trans e2)⟩
    · obtain ⟨-, x2, x3, x4, x5⟩ := gm_c_e e2
      injection ew with ew
      injection ew with ew
      subst ew
      have est := wk_push2 (by omega) r2 a5 a6 a7
      rw [kst] at est
      have nn : 0 ≤ gm_len s := by unfold gm_len; omega
      have R := px_R_d e3 r4 q1 rfl rfl rfl rfl (by omega) (by omega) r3
      refine Or.inr ⟨l44.trans e1, by omega, ((5, zu, gm_len s) :: (2, 0, 0) :: wk_stk h2, gm_d t), by rw [e2]; rfl, est, ⟨R.1, R.2.1, R.2.2.1, R.2.2.2.1, R.2.2.2.2.1, fun x hx x5 => ?_⟩, ?_⟩
      · rcases List.mem_cons.mp hx with rfl | hx
        · refine ⟨nn, ?_, ?_⟩
          · show gm_len s < gm_len (gm_d t)
            rw [gm_d_e.1]
            omega
          · show mi_a h4 160 (gm_len s).toNat = gm_len s
            rw [me_a (k := 160) r4 q1 rfl rfl]
            exact eo
        · rcases List.mem_cons.mp hx with rfl | hx
          · exact absurd x5 (show ¬ (2 : Int) = 5 by decide)
          · exact R.2.2.2.2.2 x hx x5
      · rw [me_f (c := 14032) r4 q1 rfl rfl, k32, i6]
        show wk_ul (wk_stk h2) = wk_ul ((5, zu, gm_len s) :: (2, 0, 0) :: wk_stk h2)
        rw [wk_ul_c (by decide), wk_ul_o, Int.zero_add]
/-- a maybe -/
theorem un208p {zn : Int} (hi : px_in h s) (hD9 : gm_D s ≤ 990) (hu : wk_us h zu) (hW : px_W h zu) (ht : mi_f h 14029 ≤ 2985) (oo : mi_in zo) (on : mi_in zn) : me_E (d + 6) 210 208 [some (.inr (.inr 109)), some (.inl zu), some (.inl zo), none, none] [.inl zn] h (pxm_Q h ((gm_c 6 zn s).bind (fun t => if 0 < zn then pm_sg 0 (mi_a h) (px_E h) zu ((2, 0, 0) :: wk_stk h) (gm_d t) else some ((2, 0, 0) :: wk_stk h, gm_d t)))) := by
  obtain ⟨i1, i2, i3, i4, i5, i6, i7, i8, i9, i10, i11, i12, i13⟩ := hi
  have hu0 := hu.1
  have hu1 := hu.2.1
  have ok : mi_in zu := ⟨by omega, by omega⟩
  have ez : ((Int32.ofInt zn).toInt64).toInt = zn := by rw [Int32.toInt_toInt64, mi_ti on]
  refine mt_unH i1 ok oo on ?_
  intro h2 p1 p2
  have e2 := me_nil p2
  subst e2
  refine ⟨_, me_comesp i1 i2 ⟨by decide, by decide⟩ i9, ?_⟩
  intro w h3 hw3 hq
  obtain ⟨q1, q2, ⟨z, rfl⟩, q3⟩ := hq
  rw [ez] at q3
  have k29 : mi_f h3 14029 = mi_f h2 14029 := me_f (c := 14029) q2 i1 rfl rfl
  have k32 : mi_f h3 14032 = mi_f h2 14032 := me_f (c := 14032) q2 i1 rfl rfl
  have k28 : mi_f h3 14028 = 0 := (me_f (c := 14028) q2 i1 rfl rfl).trans i2
  have kst : wk_stk h3 = wk_stk h2 := wk_stk_fr q2 i1 rfl
  have eul : wk_ul ((2, 0, 0) :: wk_stk h2) = wk_ul (wk_stk h2) := by rw [wk_ul_o, Int.zero_add]
  have fr : ∀ h4 : sm_H, ab_Fr [(14029, 14030), (14031, 14032), (21120, 21121), (21248, 21249), (21376, 21377)] h3 h4 → ab_Fr wr_W1 h2 h4 ∧ mi_f h4 14034 = mi_f h2 14034 ∧ mi_f h4 14044 = mi_f h3 14044 ∧ mi_f h4 14032 = mi_f h2 14032 := fun h4 r4 => ⟨(q2.wide (fun c hc => ab_swr_ok (by decide) hc)).trans (r4.wide (fun c hc => ab_swr_ok (by decide) hc)), (me_f (c := 14034) r4 q1 rfl rfl).trans (me_f (c := 14034) q2 i1 rfl rfl), me_f (c := 14044) r4 q1 rfl rfl, (me_f (c := 14032) r4 q1 rfl rfl).trans k32⟩
  have st2 : ∀ x ∈ ((2, 0, 0) :: wk_stk h2 : List wk_E), x.1 = 5 → x ∈ wk_stk h2 := fun x hx x5 => by
    rcases List.mem_cons.mp hx with rfl | hx
    · exact absurd x5 (show ¬ (2 : Int) = 5 by decide)
    · exact hx
  refine mt_unI q1 ok oo on (hw3 _ rfl) ?_ ?_ ?_
  · intro b1 c1
    refine ⟨by omega, fun h4 r1 r2 r3 a5 a6 a7 r4 => ?_⟩
    obtain ⟨f1, f2, f4, f5⟩ := fr h4 r4
    refine ⟨rfl, r1, f1, ?_⟩
    rcases q3 with ⟨e1, e2⟩ | ⟨e1, -, -, t, e2, e3⟩
    · exact Or.inl ⟨by rw [e1]; rfl, Or.inl (f4.trans e2)⟩
    · have eT := (gm_c_t e2).2.2.2.1
      refine Or.inr ⟨f4.trans e1, by omega, ((2, 0, 0) :: wk_stk h2, gm_d t), ?_, ?_, px_R_st (px_R_d e3 r4 q1 rfl rfl rfl rfl (by omega) (by omega) r3) st2, ?_⟩
      · rw [e2, Option.bind_some, if_neg (by omega)]
      · have := wk_push1 (by omega) r2 a5 a6 a7
        rw [kst] at this
        exact this
      · rw [f5, i6]
        exact eul.symm
  · intro b1 b2 c1 c2
    refine ⟨by omega, fun h4 r1 r2 r3 a5 a6 a7 r4 => ?_⟩
    obtain ⟨f1, f2, f4, f5⟩ := fr h4 r4
    rcases q3 with ⟨e1, e2⟩ | ⟨e1, -, -, t, e2, e3⟩
    · exact ⟨rfl, r1, f1, Or.inl ⟨by rw [e1]; rfl, Or.inl (f4.trans e2)⟩⟩
    · exact absurd e1 c2
  · intro b1 b2 c1 c2
    refine ⟨by omega, fun h4 r1 r2 r3 a5 a6 a7 r4 => ?_⟩
    obtain ⟨f1, f2, f4, f5⟩ := fr h4 r4
    rcases q3 with ⟨e1, e2⟩ | ⟨e1, -, -, t, e2, e3⟩
    · exfalso; omega
    · obtain ⟨t1, t2, t3, t4, t5⟩ := gm_c_t e2
      have est := wk_push1 (by omega) r2 a5 a6 a7
      rw [kst] at est
      have hg : wk_gc (mi_a h2) (mi_a h4) := wk_gc_fr f1 i1 rfl
      have hE : px_E h4 = px_E h2 := px_E_fr f1 i1 rfl
      have dD : gm_D (gm_d t) = gm_D t + 1 := by unfold gm_d; rw [gm_D_mk]
      rw [e2, Option.bind_some, if_pos c1]
      have R4 : px_R h4 (wk_stk h4, gm_d t) := by
        rw [est]
        exact px_R_st (px_R_d e3 r4 q1 rfl rfl rfl rfl (by omega) (by omega) r3) st2
      have tk : wk_tok 0 h4 := px_tok_fr (px_tok_fr i10 q2 i1 rfl rfl rfl) r4 q1 rfl rfl rfl
      have hi4 : px_in h4 (gm_d t) := ⟨r1, (me_f (c := 14028) r4 q1 rfl rfl).trans k28, f4.trans e1, by omega, by omega, by rw [est, eul, f5]; exact i6, by omega, by omega, R4, tk, px_V_fr (px_V_fr i11 q2 i1 rfl rfl) r4 q1 rfl rfl, by omega, by omega⟩
      refine ⟨_, me_singlep (d := d) hi4 (wk_us_g hg hu) (px_W_g hg hW) (by omega), ?_⟩
      intro w h5 hw5 hq5
      have e := hq5.1
      subst e
      refine mt_unJ hq5.2.1 ok oo on ?_
      intro h6 u1 u2
      have e6 := me_nil u2
      subst e6
      rw [pm_sg_g hg, hE, est] at hq5
      exact px_Q_fr f1 hq5
theorem un24p (hi : px_in h s) (hD9 : gm_D s ≤ 990) (hu : wk_us h zu) (hW : px_W h zu) (ht : mi_f h 14029 ≤ 2985) (oo : mi_in zo) : me_E (d + 6) 210 24 [some (.inr (.inr 109)), some (.inl zu), some (.inl zo), none, none] [] h (pxm_Q h (pm_u 0 (mi_a h) (px_E h) zu (wk_stk h) s)) := by
  obtain ⟨i1, i2, i3, i4, i5, i6, i7, i8, i9, i10, i11, i12, i13⟩ := id hi
  have hu0 := hu.1
  have hu1 := hu.2.1
  have ok : mi_in zu := ⟨by omega, by omega⟩
  have b11 := me_fb (c := 14011) i1 rfl
  obtain ⟨n0, n1, n2⟩ := i10 rfl
  have r2 : mi_f h 14033 = gm_F s := i9.2.1
  have eK : pm_h (px_E h) zu s = px_bit (mx_b h 134 zu.toNat) (mi_a h 152 (mi_f h 14033).toNat) := by
    show px_bit _ (mi_a h 152 (gm_F s).toNat) = _
    rw [r2]
  refine mt_unB i1 ok oo ?_ ?_ ?_ ?_ ?_ ?_ ?_ ?_ ?_
  · intro c1 c2
    refine ⟨by omega, fun h1 g1 g2 => ?_⟩
    have e3 := me_nil g2
    subst e3
    refine ⟨_, me_singlep (d := d) hi hu hW (by omega), ?_⟩
    intro w h3 hw3 hq
    have e := hq.1
    subst e
    refine mt_unK hq.2.1 ok oo ?_
    intro h6 u1 u2
    have e6 := me_nil u2
    subst e6
    unfold pm_u
    rw [if_neg c1, if_neg c2]
    exact hq
  · intro b c1 c2 c3 c4
    refine ⟨by omega, fun h1 g1 g2 => ?_⟩
    have e3 := me_nil g2
    subst e3
    refine ⟨_, me_hasx i1 n0 (by omega), ?_⟩
    intro w h3 hw3 hq
    obtain ⟨rfl, rfl⟩ := hq
    rw [← eK]
    unfold pm_u
    rw [if_neg c1, if_pos c2]
    by_cases ch : pm_h (px_E h3) zu s = true
    · simp only [if_pos ch]
      refine mt_unG i1 ok oo ⟨by decide, by decide⟩ ?_ ?_
      · intro c
        exact absurd c (by decide)
      · intro c h4 g4 g5
        have e5 := me_nil g5
        subst e5
        have := un208p (d := d) (zo := zo) (zn := 1) hi hD9 hu hW ht oo ⟨by decide, by decide⟩
        simp only [if_pos (show (0 : Int) < 1 by decide)] at this
        exact this
    · simp only [if_neg ch]
      refine mt_unG i1 ok oo ⟨by decide, by decide⟩ ?_ ?_
      · intro c h4 g4 g5
        have e5 := me_nil g5
        subst e5
        have := un208p (d := d) (zo := zo) (zn := 0) hi hD9 hu hW ht oo ⟨by decide, by decide⟩
        simp only [if_neg (show ¬ (0 : Int) < 0 by decide)] at this
        exact this
      · intro c
        exact absurd rfl c
  · intro b1 b2 c1 c2 c3 c4
    exfalso; omega
  · intro b1 b2 c1 c2 c3
    exfalso; omega
  · intro b1 b2 c1 c2 c3
    exfalso; omega
  · intro b1 c1 c2 c3
    refine ⟨by omega, fun h1 g1 g2 => ?_⟩
    have e3 := me_nil g2
    subst e3
    unfold pm_u
    rw [if_pos c1]
    exact un83p hi hu0 hu1 ht oo
  · intro b1 b2 c1 c2 c3
    exfalso; omega
  · intro b1 b2 c1 c2
    exfalso; omega
  · intro b1 b2 c1 c2
    exfalso; omega
/-- with pairs -/
def up_Q (h : sm_H) (m : Option gm_C) (w : Option mi_V) (h' : sm_H) : Prop := w = none ∧ ab_Sh sx_sk h' ∧ ((m = none ∧ (mi_f h' 14044 = 1 ∨ 0 ≤ mi_f h' 14034)) ∨ (mi_f h' 14044 = 0 ∧ mi_f h' 14034 < 0 ∧ ∃ c, m = some c ∧ wk_stk h' = c.1 ∧ px_R h' c ∧ mi_f h' 14032 = wk_ul c.1))
theorem px_Q_u {h0 h' : sm_H} {m : Option gm_C} {w : Option mi_V} (hq : pxm_Q h0 m w h') : up_Q h m w h' := ⟨hq.1, hq.2.1, hq.2.2.2⟩
theorem px_op {h1 : sm_H} {r : List wk_E} (hR : px_R h (r, s)) (hS : ab_Sh sx_sk h) (g2 : mi_f h1 14030 = mi_f h 14030 + 1) (g3 : ∀ i, mi_a h1 168 i = if i = Int.toNat (mi_f h 14030) then mi_f h 14016 else mi_a h 168 i) (g4 : ab_Fr [(14030, 14031), (21504, 21505)] h h1) : px_R h1 (r, gm_op 1 s) := by
  obtain ⟨r1, r2, r3, r4, r5, r6⟩ := hR
  dsimp only at r1 r2 r3 r4 r5 r6
  unfold gm_op
  rw [if_pos rfl]
  unfold px_R gm_len
  dsimp only
  simp only [gm_T_mk, gm_F_mk, gm_D_mk, gm_P_mk]
  refine ⟨gx_T_fr r1 g4 hS rfl, (me_f (c := 14033) g4 hS rfl rfl).trans r2, (me_f (c := 14031) g4 hS rfl rfl).trans r3, by rw [g2, r4]; show _ = (((gm_P s).length + 1 : Nat) : Int); omega, ⟨?_, Or.inl rfl, ?_⟩, fun x hx x5 => ?_⟩
  · rw [g3, if_pos (by omega)]
    exact r1.1
  · refine gx_P_lt (L := (gm_P s).length) (fun i hi => ⟨?_, me_a (k := 169) g4 hS rfl rfl⟩) _ (Nat.le_refl _) r5
    rw [g3, if_neg (by omega)]
  · obtain ⟨a1, a2, a3⟩ := r6 x hx x5
    exact ⟨a1, a2, (me_a (k := 160) g4 hS rfl rfl).trans a3⟩
theorem pm_u_g {l : Int} {g g' : wk_g} {E : pm_E} {u : Int} {r : List wk_E} (hg : wk_gc g g') : pm_u l g' E u r s = pm_u l g E u r s := by
  unfold pm_u
  rw [hg 122 (by decide), pm_sg_g hg]
  simp only [pm_sg_g hg]
theorem me_unitp (hi : px_in h s) (hD9 : gm_D s ≤ 990) (hu : wk_us h zu) (hW : px_W h zu) (ht : mi_f h 14029 ≤ 2985) (hz : zo = 0 ∨ zo = 1) (hp : zo = 1 → 0 ≤ mi_f h 14030 ∧ mi_f h 14030 < 64) : me_E (d + 6) 210 0 [some (.inr (.inr 109)), some (.inl zu), some (.inl zo), none, none] [] h (up_Q h (pm_st (mi_a h) (px_E h) 0 (0, zu, zo) (wk_stk h) s)) := by
  obtain ⟨i1, i2, i3, i4, i5, i6, i7, i8, i9, i10, i11, i12, i13⟩ := id hi
  have hu0 := hu.1
  have hu1 := hu.2.1
  have oo : mi_in zo := ⟨by omega, by omega⟩
  have ou : mi_in zu := ⟨by omega, by omega⟩
  rw [pm_st_0]
  refine mt_unA i1 ou oo ?_ ?_
  · intro c h1 g1 g2
    have e1 := me_nil g2
    subst e1
    have e : gm_op zo s = s := by
      unfold gm_op
      rw [if_neg (by omega)]
    rw [e]
    exact (un24p hi hD9 hu hW ht oo).imp (fun w h' hq => px_Q_u hq)
  · intro b1 b2 c
    have z1 : zo = 1 := by omega
    have hp := hp z1
    refine ⟨by omega, fun h1 g1 g2 g3 g4 => ?_⟩
    rw [z1] at oo ⊢
    have est : wk_stk h1 = wk_stk h := wk_stk_fr g4 i1 rfl
    have e29 : mi_f h1 14029 = mi_f h 14029 := me_f (c := 14029) g4 i1 rfl rfl
    have e32 : mi_f h1 14032 = mi_f h 14032 := me_f (c := 14032) g4 i1 rfl rfl
    have e34 : mi_f h1 14034 = mi_f h 14034 := me_f (c := 14034) g4 i1 rfl rfl
    have hg : wk_gc (mi_a h) (mi_a h1) := wk_gc_fr g4 i1 rfl
    have hE : px_E h1 = px_E h := px_E_fr g4 i1 rfl
    have eD : gm_D (gm_op 1 s) = gm_D s := by unfold gm_op; rw [if_pos rfl, gm_D_mk]
    have hi1 : px_in h1 (gm_op 1 s) := ⟨g1, (me_f (c := 14028) g4 i1 rfl rfl).trans i2, (me_f (c := 14044) g4 i1 rfl rfl).trans i3, by omega, by omega, by rw [est, e32]; exact i6, by omega, by omega, by rw [est]; exact px_op i9 i1 g2 g3 g4, px_tok_fr i10 g4 i1 rfl rfl rfl, px_V_fr i11 g4 i1 rfl rfl, by omega, by omega⟩
    have key := un24p (d := d) (zo := 1) hi1 (by omega) (wk_us_g hg hu) (px_W_g hg hW) (by omega) oo
    rw [hE, est, pm_u_g hg] at key
    exact key.imp (fun w h' hq => px_Q_u hq)
end PX3
