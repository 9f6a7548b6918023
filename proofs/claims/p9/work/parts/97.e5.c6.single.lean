/-! single, again, unit of the reference, exactly -/
def gx_w (wr : List (Nat × Nat)) : Bool := ab_in wr 14016 || ab_in wr 20224 || ab_in wr 20352 || ab_in wr 20480 || ab_in wr 20864
def gx_w2 (wr : List (Nat × Nat)) : Bool := ab_in wr 21504 || ab_in wr 21632
def gx_w3 (wr : List (Nat × Nat)) : Bool := ab_in wr 14047 || ab_in wr 14035 || ab_in wr 14030
theorem gx_R_fr {h h' : sm_H} {s : gm_S} {wr : List (Nat × Nat)} (hR : gx_R h s) (hF : ab_Fr wr h h') (hS : ab_Sh sx_sk h) (w1 : gx_w wr = false) (w2 : gx_w2 wr = false) (w3 : gx_w3 wr = false) (w4 : ab_in wr 14031 = false) : gx_R h' s := by
  obtain ⟨r1, r2, r3, r4, r5, r6⟩ := hR
  unfold gx_w3 at w3
  simp only [Bool.or_eq_false_iff] at w3
  exact ⟨gx_T_fr r1 hF hS w1, (me_l (c := 14047) hF hS rfl w3.1.1).trans r2, (me_f (c := 14035) hF hS rfl w3.1.2).trans r3, (me_f (c := 14031) hF hS rfl w4).trans r4, (me_f (c := 14030) hF hS rfl w3.2).trans r5, gx_P_fr hF hS w2 _ r6⟩
/-- one more is open -/
theorem gx_R_d {h h' : sm_H} {s : gm_S} {wr : List (Nat × Nat)} (hR : gx_R h s) (hF : ab_Fr wr h h') (hS : ab_Sh sx_sk h) (w1 : gx_w wr = false) (w2 : gx_w2 wr = false) (w3 : gx_w3 wr = false) (hD0 : -1000 ≤ gm_D s) (hD1 : gm_D s ≤ 999) (e : mi_f h' 14031 = (Int32.ofInt (mi_f h 14031) + Int32.ofInt (1 : Int)).toInt) : gx_R h' (gm_d s) := by
  obtain ⟨r1, r2, r3, r4, r5, r6⟩ := hR
  unfold gx_w3 at w3
  simp only [Bool.or_eq_false_iff] at w3
  unfold gm_d gx_R
  rw [gm_T_mk, gm_X_mk, gm_F_mk, gm_D_mk, gm_P_mk]
  refine ⟨gx_T_fr r1 hF hS w1, (me_l (c := 14047) hF hS rfl w3.1.1).trans r2, (me_f (c := 14035) hF hS rfl w3.1.2).trans r3, ?_, (me_f (c := 14030) hF hS rfl w3.2).trans r5, gx_P_fr hF hS w2 _ r6⟩
  rw [e, r4]
  exact (gx_wrap hD0 (by omega)).2
def gx_k (h : sm_H) : Int → Bool := gx_kw (mi_f h 13962) (mx_b h 118)
theorem gx_k_fr {h h' : sm_H} {wr : List (Nat × Nat)} (hF : ab_Fr wr h h') (hS : ab_Sh sx_sk h) (w1 : ab_in wr 13962 = false) (w2 : ab_in wr 15104 = false) : gx_k h' = gx_k h := by
  have eb : mx_b h' 118 = mx_b h 118 := funext fun i => me_b (k := 118) hF hS rfl w2
  have ef : mi_f h' 13962 = mi_f h 13962 := me_f (c := 13962) hF hS rfl w1
  unfold gx_k
  rw [eb, ef]
/-- what the steps of the growing walk ask for -/
def gx_in (h : sm_H) (s : gm_S) : Prop := ab_Sh sx_sk h ∧ mi_f h 14028 = 1 ∧ mi_f h 14044 = 0 ∧ 0 ≤ mi_f h 14029 ∧ mi_f h 14032 = wk_ul (wk_stk h) ∧ 0 ≤ mi_f h 14032 ∧ mi_f h 14032 ≤ 12 ∧ gx_R h s ∧ (-1000 ≤ gm_F s ∧ gm_F s ≤ 1000) ∧ -1000 ≤ gm_D s ∧ gm_D s ≤ 998
section GX7
variable {h : sm_H} {d : Nat} {zu : Int} {s : gm_S}
theorem gx_of_gl {h' : sm_H} {m : Option gm_S} (hi : gx_in h s) (hq : gl_Q h m none h') : gx_Q h (m.map (fun t => (wk_stk h, t))) none h' := by
  obtain ⟨-, q1, q2, q3, q4, q5⟩ := hq
  obtain ⟨i1, i2, i3, i4, i5, i6, i7, -⟩ := hi
  refine ⟨rfl, q1, q2.wide (fun c hc => ab_swr_ok (by decide) hc), q3, q4, ?_⟩
  rcases q5 with ⟨e1, e2⟩ | ⟨e1, t, e2, e3⟩
  · exact Or.inl ⟨by rw [e1]; rfl, e2⟩
  · exact Or.inr ⟨e1, (wk_stk h, t), by rw [e2]; rfl, wk_stk_fr q2 i1 rfl, e3, (me_f (c := 14032) q2 i1 rfl rfl).trans i5⟩
theorem gm_sg_lf {g : wk_g} {kw : Int → Bool} {u : Int} {r : List wk_E} (n9 : g 119 u.toNat ≠ 9) (n10 : g 119 u.toNat ≠ 10) : gm_sg g kw u r s = (gm_lf kw (g 119 u.toNat) s).map (fun t => (r, t)) := by
  unfold gm_sg gm_lf
  rw [if_neg n9, if_neg n10]
  by_cases c1 : g 119 u.toNat = 1
  · rw [if_pos c1, if_pos c1]
  · rw [if_neg c1, if_neg c1]
    by_cases c2 : g 119 u.toNat = 2
    · rw [if_pos c2, if_pos c2]
    · rw [if_neg c2, if_neg c2]
      rfl
theorem sx_grown (hi : gx_in h s) (hu : wk_us h zu) (n9 : mi_a h 119 zu.toNat ≠ 9) (n10 : mi_a h 119 zu.toNat ≠ 10) : ∃ Q1, me_E (d + 4) 215 0 [some (.inr (.inr 109)), some (.inl zu), none, none, none, none] [] h Q1 ∧ ∀ w h', (∀ x, w = some x → mi_ok x) → Q1 w h' → me_E (d + 5) 213 121 [some (.inr (.inr 109)), some (.inl zu)] (mi_back w []) h' (gx_Q h (gm_sg (mi_a h) (gx_k h) zu (wk_stk h) s)) := by
  have ok : mi_in zu := ⟨by have := hu.1; omega, by have := hu.2.1; omega⟩
  refine ⟨_, me_grownx (d := d + 3) (s := s) hi.1 hi.2.1 hu.1 hu.2.1 hi.2.2.1 hi.2.2.2.2.2.2.2.1, ?_⟩
  intro w h' hw hq
  have e := hq.1
  subst e
  have q1 := hq.2.1
  refine mt_sr121 q1 ok ?_
  intro h3 r1 r2
  have e3 := me_nil r2
  subst e3
  rw [gm_sg_lf n9 n10]
  exact gx_of_gl hi hq
theorem sx_lay (hi : gx_in h s) (hu : wk_us h zu) (n1 : mi_a h 119 zu.toNat ≠ 1) (n2 : mi_a h 119 zu.toNat ≠ 2) (n9 : mi_a h 119 zu.toNat ≠ 9) (n10 : mi_a h 119 zu.toNat ≠ 10) : ∃ Q1, me_E (d + 4) 222 0 [some (.inr (.inr 109)), some (.inl (mi_a h 119 zu.toNat))] [] h Q1 ∧ ∀ w h', (∀ x, w = some x → mi_ok x) → Q1 w h' → me_E (d + 5) 213 142 [some (.inr (.inr 109)), some (.inl zu)] (mi_back w []) h' (gx_Q h (gm_sg (mi_a h) (gx_k h) zu (wk_stk h) s)) := by
  have ok : mi_in zu := ⟨by have := hu.1; omega, by have := hu.2.1; omega⟩
  obtain ⟨i1, i2, i3, i4, i5, i6, i7, i8, -⟩ := hi
  refine ⟨_, me_lay i1 (mi_inT _), ?_⟩
  intro w h' hw hq
  obtain ⟨rfl, q1, q2⟩ := hq
  refine mt_sr142 q1 ok ?_
  intro h3 r1 r2
  have e3 := me_nil r2
  subst e3
  rw [gm_sg_lf n9 n10, gm_lf_o n1 n2]
  exact ⟨rfl, q1, q2.wide (fun c hc => ab_swr_ok (by decide) hc), me_f (c := 14034) q2 i1 rfl rfl, me_f (c := 14033) q2 i1 rfl rfl, Or.inr ⟨(me_f (c := 14044) q2 i1 rfl rfl).trans i3, (wk_stk h, s), rfl, wk_stk_fr q2 i1 rfl, gx_R_fr i8 q2 i1 rfl rfl rfl rfl, (me_f (c := 14032) q2 i1 rfl rfl).trans i5⟩⟩
theorem sx_enter (hi : gx_in h s) (hu : wk_us h zu) (ht : mi_f h 14029 ≤ 2990) (h9 : mi_a h 119 zu.toNat = 9) : ∃ Q1, me_E (d + 4) 207 0 [some (.inr (.inr 109)), some (.inl (mi_a h 115 (mi_a h 120 zu.toNat).toNat))] [] h Q1 ∧ ∀ w h', (∀ x, w = some x → mi_ok x) → Q1 w h' → me_E (d + 5) 213 75 [some (.inr (.inr 109)), some (.inl zu)] (mi_back w []) h' (gx_Q h (gm_sg (mi_a h) (gx_k h) zu (wk_stk h) s)) := by
  have ok : mi_in zu := ⟨by have := hu.1; omega, by have := hu.2.1; omega⟩
  obtain ⟨i1, i2, i3, i4, i5, i6, i7, i8, i9, i10, i11⟩ := hi
  obtain ⟨u1, u2, u3, u4⟩ := hu.2.2.1 h9
  refine ⟨_, me_enterx (d := d + 2) (s := s) i1 i2 i4 ht i5 i7 i6 u3 u4 i8 i9.1 i9.2 i10 (by omega), ?_⟩
  intro w h' hw hq
  have e := hq.1
  subst e
  have q1 := hq.2.1
  refine mt_sr75 q1 ok ?_
  intro h3 r1 r2
  have e3 := me_nil r2
  subst e3
  have e : gm_sg (mi_a h) (gx_k h) zu (wk_stk h) s = gm_en (mi_a h) (mi_a h 115 (mi_a h 120 zu.toNat).toNat) (wk_stk h) s := by
    unfold gm_sg
    rw [if_pos h9]
  rw [e]
  exact hq
theorem me_singlex (hi : gx_in h s) (hu : wk_us h zu) (ht : mi_f h 14029 ≤ 2990) : me_E (d + 5) 213 0 [some (.inr (.inr 109)), some (.inl zu)] [] h (gx_Q h (gm_sg (mi_a h) (gx_k h) zu (wk_stk h) s)) := by
  obtain ⟨i1, i2, i3, i4, i5, i6, i7, i8, i9, i10, i11⟩ := id hi
  have hu0 := hu.1
  have hu1 := hu.2.1
  have ok : mi_in zu := ⟨by omega, by omega⟩
  refine mt_sg i1 ok ?_ ?_ ?_ ?_ ?_ ?_ ?_ ?_ ?_ ?_ ?_ ?_ ?_ ?_ ?_ ?_ ?_
  · intro b c1 c2 c3
    exact absurd i2 c3
  · intro b c1 c2 c3
    refine ⟨by omega, fun h1 g1 g2 => ?_⟩
    have e3 := me_nil g2
    subst e3
    exact sx_grown hi hu (by omega) (by omega)
  · intro b c1 c2
    exfalso; omega
  · intro b c1 c2 c3
    exact absurd i2 c3
  · intro b c1 c2 c3
    refine ⟨by omega, fun h1 g1 g2 => ?_⟩
    have e3 := me_nil g2
    subst e3
    exact sx_grown hi hu (by omega) (by omega)
  · intro b c1 c2
    exfalso; omega
  · intro c1
    refine ⟨by omega, fun h1 g1 g2 => ?_⟩
    have e3 := me_nil g2
    subst e3
    exact sx_lay hi hu (by omega) (by omega) (by omega) (by omega)
  · intro c1
    refine ⟨by omega, fun h1 g1 g2 => ?_⟩
    have e3 := me_nil g2
    subst e3
    exact sx_lay hi hu (by omega) (by omega) (by omega) (by omega)
  · intro c1
    refine ⟨by omega, fun h1 g1 g2 => ?_⟩
    have e3 := me_nil g2
    subst e3
    exact sx_lay hi hu (by omega) (by omega) (by omega) (by omega)
  · intro c1
    refine ⟨by omega, fun h1 g1 g2 => ?_⟩
    have e3 := me_nil g2
    subst e3
    exact sx_lay hi hu (by omega) (by omega) (by omega) (by omega)
  · intro c1
    refine ⟨by omega, fun h1 g1 g2 => ?_⟩
    have e3 := me_nil g2
    subst e3
    exact sx_lay hi hu (by omega) (by omega) (by omega) (by omega)
  · intro b c1 c2 c3
    exact absurd i2 c3
  · intro b c1 c2 c3
    refine ⟨by omega, fun h1 g1 g2 => ?_⟩
    have e3 := me_nil g2
    subst e3
    exact sx_grown hi hu (by omega) (by omega)
  · intro b c1 c2
    exfalso; omega
  · intro c1
    have u := hu.2.2.1 (by omega)
    refine ⟨by omega, fun h1 g1 g2 => ?_⟩
    have e3 := me_nil g2
    subst e3
    exact sx_enter hi hu ht (by omega)
  · intro b c1
    refine ⟨by omega, fun h1 g1 g2 a5 a6 a7 g3 => ?_⟩
    have h10 : mi_a h 119 zu.toNat = 10 := by omega
    have n9 : ¬ mi_a h 119 zu.toNat = 9 := by omega
    have est := wk_push1 i4 g2 a5 a6 a7
    have e : gm_sg (mi_a h) (gx_k h) zu (wk_stk h) s = some ((1, mi_a h 120 zu.toNat, 0) :: wk_stk h, s) := by
      unfold gm_sg
      rw [if_neg n9, if_pos h10]
    rw [e]
    refine ⟨rfl, g1, g3.wide (fun c hc => ab_swr_ok (by decide) hc), me_f (c := 14034) g3 i1 rfl rfl, me_f (c := 14033) g3 i1 rfl rfl, Or.inr ⟨(me_f (c := 14044) g3 i1 rfl rfl).trans i3, ((1, mi_a h 120 zu.toNat, 0) :: wk_stk h, s), rfl, est, gx_R_fr i8 g3 i1 rfl rfl rfl rfl, ?_⟩⟩
    rw [me_f (c := 14032) g3 i1 rfl rfl, i5]
    exact (wk_ul_c (by decide)).symm
  · intro c1
    refine ⟨by omega, fun h1 g1 g2 => ?_⟩
    have e3 := me_nil g2
    subst e3
    exact sx_lay hi hu (by omega) (by omega) (by omega) (by omega)
/-- the same description gives the same -/
theorem gm_en_g {g g' : wk_g} (hg : wk_gc g g') {i : Int} {r : List wk_E} : gm_en g' i r s = gm_en g i r s := by
  unfold gm_en
  rw [hg 114 (by decide)]
theorem gm_sg_g {g g' : wk_g} (hg : wk_gc g g') {kw : Int → Bool} {u : Int} {r : List wk_E} : gm_sg g' kw u r s = gm_sg g kw u r s := by
  unfold gm_sg
  rw [hg 119 (by decide), hg 120 (by decide), hg 115 (by decide), gm_en_g hg]
def gm_ag (g : wk_g) (kw : Int → Bool) (u a : Int) (r : List wk_E) (s : gm_S) : Option gm_C := if 0 < a then gm_sg g kw u ((5, u, a - 1) :: r) s else some (r, s)
theorem gx_Q_fr {h1 h' : sm_H} {m : Option gm_C} {w : Option mi_V} (hS : ab_Sh sx_sk h) (hF : ab_Fr wr_W1 h h1) (e34 : mi_f h1 14034 = mi_f h 14034) (e33 : mi_f h1 14033 = mi_f h 14033) (hq : gx_Q h1 m w h') : gx_Q h m w h' := by
  obtain ⟨q0, q1, q2, q3, q4, q5⟩ := hq
  exact ⟨q0, q1, hF.trans q2, q3.trans e34, q4.trans e33, q5⟩
theorem me_againx {za : Int} (hi : gx_in h s) (hu : wk_us h zu) (ht : mi_f h 14029 ≤ 2985) (hza : mi_in za) : me_E (d + 6) 227 0 [some (.inr (.inr 109)), some (.inl zu), some (.inl za), none] [] h (gx_Q h (gm_ag (mi_a h) (gx_k h) zu za (wk_stk h) s)) := by
  obtain ⟨i1, i2, i3, i4, i5, i6, i7, i8, i9, i10, i11⟩ := id hi
  have hu0 := hu.1
  have hu1 := hu.2.1
  have ok : mi_in zu := ⟨by omega, by omega⟩
  have hzb := hza.1
  have hzc := hza.2
  refine mt_agA i1 ok hza ?_ ?_ ?_
  · intro b c1 c2 h1 g1 g2
    have e3 := me_nil g2
    subst e3
    unfold gm_ag
    rw [if_neg (by omega)]
    exact ⟨rfl, g1, ab_Fr.refl, rfl, rfl, Or.inr ⟨i3, (wk_stk h1, s), rfl, rfl, i8, i5⟩⟩
  · intro b1 b2 c1 c2
    refine ⟨by omega, fun h1 g1 g2 a5 a6 a7 g3 => ?_⟩
    have est := wk_push1 i4 g2 a5 a6 a7
    have hg : wk_gc (mi_a h) (mi_a h1) := wk_gc_fr g3 i1 rfl
    have hk : gx_k h1 = gx_k h := gx_k_fr g3 i1 rfl rfl
    have e32 : mi_f h1 14032 = mi_f h 14032 := me_f (c := 14032) g3 i1 rfl rfl
    have hi1 : gx_in h1 s := ⟨g1, (me_f (c := 14028) g3 i1 rfl rfl).trans i2, (me_f (c := 14044) g3 i1 rfl rfl).trans i3, by omega, by rw [est, wk_ul_c (by decide), e32]; exact i5, by omega, by omega, gx_R_fr i8 g3 i1 rfl rfl rfl rfl, i9, i10, i11⟩
    refine ⟨_, me_singlex (d := d) hi1 (wk_us_g hg hu) (by omega), ?_⟩
    intro w h2 hw hq
    have e := hq.1
    subst e
    refine mt_agC hq.2.1 ok hza ⟨by decide, by decide⟩ ?_
    intro h3 r1 r2
    have e3 := me_nil r2
    subst e3
    unfold gm_ag
    rw [if_pos c2]
    rw [gm_sg_g hg, hk, est] at hq
    exact gx_Q_fr i1 (g3.wide (fun c hc => ab_swr_ok (by decide) hc)) (me_f (c := 14034) g3 i1 rfl rfl) (me_f (c := 14033) g3 i1 rfl rfl) hq
  · intro b c1
    exfalso; omega
end GX7
