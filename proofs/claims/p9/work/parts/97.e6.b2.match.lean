/-! match, single, again of the reference, in parsing, exactly -/
theorem px_mod {X Y : Int64} (x0 : 0 ≤ X.toInt) (x1 : X.toInt < 2147483648) (y0 : 0 < Y.toInt) : (X - X / Y * Y).toInt = X.toInt % Y.toInt := by
  have q0 : 0 ≤ X.toInt / Y.toInt := Int.ediv_nonneg x0 (by omega)
  have q1 : X.toInt / Y.toInt ≤ X.toInt := Int.ediv_le_self _ x0
  have p0 : 0 ≤ X.toInt / Y.toInt * Y.toInt := Int.mul_nonneg q0 (by omega)
  have p1 : X.toInt / Y.toInt * Y.toInt ≤ X.toInt := Int.ediv_mul_le _ (by omega)
  have e1 : (X / Y).toInt = X.toInt / Y.toInt := by
    rw [Int64.toInt_div, Int.tdiv_eq_ediv_of_nonneg x0]
    exact Int.bmod_eq_of_le (by omega) (by omega)
  have e2 : (X / Y * Y).toInt = X.toInt / Y.toInt * Y.toInt := by
    rw [Int64.toInt_mul, e1]
    exact Int.bmod_eq_of_le (by omega) (by omega)
  rw [Int64.toInt_sub, e2, Int.bmod_eq_of_le (by omega) (by omega), Int.emod_def, Int.mul_comm]
/-- the tokens' values are small; so are the digits behind + -/
def px_V (h : sm_H) : Prop := ∀ i : Nat, (i : Int) < mi_f h 14011 → 0 ≤ (mx_b h 154 i).toInt ∧ (mx_b h 154 i).toInt < 1073741824
def px_W (h : sm_H) (u : Int) : Prop := mi_a h 119 u.toNat = 1 → 0 ≤ mi_a h 120 u.toNat ∧ mi_a h 120 u.toNat ≤ 9
def px_in (h : sm_H) (s : gm_S) : Prop := ab_Sh sx_sk h ∧ mi_f h 14028 = 0 ∧ mi_f h 14044 = 0 ∧ mi_f h 14034 < 0 ∧ 0 ≤ mi_f h 14029 ∧ mi_f h 14032 = wk_ul (wk_stk h) ∧ 0 ≤ mi_f h 14032 ∧ mi_f h 14032 ≤ 12 ∧ px_R h (wk_stk h, s) ∧ wk_tok 0 h ∧ px_V h ∧ -1000 ≤ gm_D s ∧ gm_D s ≤ 998
def plk_Q (h : sm_H) (m : Option gm_S) (w : Option mi_V) (h' : sm_H) : Prop := w = none ∧ ab_Sh sx_sk h' ∧ ab_Fr wr_L h h' ∧ ((m = none ∧ (mi_f h' 14044 = 1 ∨ 0 ≤ mi_f h' 14034)) ∨ (mi_f h' 14044 = 0 ∧ mi_f h' 14034 < 0 ∧ ∃ t, m = some t ∧ px_R h' (wk_stk h, t)))
section PX2
variable {h : sm_H} {d : Nat} {zu : Int} {s : gm_S}
theorem px_nx {h h' : sm_H} {r : List wk_E} {s : gm_S} (hR : px_R h (r, s)) (hF : ab_Fr [(14033, 14034)] h h') (hS : ab_Sh sx_sk h) (e : mi_f h' 14033 = mi_f h 14033 + 1) : px_R h' (r, pm_nx s) := by
  obtain ⟨r1, r2, r3, r4, r5, r6⟩ := hR
  dsimp only at r1 r2 r3 r4 r5 r6
  obtain ⟨n1, n2, n3, n4⟩ := pm_nx_e (s := s)
  unfold px_R gm_len
  dsimp only
  rw [n1, n2, n3, n4]
  refine ⟨gx_T_fr r1 hF hS rfl, by omega, (me_f (c := 14031) hF hS rfl rfl).trans r3, (me_f (c := 14030) hF hS rfl rfl).trans r4, gx_P_fr hF hS rfl _ r5, fun x hx x5 => ?_⟩
  obtain ⟨a1, a2, a3⟩ := r6 x hx x5
  exact ⟨a1, a2, (me_a (k := 160) hF hS rfl rfl).trans a3⟩
theorem me_matchp (hi : px_in h s) (hu0 : 0 ≤ zu) (hu1 : zu < 60) (hs : mi_a h 119 zu.toNat = 1 ∨ mi_a h 119 zu.toNat = 2 ∨ mi_a h 119 zu.toNat = 8) (hl : mi_a h 119 zu.toNat = 8 → 0 ≤ mi_a h 120 zu.toNat ∧ mi_a h 120 zu.toNat < 20) (hW : px_W h zu) : me_E (d + 1) 214 0 [some (.inr (.inr 109)), some (.inl zu), none] [] h (plk_Q h (pm_lf (px_E h) (mi_a h 119 zu.toNat) (mi_a h 120 zu.toNat) s)) := by
  obtain ⟨hS, hm, hp, hw, -, -, -, -, hR, ht, hV, -, -⟩ := hi
  have ok : mi_in zu := ⟨by omega, by omega⟩
  obtain ⟨n0, n1, n2⟩ := ht rfl
  have b11 := me_fb (c := 14011) hS rfl
  have hidx : (mi_f h 14033).toNat < 161 := by omega
  have bk := me_ab (k := 152) (i := (mi_f h 14033).toNat) hS rfl (by decide) hidx
  have bf := me_ab (k := 153) (i := (mi_f h 14033).toNat) hS rfl (by decide) hidx
  have eF : mi_f h 14033 = gm_F s := hR.2.1
  have eK : pm_K (px_E h) s = mi_a h 152 (mi_f h 14033).toNat := by
    show mi_a h 152 (gm_F s).toNat = _
    rw [eF]
  have eV : pm_V (px_E h) s = (mx_b h 154 (mi_f h 14033).toNat).toInt := by
    show (mx_b h 154 (gm_F s).toNat).toInt = _
    rw [eF]
  have hne : mi_a h 152 (mi_f h 14033).toNat ≠ 0 → mi_f h 14033 < mi_f h 14011 := by
    intro e
    rcases Int.lt_or_eq_of_le n1 with e1 | e1
    · exact e1
    · rw [← e1] at n2
      exact absurd n2 e
  have bad : ∀ h1, pm_lf (px_E h) (mi_a h 119 zu.toNat) (mi_a h 120 zu.toNat) s = none → ab_Sh sx_sk h1 → mi_f h1 14034 = mi_a h 153 (Int.toNat (mi_f h 14033)) → ab_Fr [(14034, 14035)] h h1 → plk_Q h (pm_lf (px_E h) (mi_a h 119 zu.toNat) (mi_a h 120 zu.toNat) s) none h1 := fun h1 e g1 g2 g3 => ⟨rfl, g1, g3.wide (fun c hc => ab_swr_ok (by decide) hc), Or.inl ⟨e, Or.inr (by rw [g2]; exact bf.1)⟩⟩
  -- behind the node
  have node : ∀ (kd v : Int) (h2 h3 : sm_H), pm_lf (px_E h) (mi_a h 119 zu.toNat) (mi_a h 120 zu.toNat) s = (gm_c kd v s).map pm_nx → ab_Sh sx_sk h2 → ab_Fr [(14016, 14017), (14044, 14045), (20224, 20225), (20352, 20353), (20480, 20481), (20864, 20865)] h h2 → ((gm_c kd v s = none ∧ mi_f h2 14044 = 1) ∨ (mi_f h2 14044 = 0 ∧ ∃ t, gm_c kd v s = some t ∧ px_R h2 (wk_stk h, t))) → ab_Sh sx_sk h3 → mi_f h3 14033 = mi_f h2 14033 + 1 → ab_Fr [(14033, 14034)] h2 h3 → plk_Q h (pm_lf (px_E h) (mi_a h 119 zu.toNat) (mi_a h 120 zu.toNat) s) none h3 := by
    intro kd v h2 h3 el q1 q2 q3 r1 r2 r3
    have e44 : mi_f h3 14044 = mi_f h2 14044 := me_f (c := 14044) r3 q1 rfl rfl
    have e34 : mi_f h3 14034 = mi_f h 14034 := (me_f (c := 14034) r3 q1 rfl rfl).trans (me_f (c := 14034) q2 hS rfl rfl)
    refine ⟨rfl, r1, (q2.wide (fun c hc => ab_swr_ok (by decide) hc)).trans (r3.wide (fun c hc => ab_swr_ok (by decide) hc)), ?_⟩
    rw [el]
    rcases q3 with ⟨e1, e2⟩ | ⟨e1, t, e2, e3⟩
    · exact Or.inl ⟨by rw [e1]; rfl, Or.inl (e44.trans e2)⟩
    · exact Or.inr ⟨e44.trans e1, by omega, pm_nx t, by rw [e2]; rfl, px_nx e3 r3 q1 r2⟩
  refine mt_maA hS ok ?_ ?_ ?_ ?_ ?_ ?_ ?_ ?_
  · intro b c1 c2 c3 c4
    exfalso; omega
  · intro b c1 c2 c3 c4
    refine ⟨by omega, fun h1 g1 g2 => ?_⟩
    have e1 := me_nil g2
    subst e1
    refine ⟨_, me_comesp (d := d) g1 hm ⟨by decide, by decide⟩ hR, ?_⟩
    intro w h2 hwk hq
    obtain ⟨q1, q2, ⟨z, rfl⟩, q3⟩ := hq
    have e33 : mi_f h2 14033 = mi_f h1 14033 := me_f (c := 14033) q2 g1 rfl rfl
    refine mt_maC q1 ok (mi_inT _ : mi_in (mi_a h1 119 zu.toNat)) (hwk _ rfl) ?_
    intro b2
    refine ⟨by omega, fun h3 r1 r2 r3 => node 3 _ h2 h3 ?_ q1 q2 (q3.imp id (fun x => ⟨x.1, x.2.2.2⟩)) r1 r2 r3⟩
    unfold pm_lf
    rw [if_neg c3, if_pos c4, if_pos (by rw [eK]; omega), eV]
  · intro b c1 c2 c3
    refine ⟨by omega, fun h1 g1 g2 => ?_⟩
    have e1 := me_nil g2
    subst e1
    refine ⟨_, me_comesp (d := d) g1 hm ⟨by decide, by decide⟩ hR, ?_⟩
    intro w h2 hwk hq
    obtain ⟨q1, q2, ⟨z, rfl⟩, q3⟩ := hq
    have e33 : mi_f h2 14033 = mi_f h1 14033 := me_f (c := 14033) q2 g1 rfl rfl
    have e119 : mi_a h2 119 zu.toNat = mi_a h1 119 zu.toNat := me_a (k := 119) q2 g1 rfl rfl
    refine mt_maB q1 ok (mi_inT _ : mi_in (mi_a h1 119 zu.toNat)) (hwk _ rfl) ?_ ?_
    · intro b2 c4
      refine ⟨by omega, fun h3 r1 r2 r3 => node 2 _ h2 h3 ?_ q1 q2 (q3.imp id (fun x => ⟨x.1, x.2.2.2⟩)) r1 r2 r3⟩
      unfold pm_lf
      rw [if_pos c3, if_pos (by rw [eK]; omega), eV]
      have hlt := hne (by omega)
      obtain ⟨v0, v1⟩ := hV (mi_f h1 14033).toNat (by omega)
      obtain ⟨w0, w1⟩ := hW c3
      have ow : mi_in (mi_a h1 120 zu.toNat) := mi_inT _
      have ew : ((Int32.ofInt (mi_a h1 120 zu.toNat)).toInt64).toInt = mi_a h1 120 zu.toNat := by rw [Int32.toInt_toInt64, mi_ti ow]
      have ex : (mx_b h1 154 (mi_f h1 14033).toNat + (Int32.ofInt (mi_a h1 120 zu.toNat)).toInt64).toInt = (mx_b h1 154 (mi_f h1 14033).toNat).toInt + mi_a h1 120 zu.toNat := by
        rw [Int64.toInt_add, ew]
        exact Int.bmod_eq_of_le (by omega) (by omega)
      have e10 : (Int64.ofNat 10000).toInt = 10000 := by decide
      rw [px_mod (by rw [ex]; omega) (by rw [ex]; omega) (by rw [e10]; decide), ex, e10]
    · intro b2 c4
      exfalso; omega
  · intro b c1 c2
    refine ⟨by omega, fun h1 g1 g2 g3 => bad h1 ?_ g1 g2 g3⟩
    unfold pm_lf
    rcases hs with e | e | e
    · rw [if_pos e, if_neg (by rw [eK]; omega)]
    · rw [if_neg (by omega), if_pos e, if_neg (by rw [eK]; omega)]
    · exact absurd e c1
  · intro b c1 c2 c3 c4
    have hl := hl c1
    refine ⟨by omega, fun h1 g1 g2 g3 => ⟨rfl, g1, g3.wide (fun c hc => ab_swr_ok (by decide) hc), Or.inr ⟨(me_f (c := 14044) g3 hS rfl rfl).trans hp, by rw [me_f (c := 14034) g3 hS rfl rfl]; exact hw, pm_nx s, ?_, px_nx hR g3 hS g2⟩⟩⟩
    unfold pm_lf
    rw [if_neg c3, if_neg c4, if_pos c1, if_pos ⟨hl.1, by rw [eK]; omega⟩]
  · intro b c1 c2 c3 c4
    exfalso; omega
  · intro b c1 c2 c3
    exfalso; omega
  · intro b c1 c2
    have hl := hl c1
    refine ⟨by omega, fun h1 g1 g2 g3 => bad h1 ?_ g1 g2 g3⟩
    unfold pm_lf
    rw [if_neg (by omega), if_neg (by omega), if_pos c1, if_neg (fun q => by rw [eK] at q; omega)]
theorem px_of_pl {h' : sm_H} {m : Option gm_S} (hi : px_in h s) (hq : plk_Q h m none h') : pxm_Q h (m.map (fun t => (wk_stk h, t))) none h' := by
  obtain ⟨-, q1, q2, q5⟩ := hq
  have i1 := hi.1
  have i5 := hi.2.2.2.2.2.1
  refine ⟨rfl, q1, q2.wide (fun c hc => ab_swr_ok (by decide) hc), ?_⟩
  rcases q5 with ⟨e1, e2⟩ | ⟨e1, e4, t, e2, e3⟩
  · exact Or.inl ⟨by rw [e1]; rfl, e2⟩
  · exact Or.inr ⟨e1, e4, (wk_stk h, t), by rw [e2]; rfl, wk_stk_fr q2 i1 rfl, e3, (me_f (c := 14032) q2 i1 rfl rfl).trans i5⟩
theorem pm_sg_lf {l : Int} {g : wk_g} {E : pm_E} {u : Int} {r : List wk_E} (n9 : g 119 u.toNat ≠ 9) (n10 : g 119 u.toNat ≠ 10) : pm_sg l g E u r s = (pm_lf E (g 119 u.toNat) (g 120 u.toNat) s).map (fun t => (r, t)) := by
  unfold pm_sg
  rw [if_neg n9, if_neg n10]
theorem pm_lf_o {E : pm_E} {o w : Int} (n1 : o ≠ 1) (n2 : o ≠ 2) (n8 : o ≠ 8) : pm_lf E o w s = some s := by
  unfold pm_lf
  rw [if_neg n1, if_neg n2, if_neg n8]
theorem sp_match (hi : px_in h s) (hu : wk_us h zu) (hW : px_W h zu) (hs : mi_a h 119 zu.toNat = 1 ∨ mi_a h 119 zu.toNat = 2 ∨ mi_a h 119 zu.toNat = 8) : ∃ Q1, me_E (d + 4) 214 0 [some (.inr (.inr 109)), some (.inl zu), none] [] h Q1 ∧ ∀ w h', (∀ x, w = some x → mi_ok x) → Q1 w h' → me_E (d + 5) 213 105 [some (.inr (.inr 109)), some (.inl zu)] (mi_back w []) h' (pxm_Q h (pm_sg 0 (mi_a h) (px_E h) zu (wk_stk h) s)) := by
  have hu0 := hu.1
  have hu1 := hu.2.1
  have ok : mi_in zu := ⟨by omega, by omega⟩
  refine ⟨_, me_matchp (d := d + 3) hi hu0 hu1 hs hu.2.2.2 hW, ?_⟩
  intro w h' hw hq
  have e := hq.1
  subst e
  have q1 := hq.2.1
  refine mt_sr105 q1 ok ?_
  intro h3 r1 r2
  have e3 := me_nil r2
  subst e3
  rw [pm_sg_lf (by omega) (by omega)]
  exact px_of_pl hi hq
theorem sp_lay (hi : px_in h s) (hu : wk_us h zu) (n1 : mi_a h 119 zu.toNat ≠ 1) (n2 : mi_a h 119 zu.toNat ≠ 2) (n8 : mi_a h 119 zu.toNat ≠ 8) (n9 : mi_a h 119 zu.toNat ≠ 9) (n10 : mi_a h 119 zu.toNat ≠ 10) : ∃ Q1, me_E (d + 4) 222 0 [some (.inr (.inr 109)), some (.inl (mi_a h 119 zu.toNat))] [] h Q1 ∧ ∀ w h', (∀ x, w = some x → mi_ok x) → Q1 w h' → me_E (d + 5) 213 142 [some (.inr (.inr 109)), some (.inl zu)] (mi_back w []) h' (pxm_Q h (pm_sg 0 (mi_a h) (px_E h) zu (wk_stk h) s)) := by
  have ok : mi_in zu := ⟨by have := hu.1; omega, by have := hu.2.1; omega⟩
  obtain ⟨i1, i2, i3, i4, i5, i6, i7, i8, i9, -⟩ := hi
  refine ⟨_, me_lay i1 (mi_inT _), ?_⟩
  intro w h' hw hq
  obtain ⟨rfl, q1, q2⟩ := hq
  refine mt_sr142 q1 ok ?_
  intro h3 r1 r2
  have e3 := me_nil r2
  subst e3
  rw [pm_sg_lf n9 n10, pm_lf_o n1 n2 n8]
  exact ⟨rfl, q1, q2.wide (fun c hc => ab_swr_ok (by decide) hc), Or.inr ⟨(me_f (c := 14044) q2 i1 rfl rfl).trans i3, by rw [me_f (c := 14034) q2 i1 rfl rfl]; exact i4, (wk_stk h, s), rfl, wk_stk_fr q2 i1 rfl, px_R_fr i9 q2 i1 rfl rfl rfl rfl rfl, (me_f (c := 14032) q2 i1 rfl rfl).trans i6⟩⟩
theorem sp_enter (hi : px_in h s) (hu : wk_us h zu) (ht : mi_f h 14029 ≤ 2990) (h9 : mi_a h 119 zu.toNat = 9) : ∃ Q1, me_E (d + 4) 207 0 [some (.inr (.inr 109)), some (.inl (mi_a h 115 (mi_a h 120 zu.toNat).toNat))] [] h Q1 ∧ ∀ w h', (∀ x, w = some x → mi_ok x) → Q1 w h' → me_E (d + 5) 213 75 [some (.inr (.inr 109)), some (.inl zu)] (mi_back w []) h' (pxm_Q h (pm_sg 0 (mi_a h) (px_E h) zu (wk_stk h) s)) := by
  have ok : mi_in zu := ⟨by have := hu.1; omega, by have := hu.2.1; omega⟩
  obtain ⟨i1, i2, i3, i4, i5, i6, i7, i8, i9, i10, i11, i12, i13⟩ := hi
  obtain ⟨u1, u2, u3, u4⟩ := hu.2.2.1 h9
  refine ⟨_, me_enterp (d := d + 2) (s := s) i1 i2 i4 i5 ht i6 i8 i7 u3 u4 i9 i12 (by omega), ?_⟩
  intro w h' hw hq
  have e := hq.1
  subst e
  have q1 := hq.2.1
  refine mt_sr75 q1 ok ?_
  intro h3 r1 r2
  have e3 := me_nil r2
  subst e3
  have e : pm_sg 0 (mi_a h) (px_E h) zu (wk_stk h) s = pm_en 0 (mi_a h) (mi_a h 115 (mi_a h 120 zu.toNat).toNat) (wk_stk h) s := by
    unfold pm_sg
    rw [if_pos h9]
  rw [e]
  exact hq
theorem me_singlep (hi : px_in h s) (hu : wk_us h zu) (hW : px_W h zu) (ht : mi_f h 14029 ≤ 2990) : me_E (d + 5) 213 0 [some (.inr (.inr 109)), some (.inl zu)] [] h (pxm_Q h (pm_sg 0 (mi_a h) (px_E h) zu (wk_stk h) s)) := by
  obtain ⟨i1, i2, i3, i4, i5, i6, i7, i8, i9, i10, i11, i12, i13⟩ := id hi
  have hu0 := hu.1
  have hu1 := hu.2.1
  have ok : mi_in zu := ⟨by omega, by omega⟩
  refine mt_sg i1 ok ?_ ?_ ?_ ?_ ?_ ?_ ?_ ?_ ?_ ?_ ?_ ?_ ?_ ?_ ?_ ?_ ?_
  · intro b c1 c2 c3
    exact absurd i2 c2
  · intro b c1 c2 c3
    exact absurd i2 c2
  · intro b c1 c2
    refine ⟨by omega, fun h1 g1 g2 => ?_⟩
    have e3 := me_nil g2
    subst e3
    exact sp_match hi hu hW (by omega)
  · intro b c1 c2 c3
    exact absurd i2 c2
  · intro b c1 c2 c3
    exact absurd i2 c2
  · intro b c1 c2
    refine ⟨by omega, fun h1 g1 g2 => ?_⟩
    have e3 := me_nil g2
    subst e3
    exact sp_match hi hu hW (by omega)
  · intro c1
    refine ⟨by omega, fun h1 g1 g2 => ?_⟩
    have e3 := me_nil g2
    subst e3
    exact sp_lay hi hu (by omega) (by omega) (by omega) (by omega) (by omega)
  · intro c1
    refine ⟨by omega, fun h1 g1 g2 => ?_⟩
    have e3 := me_nil g2
    subst e3
    exact sp_lay hi hu (by omega) (by omega) (by omega) (by omega) (by omega)
  · intro c1
    refine ⟨by omega, fun h1 g1 g2 => ?_⟩
    have e3 := me_nil g2
    subst e3
    exact sp_lay hi hu (by omega) (by omega) (by omega) (by omega) (by omega)
  · intro c1
    refine ⟨by omega, fun h1 g1 g2 => ?_⟩
    have e3 := me_nil g2
    subst e3
    exact sp_lay hi hu (by omega) (by omega) (by omega) (by omega) (by omega)
  · intro c1
    refine ⟨by omega, fun h1 g1 g2 => ?_⟩
    have e3 := me_nil g2
    subst e3
    exact sp_lay hi hu (by omega) (by omega) (by omega) (by omega) (by omega)
  · intro b c1 c2 c3
    exact absurd i2 c2
  · intro b c1 c2 c3
    exact absurd i2 c2
  · intro b c1 c2
    refine ⟨by omega, fun h1 g1 g2 => ?_⟩
    have e3 := me_nil g2
    subst e3
    exact sp_match hi hu hW (by omega)
  · intro c1
    have u := hu.2.2.1 (by omega)
    refine ⟨by omega, fun h1 g1 g2 => ?_⟩
    have e3 := me_nil g2
    subst e3
    exact sp_enter hi hu ht (by omega)
  · intro b c1
    refine ⟨by omega, fun h1 g1 g2 a5 a6 a7 g3 => ?_⟩
    have h10 : mi_a h 119 zu.toNat = 10 := by omega
    have n9 : ¬ mi_a h 119 zu.toNat = 9 := by omega
    have est := wk_push1 i5 g2 a5 a6 a7
    have e : pm_sg 0 (mi_a h) (px_E h) zu (wk_stk h) s = some ((1, mi_a h 120 zu.toNat, 0) :: wk_stk h, s) := by
      unfold pm_sg
      rw [if_neg n9, if_pos h10]
    rw [e]
    refine ⟨rfl, g1, g3.wide (fun c hc => ab_swr_ok (by decide) hc), Or.inr ⟨(me_f (c := 14044) g3 i1 rfl rfl).trans i3, by rw [me_f (c := 14034) g3 i1 rfl rfl]; exact i4, ((1, mi_a h 120 zu.toNat, 0) :: wk_stk h, s), rfl, est, px_R_st (px_R_fr i9 g3 i1 rfl rfl rfl rfl rfl) (fun x hx x5 => ?_), ?_⟩⟩
    · rcases List.mem_cons.mp hx with rfl | hx
      · exact absurd x5 (show ¬ (1 : Int) = 5 by decide)
      · exact hx
    · rw [me_f (c := 14032) g3 i1 rfl rfl, i6]
      exact (wk_ul_c (by decide)).symm
  · intro c1
    refine ⟨by omega, fun h1 g1 g2 => ?_⟩
    have e3 := me_nil g2
    subst e3
    exact sp_lay hi hu (by omega) (by omega) (by omega) (by omega) (by omega)
end PX2
