/-! the parsing walk of the reference, exactly: has, directed, comes, enter, match -/
def px_bit (x : Int64) (k : Int) : Bool := decide (0 ≤ k ∧ (lg_cmp ((x >>> ((Int32.ofInt k).toInt64 &&& 63)) &&& (Int64.ofNat 1)) (Int64.ofNat 1)).toInt = 0)
def px_dir (v : Int) (a f : Int64) : Int64 := if v = 0 then a ||| Int64.ofNat 0 else a ||| f
def px_E (h : sm_H) : pm_E := (fun i => mi_a h 152 i.toNat, fun i => (mx_b h 154 i.toNat).toInt, fun u k => px_bit (mx_b h 134 u.toNat) k, fun f a k => px_bit (px_dir (mi_a h 132 a.toNat) (mx_b h 135 a.toNat) (mx_b h 138 f.toNat)) k)
def px_R (h : sm_H) (c : gm_C) : Prop := gx_T h (gm_T c.2) ∧ mi_f h 14033 = gm_F c.2 ∧ mi_f h 14031 = gm_D c.2 ∧ mi_f h 14030 = ((gm_P c.2).length : Int) ∧ gx_P h (gm_P c.2) ∧ ∀ x ∈ c.1, x.1 = 5 → 0 ≤ x.2.2 ∧ x.2.2 < gm_len c.2 ∧ mi_a h 160 x.2.2.toNat = x.2.2
section PX1
variable {h h' : sm_H} {s : gm_S} {r : List wk_E} {d : Nat} {wr : List (Nat × Nat)}
theorem me_hasx {zs : Int64} (hS : ab_Sh sx_sk h) (n0 : 0 ≤ mi_f h 14033) (n1 : mi_f h 14033 ≤ 160) : me_E d 212 0 [some (.inr (.inr 109)), some (.inr (.inl zs)), none] [] h (fun w h' => h' = h ∧ w = some (.inl (if px_bit zs (mi_a h 152 (mi_f h 14033).toNat) = true then 1 else 0))) := by
  refine mt_hs hS ?_ ?_ ?_
  · intro b c
    refine ⟨by omega, fun h1 g1 g2 => ⟨me_nil g2, ?_⟩⟩
    have e : ¬ px_bit zs (mi_a h 152 (mi_f h 14033).toNat) = true := by
      unfold px_bit
      rw [decide_eq_true_eq]
      exact fun z => by omega
    rw [if_neg e]
  · intro b c1 c2
    refine ⟨by omega, fun h1 g1 g2 => ⟨me_nil g2, ?_⟩⟩
    have e : ¬ px_bit zs (mi_a h 152 (mi_f h 14033).toNat) = true := by
      unfold px_bit
      rw [decide_eq_true_eq]
      exact fun z => c2 z.2
    rw [if_neg e]
  · intro b c1 c2
    refine ⟨by omega, fun h1 g1 g2 => ⟨me_nil g2, ?_⟩⟩
    have e : px_bit zs (mi_a h 152 (mi_f h 14033).toNat) = true := by
      unfold px_bit
      rw [decide_eq_true_eq]
      exact ⟨c1, c2⟩
    rw [if_pos e]
theorem pm_dr_s {g : wk_g} {p : Int → Bool} {m : Nat} {a n : Int} : pm_dr g p (m + 1) a n = if p a = true then some n else pm_dr g p m (g 128 a.toNat) (n + 1) := rfl
/-- what directed answers -/
def px_z (o : Option Int) : Int := match o with | none => -1 | some n => n
theorem me_diBx {zf : Int} (hS : ab_Sh sx_sk h) (n0 : 0 ≤ mi_f h 14033) (n1 : mi_f h 14033 ≤ 160) (hf0 : 0 ≤ zf) (hf1 : zf < 80) (hf : wk_fa (mi_a h) zf) : ∀ (N : Nat) (j : Nat), (mi_a h 130 zf.toNat) - j = N → me_E (d + 1) 224 9 [some (.inr (.inr 109)), some (.inl zf), some (.inl (j : Int)), some (.inl (wk_alt (mi_a h) j (mi_a h 129 zf.toNat)))] [] h (fun w h' => h' = h ∧ w = some (.inl (px_z (pm_dr (mi_a h) (fun a => (px_E h).2.2.2 zf a (mi_a h 152 (mi_f h 14033).toNat)) N (wk_alt (mi_a h) j (mi_a h 129 zf.toNat)) (j : Int))))) := by
  have of : mi_in zf := ⟨by omega, by omega⟩
  have b130 := me_ab (k := 130) (i := zf.toNat) hS rfl (by decide) (by omega)
  intro N
  induction N with
  | zero =>
    intro j h1
    have hc := wk_fa_at hf (j := j) (by omega)
    generalize ha : wk_alt (mi_a h) j (mi_a h 129 zf.toNat) = a at hc ⊢
    have oj : mi_in (j : Int) := ⟨by omega, by omega⟩
    have oa : mi_in a := by
      rw [← ha]
      cases j with
      | zero => exact mi_inT _
      | succ j => rw [wk_alt_succ]; exact mi_inT _
    refine mt_diB hS of oj oa ?_ ?_ ?_
    · intro c h3 r1 r2
      exact ⟨me_nil r2, rfl⟩
    · intro c1 c2
      exfalso; omega
    · intro c1 c2
      exfalso; omega
  | succ N ih =>
    intro j h1
    have hc := wk_fa_at hf (j := j) (by omega)
    have es := wk_alt_succ (mi_a h) j (mi_a h 129 zf.toNat)
    generalize ha : wk_alt (mi_a h) j (mi_a h 129 zf.toNat) = a at hc es ⊢
    have oj : mi_in (j : Int) := ⟨by omega, by omega⟩
    have oa : mi_in a := by
      rw [← ha]
      cases j with
      | zero => exact mi_inT _
      | succ j => rw [wk_alt_succ]; exact mi_inT _
    have go : ∀ w h2, (∀ x, w = some x → mi_ok x) → (h2 = h ∧ w = some (.inl (if (px_E h).2.2.2 zf a (mi_a h 152 (mi_f h 14033).toNat) = true then 1 else 0))) → 0 ≤ a → a < 80 → me_E (d + 1) 224 23 [some (.inr (.inr 109)), some (.inl zf), some (.inl (j : Int)), some (.inl a)] (mi_back w []) h2 (fun w h' => h' = h ∧ w = some (.inl (px_z (pm_dr (mi_a h) (fun a => (px_E h).2.2.2 zf a (mi_a h 152 (mi_f h 14033).toNat)) (N + 1) a (j : Int))))) := by
      intro w h2 hw hq a0 a1
      obtain ⟨rfl, rfl⟩ := hq
      rw [pm_dr_s]
      by_cases cb : (px_E h2).2.2.2 zf a (mi_a h2 152 (mi_f h2 14033).toNat) = true
      · rw [if_pos cb, if_pos cb]
        refine mt_diC hS of oj oa ⟨by decide, by decide⟩ ?_ ?_
        · intro c
          exact absurd c (by decide)
        · intro c h3 r1 r2
          exact ⟨me_nil r2, rfl⟩
      · rw [if_neg cb, if_neg cb]
        refine mt_diC hS of oj oa ⟨by decide, by decide⟩ ?_ ?_
        · intro c
          refine ⟨by omega, fun h3 r1 r2 => ?_⟩
          have e3 := me_nil r2
          subst e3
          have := ih (j + 1) (by omega)
          rw [es] at this
          exact this
        · intro c
          exact absurd rfl c
    refine mt_diB hS of oj oa ?_ ?_ ?_
    · intro c h3 r1 r2
      exfalso; omega
    · intro c1 c2
      refine ⟨by omega, fun h3 r1 r2 => ?_⟩
      have e3 := me_nil r2
      subst e3
      refine ⟨_, me_hasx hS n0 n1, fun w h2 hw hq => go w h2 hw ?_ (by omega) (by omega)⟩
      have e : (px_E h3).2.2.2 zf a (mi_a h3 152 (mi_f h3 14033).toNat) = px_bit (mx_b h3 135 a.toNat ||| Int64.ofNat 0) (mi_a h3 152 (mi_f h3 14033).toNat) := by
        show px_bit (px_dir _ _ _) _ = _
        unfold px_dir
        rw [if_pos c2]
      rw [e]
      exact hq
    · intro c1 c2
      refine ⟨by omega, fun h3 r1 r2 => ?_⟩
      have e3 := me_nil r2
      subst e3
      refine ⟨_, me_hasx hS n0 n1, fun w h2 hw hq => go w h2 hw ?_ (by omega) (by omega)⟩
      have e : (px_E h3).2.2.2 zf a (mi_a h3 152 (mi_f h3 14033).toNat) = px_bit (mx_b h3 135 a.toNat ||| mx_b h3 138 zf.toNat) (mi_a h3 152 (mi_f h3 14033).toNat) := by
        show px_bit (px_dir _ _ _) _ = _
        unfold px_dir
        rw [if_neg c2]
      rw [e]
      exact hq
theorem me_directedx {zf : Int} (hS : ab_Sh sx_sk h) (n0 : 0 ≤ mi_f h 14033) (n1 : mi_f h 14033 ≤ 160) (hf0 : 0 ≤ zf) (hf1 : zf < 80) (hf : wk_fa (mi_a h) zf) (eF : mi_f h 14033 = gm_F s) : me_E (d + 1) 224 0 [some (.inr (.inr 109)), some (.inl zf), none, none] [] h (fun w h' => h' = h ∧ w = some (.inl (px_z (pm_w (mi_a h) (px_E h) zf s)))) := by
  refine mt_diA hS ⟨by omega, by omega⟩ ?_
  refine ⟨by omega, fun h3 r1 r2 => ?_⟩
  have e3 := me_nil r2
  subst e3
  have := hf.1
  unfold pm_w pm_K
  rw [← eF]
  exact me_diBx hS n0 n1 hf0 hf1 hf (mi_a h3 130 zf.toNat).toNat 0 (by omega)
/-- frames -/
theorem px_R_fr (hR : px_R h (r, s)) (hF : ab_Fr wr h h') (hS : ab_Sh sx_sk h) (w1 : gx_w wr = false) (w2 : gx_w2 wr = false) (w3 : ab_in wr 14033 = false) (w4 : ab_in wr 14031 = false) (w5 : ab_in wr 14030 = false) : px_R h' (r, s) := by
  obtain ⟨r1, r2, r3, r4, r5, r6⟩ := hR
  have w6 : ab_in wr 20480 = false := by
    unfold gx_w at w1
    simp only [Bool.or_eq_false_iff] at w1
    exact w1.1.2
  refine ⟨gx_T_fr r1 hF hS w1, (me_f (c := 14033) hF hS rfl w3).trans r2, (me_f (c := 14031) hF hS rfl w4).trans r3, (me_f (c := 14030) hF hS rfl w5).trans r4, gx_P_fr hF hS w2 _ r5, fun x hx x5 => ?_⟩
  obtain ⟨a1, a2, a3⟩ := r6 x hx x5
  exact ⟨a1, a2, (me_a (k := 160) hF hS rfl w6).trans a3⟩
theorem px_R_st {r' : List wk_E} (hR : px_R h (r, s)) (hs : ∀ x ∈ r', x.1 = 5 → x ∈ r) : px_R h (r', s) := ⟨hR.1, hR.2.1, hR.2.2.1, hR.2.2.2.1, hR.2.2.2.2.1, fun x hx x5 => hR.2.2.2.2.2 x (hs x hx x5) x5⟩
/-- a node comes, or the limit is passed -/
theorem me_comesp {zk : Int} {zv : Int64} (hS : ab_Sh sx_sk h) (hm : mi_f h 14028 = 0) (hk0 : 0 ≤ zk ∧ zk < 10) (hR : px_R h (r, s)) : me_E d 208 0 [some (.inr (.inr 109)), some (.inl zk), some (.inr (.inl zv)), none] [] h (fun w h' => ab_Sh sx_sk h' ∧ ab_Fr [(14016, 14017), (14044, 14045), (20224, 20225), (20352, 20353), (20480, 20481), (20864, 20865)] h h' ∧ (∃ z, w = some (.inl z)) ∧ ((gm_c zk zv.toInt s = none ∧ mi_f h' 14044 = 1) ∨ (mi_f h' 14044 = 0 ∧ w = some (.inl (gm_len s)) ∧ mi_a h' 160 (gm_len s).toNat = gm_len s ∧ ∃ t, gm_c zk zv.toInt s = some t ∧ px_R h' (r, t)))) := by
  obtain ⟨r1, r2, r3, r4, r5, r6⟩ := hR
  dsimp only at r1 r2 r3 r4 r5 r6
  have rl := r1.1
  have el : gm_len s = mi_f h 14016 := rl.symm
  have ok : mi_in zk := ⟨by omega, by omega⟩
  refine mt_comes hS ok ?_ ?_ ?_
  · intro b1 b2 c1 c2
    refine ⟨⟨⟨by omega, by omega⟩, ⟨by omega, by omega⟩, ⟨by omega, by omega⟩, by omega, by omega⟩, fun h1 g1 g2 g3 g4 g5 g6 g7 g8 => ⟨g1, g8, ⟨_, rfl⟩, Or.inr ⟨g3, by rw [el], ?_, (gm_X s, gm_F s, gm_T s ++ [(zk + 10 * ((gm_T s).length : Int), zv.toInt, gm_D s)], gm_D s, gm_P s), ?_, ?_⟩⟩⟩
    · rw [el, g6, if_pos rfl]
    · unfold gm_c
      rw [if_neg (by omega)]
    · have n := gx_T_c r1 hk0 g2 g4 g5 g6 g7
      rw [r3] at n
      unfold px_R gm_len
      dsimp only
      simp only [gm_T_mk, gm_F_mk, gm_D_mk, gm_P_mk]
      refine ⟨n, (me_f (c := 14033) g8 hS rfl rfl).trans r2, (me_f (c := 14031) g8 hS rfl rfl).trans r3, (me_f (c := 14030) g8 hS rfl rfl).trans r4, gx_P_fr g8 hS rfl _ r5, fun x hx x5 => ?_⟩
      obtain ⟨a1, a2, a3⟩ := r6 x hx x5
      have a2 : x.2.2 < ((gm_T s).length : Int) := a2
      refine ⟨a1, by rw [List.length_append]; show x.2.2 < (((gm_T s).length + 1 : Nat) : Int); omega, ?_⟩
      rw [g6, if_neg (by omega)]
      exact a3
  · intro b1 b2 c1 c2 h1 g1 g2 g3
    refine ⟨g1, g3.wide (fun c hc => ab_swr_ok (by decide) hc), ⟨_, rfl⟩, Or.inl ⟨?_, g2⟩⟩
    unfold gm_c
    rw [if_pos (by omega)]
  · intro b1 b2 c1
    omega
def pxm_Q (h : sm_H) (m : Option gm_C) (w : Option mi_V) (h' : sm_H) : Prop := w = none ∧ ab_Sh sx_sk h' ∧ ab_Fr wr_W1 h h' ∧ ((m = none ∧ (mi_f h' 14044 = 1 ∨ 0 ≤ mi_f h' 14034)) ∨ (mi_f h' 14044 = 0 ∧ mi_f h' 14034 < 0 ∧ ∃ c, m = some c ∧ wk_stk h' = c.1 ∧ px_R h' c ∧ mi_f h' 14032 = wk_ul c.1))
/-- one more is open -/
theorem px_R_d (hR : px_R h (r, s)) (hF : ab_Fr wr h h') (hS : ab_Sh sx_sk h) (w1 : gx_w wr = false) (w2 : gx_w2 wr = false) (w3 : ab_in wr 14033 = false) (w5 : ab_in wr 14030 = false) (hD0 : -1000 ≤ gm_D s) (hD1 : gm_D s ≤ 999) (e : mi_f h' 14031 = (Int32.ofInt (mi_f h 14031) + Int32.ofInt (1 : Int)).toInt) : px_R h' (r, gm_d s) := by
  obtain ⟨r1, r2, r3, r4, r5, r6⟩ := hR
  have w6 : ab_in wr 20480 = false := by
    unfold gx_w at w1
    simp only [Bool.or_eq_false_iff] at w1
    exact w1.1.2
  unfold px_R gm_d gm_len
  dsimp only at r1 r2 r3 r4 r5 r6 ⊢
  simp only [gm_T_mk, gm_F_mk, gm_D_mk, gm_P_mk]
  refine ⟨gx_T_fr r1 hF hS w1, (me_f (c := 14033) hF hS rfl w3).trans r2, ?_, (me_f (c := 14030) hF hS rfl w5).trans r4, gx_P_fr hF hS w2 _ r5, fun x hx x5 => ?_⟩
  · rw [e, r3]
    exact (gx_wrap hD0 (by omega)).2
  · obtain ⟨a1, a2, a3⟩ := r6 x hx x5
    exact ⟨a1, a2, (me_a (k := 160) hF hS rfl w6).trans a3⟩
theorem me_enterp {zr : Int} (hS : ab_Sh sx_sk h) (hm : mi_f h 14028 = 0) (hw : mi_f h 14034 < 0) (ht0 : 0 ≤ mi_f h 14029) (ht : mi_f h 14029 ≤ 2990) (hu : mi_f h 14032 = wk_ul (wk_stk h)) (hu1 : mi_f h 14032 ≤ 12) (hu0 : 0 ≤ mi_f h 14032) (hz0 : 0 ≤ zr) (hz1 : zr < 10) (hR : px_R h (wk_stk h, s)) (hD0 : -1000 ≤ gm_D s) (hD1 : gm_D s ≤ 999) : me_E (d + 2) 207 0 [some (.inr (.inr 109)), some (.inl zr)] [] h (pxm_Q h (pm_en 0 (mi_a h) zr (wk_stk h) s)) := by
  have ok : mi_in zr := ⟨by omega, by omega⟩
  have ez : ((Int32.ofInt zr).toInt64).toInt = zr := by rw [Int32.toInt_toInt64, mi_ti ok]
  refine mt_enA hS ok ?_ ?_ ?_
  · intro b1 c1 h1 g1 g2 g3 g4
    have hR1 : px_R h1 (wk_stk h, s) := px_R_fr hR g4 hS rfl rfl rfl rfl rfl
    have f28 : mi_f h1 14028 = mi_f h 14028 := me_f (c := 14028) g4 hS rfl rfl
    refine ⟨_, me_comesp g1 (f28.trans hm) ⟨by decide, by decide⟩ hR1, ?_⟩
    intro w h2 hw2 hq
    obtain ⟨q1, q2, ⟨z, rfl⟩, q3⟩ := hq
    rw [ez] at q3
    have k29 : mi_f h2 14029 = mi_f h 14029 := (me_f (c := 14029) q2 g1 rfl rfl).trans (me_f (c := 14029) g4 hS rfl rfl)
    have k32 : mi_f h2 14032 = mi_f h 14032 := (me_f (c := 14032) q2 g1 rfl rfl).trans (me_f (c := 14032) g4 hS rfl rfl)
    have kst : wk_stk h2 = wk_stk h := (wk_stk_fr q2 g1 rfl).trans (wk_stk_fr g4 hS rfl)
    have k114 : mi_a h2 114 zr.toNat = mi_a h 114 zr.toNat := (me_a (k := 114) q2 g1 rfl rfl).trans (me_a (k := 114) g4 hS rfl rfl)
    refine mt_enB q1 ok (hw2 _ rfl) ?_
    intro b1 b2
    refine ⟨by omega, ?_⟩
    intro h3 s1 s29 s31 s32 a5 a6 a7 s4
    have hFr : ab_Fr wr_W1 h h3 := ((g4.wide (fun c hc => ab_swr_ok (by decide) hc)).trans (q2.wide (fun c hc => ab_swr_ok (by decide) hc))).trans (s4.wide (fun c hc => ab_swr_ok (by decide) hc))
    have l44 : mi_f h3 14044 = mi_f h2 14044 := me_f (c := 14044) s4 q1 rfl rfl
    have l34 : mi_f h3 14034 = mi_f h 14034 := ((me_f (c := 14034) s4 q1 rfl rfl).trans (me_f (c := 14034) q2 g1 rfl rfl)).trans (me_f (c := 14034) g4 hS rfl rfl)
    refine ⟨rfl, s1, hFr, ?_⟩
    unfold pm_en
    rw [if_neg (by omega)]
    rcases q3 with ⟨e1, e2⟩ | ⟨e1, -, -, t, e2, e3⟩
    · refine Or.inl ⟨?_, Or.inl (l44.trans e2)⟩
      rw [e1]
      rfl
    · have eD := (gm_c_t e2).2.2.2.1
      refine Or.inr ⟨l44.trans e1, by omega, ((1, mi_a h 114 zr.toNat, 0) :: (2, 1, 0) :: wk_stk h, gm_d t), ?_, ?_, ?_, ?_⟩
      · rw [e2]
        rfl
      · have := wk_push2 (by omega) s29 a5 a6 a7
        rw [k114, kst] at this
        exact this
      · refine px_R_st (px_R_d e3 s4 q1 rfl rfl rfl rfl (by omega) (by omega) s31) (fun x hx x5 => ?_)
        rcases List.mem_cons.mp hx with rfl | hx
        · exact absurd x5 (show ¬ (1 : Int) = 5 by decide)
        · rcases List.mem_cons.mp hx with rfl | hx
          · exact absurd x5 (show ¬ (2 : Int) = 5 by decide)
          · exact hx
      · show _ = 0 + (1 + wk_ul (wk_stk h))
        omega
  · intro b1 b2 c1 c2
    omega
  · intro b1 b2 c1 c2 h1 g1 g2 g3
    refine ⟨rfl, g1, g3.wide (fun c hc => ab_swr_ok (by decide) hc), Or.inl ⟨?_, Or.inl g2⟩⟩
    unfold pm_en
    rw [if_pos (by omega)]
end PX1
/-! match, single, again of the reference, in parsing, exactly -/
theorem px_mod {X Y : Int64} (x0 : 0 ≤ X.toInt) (x1 : X.toInt < 2147483648) (y0 : 0 < Y.toInt) : (X - X / Y * Y).toInt = X.toInt % Y.toInt := by
  have q0 : 0 ≤ X.toInt / Y.toInt := Int.ediv_nonneg x0 (by omega)
  have q1 : X.toInt / Y.toInt ≤ X.toInt := Int.ediv_le_self _ x0
  have p0 : 0 ≤ X.toInt / Y.toInt * Y.toInt := Int.mul_nonneg q0 (by omega)
  have p1 : X.toInt / Y.toInt * Y.toInt ≤ X.toInt := Int.ediv_mul_le _ (by omega)
  have e1 : (X / Y).toInt = X.toInt / Y.toInt := by
    rw [Int64.toInt_div, Int.tdiv_eq_ediv_of_nonneg x0]
    exact Int.bmod_eq_of_le (by omega) (by omega)
  have e2 : (X / Y * Y).toInt = X.toInt / Y.toInt * Y.toInt := by
    rw [Int64.toInt_mul, e1]
    exact Int.bmod_eq_of_le (by omega) (by omega)
  rw [Int64.toInt_sub, e2, Int.bmod_eq_of_le (by omega) (by omega), Int.emod_def, Int.mul_comm]
/-- the tokens' values are small; so are the digits behind + -/
def px_V (h : sm_H) : Prop := ∀ i : Nat, (i : Int) < mi_f h 14011 → 0 ≤ (mx_b h 154 i).toInt ∧ (mx_b h 154 i).toInt < 1073741824
def px_W (h : sm_H) (u : Int) : Prop := mi_a h 119 u.toNat = 1 → 0 ≤ mi_a h 120 u.toNat ∧ mi_a h 120 u.toNat ≤ 9
def px_in (h : sm_H) (s : gm_S) : Prop := ab_Sh sx_sk h ∧ mi_f h 14028 = 0 ∧ mi_f h 14044 = 0 ∧ mi_f h 14034 < 0 ∧ 0 ≤ mi_f h 14029 ∧ mi_f h 14032 = wk_ul (wk_stk h) ∧ 0 ≤ mi_f h 14032 ∧ mi_f h 14032 ≤ 12 ∧ px_R h (wk_stk h, s) ∧ wk_tok 0 h ∧ px_V h ∧ -1000 ≤ gm_D s ∧ gm_D s ≤ 998
def plk_Q (h : sm_H) (m : Option gm_S) (w : Option mi_V) (h' : sm_H) : Prop := w = none ∧ ab_Sh sx_sk h' ∧ ab_Fr wr_L h h' ∧ ((m = none ∧ (mi_f h' 14044 = 1 ∨ 0 ≤ mi_f h' 14034)) ∨ (mi_f h' 14044 = 0 ∧ mi_f h' 14034 < 0 ∧ ∃ t, m = some t ∧ px_R h' (wk_stk h, t)))
section PX2
variable {h : sm_H} {d : Nat} {zu : Int} {s : gm_S}
theorem px_nx {h h' : sm_H} {r : List wk_E} {s : gm_S} (hR : px_R h (r, s)) (hF : ab_Fr [(14033, 14034)] h h') (hS : ab_Sh sx_sk h) (e : mi_f h' 14033 = mi_f h 14033 + 1) : px_R h' (r, pm_nx s) := by
  obtain ⟨r1, r2, r3, r4, r5, r6⟩ := hR
  dsimp only at r1 r2 r3 r4 r5 r6
  obtain ⟨n1, n2, n3, n4⟩ := pm_nx_e (s := s)
  unfold px_R gm_len
  dsimp only
  rw [n1, n2, n3, n4]
  refine ⟨gx_T_fr r1 hF hS rfl, by omega, (me_f (c := 14031) hF hS rfl rfl).trans r3, (me_f (c := 14030) hF hS rfl rfl).trans r4, gx_P_fr hF hS rfl _ r5, fun x hx x5 => ?_⟩
  obtain ⟨a1, a2, a3⟩ := r6 x hx x5
  exact ⟨a1, a2, (me_a (k := 160) hF hS rfl rfl).trans a3⟩
theorem me_matchp (hi : px_in h s) (hu0 : 0 ≤ zu) (hu1 : zu < 60) (hs : mi_a h 119 zu.toNat = 1 ∨ mi_a h 119 zu.toNat = 2 ∨ mi_a h 119 zu.toNat = 8) (hl : mi_a h 119 zu.toNat = 8 → 0 ≤ mi_a h 120 zu.toNat ∧ mi_a h 120 zu.toNat < 20) (hW : px_W h zu) : me_E (d + 1) 214 0 [some (.inr (.inr 109)), some (.inl zu), none] [] h (plk_Q h (pm_lf (px_E h) (mi_a h 119 zu.toNat) (mi_a h 120 zu.toNat) s)) := by
  obtain ⟨hS, hm, hp, hw, -, -, -, -, hR, ht, hV, -, -⟩ := hi
  have ok : mi_in zu := ⟨by omega, by omega⟩
  obtain ⟨n0, n1, n2⟩ := ht rfl
  have b11 := me_fb (c := 14011) hS rfl
  have hidx : (mi_f h 14033).toNat < 161 := by omega
  have bk := me_ab (k := 152) (i := (mi_f h 14033).toNat) hS rfl (by decide) hidx
  have bf := me_ab (k := 153) (i := (mi_f h 14033).toNat) hS rfl (by decide) hidx
  have eF : mi_f h 14033 = gm_F s := hR.2.1
  have eK : pm_K (px_E h) s = mi_a h 152 (mi_f h 14033).toNat := by
    show mi_a h 152 (gm_F s).toNat = _
    rw [eF]
  have eV : pm_V (px_E h) s = (mx_b h 154 (mi_f h 14033).toNat).toInt := by
    show (mx_b h 154 (gm_F s).toNat).toInt = _
    rw [eF]
  have hne : mi_a h 152 (mi_f h 14033).toNat ≠ 0 → mi_f h 14033 < mi_f h 14011 := by
    intro e
    rcases Int.lt_or_eq_of_le n1 with e1 | e1
    · exact e1
    · rw [← e1] at n2
      exact absurd n2 e
  have bad : ∀ h1, pm_lf (px_E h) (mi_a h 119 zu.toNat) (mi_a h 120 zu.toNat) s = none → ab_Sh sx_sk h1 → mi_f h1 14034 = mi_a h 153 (Int.toNat (mi_f h 14033)) → ab_Fr [(14034, 14035)] h h1 → plk_Q h (pm_lf (px_E h) (mi_a h 119 zu.toNat) (mi_a h 120 zu.toNat) s) none h1 := fun h1 e g1 g2 g3 => ⟨rfl, g1, g3.wide (fun c hc => ab_swr_ok (by decide) hc), Or.inl ⟨e, Or.inr (by rw [g2]; exact bf.1)⟩⟩
  -- behind the node
  have node : ∀ (kd v : Int) (h2 h3 : sm_H), pm_lf (px_E h) (mi_a h 119 zu.toNat) (mi_a h 120 zu.toNat) s = (gm_c kd v s).map pm_nx → ab_Sh sx_sk h2 → ab_Fr [(14016, 14017), (14044, 14045), (20224, 20225), (20352, 20353), (20480, 20481), (20864, 20865)] h h2 → ((gm_c kd v s = none ∧ mi_f h2 14044 = 1) ∨ (mi_f h2 14044 = 0 ∧ ∃ t, gm_c kd v s = some t ∧ px_R h2 (wk_stk h, t))) → ab_Sh sx_sk h3 → mi_f h3 14033 = mi_f h2 14033 + 1 → ab_Fr [(14033, 14034)] h2 h3 → plk_Q h (pm_lf (px_E h) (mi_a h 119 zu.toNat) (mi_a h 120 zu.toNat) s) none h3 := by
    intro kd v h2 h3 el q1 q2 q3 r1 r2 r3
    have e44 : mi_f h3 14044 = mi_f h2 14044 := me_f (c := 14044) r3 q1 rfl rfl
    have e34 : mi_f h3 14034 = mi_f h 14034 := (me_f (c := 14034) r3 q1 rfl rfl).trans (me_f (c := 14034) q2 hS rfl rfl)
    refine ⟨rfl, r1, (q2.wide (fun c hc => ab_swr_ok (by decide) hc)).trans (r3.wide (fun c hc => ab_swr_ok (by decide) hc)), ?_⟩
    rw [el]
    rcases q3 with ⟨e1, e2⟩ | ⟨e1, t, e2, e3⟩
    · exact Or.inl ⟨by rw [e1]; rfl, Or.inl (e44.trans e2)⟩
    · exact Or.inr ⟨e44.trans e1, by omega, pm_nx t, by rw [e2]; rfl, px_nx e3 r3 q1 r2⟩
  refine mt_maA hS ok ?_ ?_ ?_ ?_ ?_ ?_ ?_ ?_
  · intro b c1 c2 c3 c4
    exfalso; omega
  · intro b c1 c2 c3 c4
    refine ⟨by omega, fun h1 g1 g2 => ?_⟩
    have e1 := me_nil g2
    subst e1
    refine ⟨_, me_comesp (d := d) g1 hm ⟨by decide, by decide⟩ hR, ?_⟩
    intro w h2 hwk hq
    obtain ⟨q1, q2, ⟨z, rfl⟩, q3⟩ := hq
    have e33 : mi_f h2 14033 = mi_f h1 14033 := me_f (c := 14033) q2 g1 rfl rfl
    refine mt_maC q1 ok (mi_inT _ : mi_in (mi_a h1 119 zu.toNat)) (hwk _ rfl) ?_
    intro b2
    refine ⟨by omega, fun h3 r1 r2 r3 => node 3 _ h2 h3 ?_ q1 q2 (q3.imp id (fun x => ⟨x.1, x.2.2.2⟩)) r1 r2 r3⟩
    unfold pm_lf
    rw [if_neg c3, if_pos c4, if_pos (by rw [eK]; omega), eV]
  · intro b c1 c2 c3
    refine ⟨by omega, fun h1 g1 g2 => ?_⟩
    have e1 := me_nil g2
    subst e1
    refine ⟨_, me_comesp (d := d) g1 hm ⟨by decide, by decide⟩ hR, ?_⟩
    intro w h2 hwk hq
    obtain ⟨q1, q2, ⟨z, rfl⟩, q3⟩ := hq
    have e33 : mi_f h2 14033 = mi_f h1 14033 := me_f (c := 14033) q2 g1 rfl rfl
    have e119 : mi_a h2 119 zu.toNat = mi_a h1 119 zu.toNat := me_a (k := 119) q2 g1 rfl rfl
    refine mt_maB q1 ok (mi_inT _ : mi_in (mi_a h1 119 zu.toNat)) (hwk _ rfl) ?_ ?_
    · intro b2 c4
      refine ⟨by omega, fun h3 r1 r2 r3 => node 2 _ h2 h3 ?_ q1 q2 (q3.imp id (fun x => ⟨x.1, x.2.2.2⟩)) r1 r2 r3⟩
      unfold pm_lf
      rw [if_pos c3, if_pos (by rw [eK]; omega), eV]
      have hlt := hne (by omega)
      obtain ⟨v0, v1⟩ := hV (mi_f h1 14033).toNat (by omega)
      obtain ⟨w0, w1⟩ := hW c3
      have ow : mi_in (mi_a h1 120 zu.toNat) := mi_inT _
      have ew : ((Int32.ofInt (mi_a h1 120 zu.toNat)).toInt64).toInt = mi_a h1 120 zu.toNat := by rw [Int32.toInt_toInt64, mi_ti ow]
      have ex : (mx_b h1 154 (mi_f h1 14033).toNat + (Int32.ofInt (mi_a h1 120 zu.toNat)).toInt64).toInt = (mx_b h1 154 (mi_f h1 14033).toNat).toInt + mi_a h1 120 zu.toNat := by
        rw [Int64.toInt_add, ew]
        exact Int.bmod_eq_of_le (by omega) (by omega)
      have e10 : (Int64.ofNat 10000).toInt = 10000 := by decide
      rw [px_mod (by rw [ex]; omega) (by rw [ex]; omega) (by rw [e10]; decide), ex, e10]
    · intro b2 c4
      exfalso; omega
  · intro b c1 c2
    refine ⟨by omega, fun h1 g1 g2 g3 => bad h1 ?_ g1 g2 g3⟩
    unfold pm_lf
    rcases hs with e | e | e
    · rw [if_pos e, if_neg (by rw [eK]; omega)]
    · rw [if_neg (by omega), if_pos e, if_neg (by rw [eK]; omega)]
    · exact absurd e c1
  · intro b c1 c2 c3 c4
    have hl := hl c1
    refine ⟨by omega, fun h1 g1 g2 g3 => ⟨rfl, g1, g3.wide (fun c hc => ab_swr_ok (by decide) hc), Or.inr ⟨(me_f (c := 14044) g3 hS rfl rfl).trans hp, by rw [me_f (c := 14034) g3 hS rfl rfl]; exact hw, pm_nx s, ?_, px_nx hR g3 hS g2⟩⟩⟩
    unfold pm_lf
    rw [if_neg c3, if_neg c4, if_pos c1, if_pos ⟨hl.1, by rw [eK]; omega⟩]
  · intro b c1 c2 c3 c4
    exfalso; omega
  · intro b c1 c2 c3
    exfalso; omega
  · intro b c1 c2
    have hl := hl c1
    refine ⟨by omega, fun h1 g1 g2 g3 => bad h1 ?_ g1 g2 g3⟩
    unfold pm_lf
    rw [if_neg (by omega), if_neg (by omega), if_pos c1, if_neg (fun q => by rw [eK] at q; omega)]
theorem px_of_pl {h' : sm_H} {m : Option gm_S} (hi : px_in h s) (hq : plk_Q h m none h') : pxm_Q h (m.map (fun t => (wk_stk h, t))) none h' := by
  obtain ⟨-, q1, q2, q5⟩ := hq
  have i1 := hi.1
  have i5 := hi.2.2.2.2.2.1
  refine ⟨rfl, q1, q2.wide (fun c hc => ab_swr_ok (by decide) hc), ?_⟩
  rcases q5 with ⟨e1, e2⟩ | ⟨e1, e4, t, e2, e3⟩
  · exact Or.inl ⟨by rw [e1]; rfl, e2⟩
  · exact Or.inr ⟨e1, e4, (wk_stk h, t), by rw [e2]; rfl, wk_stk_fr q2 i1 rfl, e3, (me_f (c := 14032) q2 i1 rfl rfl).trans i5⟩
theorem pm_sg_lf {l : Int} {g : wk_g} {E : pm_E} {u : Int} {r : List wk_E} (n9 : g 119 u.toNat ≠ 9) (n10 : g 119 u.toNat ≠ 10) : pm_sg l g E u r s = (pm_lf E (g 119 u.toNat) (g 120 u.toNat) s).map (fun t => (r, t)) := by
  unfold pm_sg
  rw [if_neg n9, if_neg n10]
theorem pm_lf_o {E : pm_E} {o w : Int} (n1 : o ≠ 1) (n2 : o ≠ 2) (n8 : o ≠ 8) : pm_lf E o w s = some s := by
  unfold pm_lf
  rw [if_neg n1, if_neg n2, if_neg n8]
theorem sp_match (hi : px_in h s) (hu : wk_us h zu) (hW : px_W h zu) (hs : mi_a h 119 zu.toNat = 1 ∨ mi_a h 119 zu.toNat = 2 ∨ mi_a h 119 zu.toNat = 8) : ∃ Q1, me_E (d + 4) 214 0 [some (.inr (.inr 109)), some (.inl zu), none] [] h Q1 ∧ ∀ w h', (∀ x, w = some x → mi_ok x) → Q1 w h' → me_E (d + 5) 213 105 [some (.inr (.inr 109)), some (.inl zu)] (mi_back w []) h' (pxm_Q h (pm_sg 0 (mi_a h) (px_E h) zu (wk_stk h) s)) := by
  have hu0 := hu.1
  have hu1 := hu.2.1
  have ok : mi_in zu := ⟨by omega, by omega⟩
  refine ⟨_, me_matchp (d := d + 3) hi hu0 hu1 hs hu.2.2.2 hW, ?_⟩
  intro w h' hw hq
  have e := hq.1
  subst e
  have q1 := hq.2.1
  refine mt_sr105 q1 ok ?_
  intro h3 r1 r2
  have e3 := me_nil r2
  subst e3
  rw [pm_sg_lf (by omega) (by omega)]
  exact px_of_pl hi hq
theorem sp_lay (hi : px_in h s) (hu : wk_us h zu) (n1 : mi_a h 119 zu.toNat ≠ 1) (n2 : mi_a h 119 zu.toNat ≠ 2) (n8 : mi_a h 119 zu.toNat ≠ 8) (n9 : mi_a h 119 zu.toNat ≠ 9) (n10 : mi_a h 119 zu.toNat ≠ 10) : ∃ Q1, me_E (d + 4) 222 0 [some (.inr (.inr 109)), some (.inl (mi_a h 119 zu.toNat))] [] h Q1 ∧ ∀ w h', (∀ x, w = some x → mi_ok x) → Q1 w h' → me_E (d + 5) 213 142 [some (.inr (.inr 109)), some (.inl zu)] (mi_back w []) h' (pxm_Q h (pm_sg 0 (mi_a h) (px_E h) zu (wk_stk h) s)) := by
  have ok : mi_in zu := ⟨by have := hu.1; omega, by have := hu.2.1; omega⟩
  obtain ⟨i1, i2, i3, i4, i5, i6, i7, i8, i9, -⟩ := hi
  refine ⟨_, me_lay i1 (mi_inT _), ?_⟩
  intro w h' hw hq
  obtain ⟨rfl, q1, q2⟩ := hq
  refine mt_sr142 q1 ok ?_
  intro h3 r1 r2
  have e3 := me_nil r2
  subst e3
  rw [pm_sg_lf n9 n10, pm_lf_o n1 n2 n8]
  exact ⟨rfl, q1, q2.wide (fun c hc => ab_swr_ok (by decide) hc), Or.inr ⟨(me_f (c := 14044) q2 i1 rfl rfl).trans i3, by rw [me_f (c := 14034) q2 i1 rfl rfl]; exact i4, (wk_stk h, s), rfl, wk_stk_fr q2 i1 rfl, px_R_fr i9 q2 i1 rfl rfl rfl rfl rfl, (me_f (c := 14032) q2 i1 rfl rfl).trans i6⟩⟩
theorem sp_enter (hi : px_in h s) (hu : wk_us h zu) (ht : mi_f h 14029 ≤ 2990) (h9 : mi_a h 119 zu.toNat = 9) : ∃ Q1, me_E (d + 4) 207 0 [some (.inr (.inr 109)), some (.inl (mi_a h 115 (mi_a h 120 zu.toNat).toNat))] [] h Q1 ∧ ∀ w h', (∀ x, w = some x → mi_ok x) → Q1 w h' → me_E (d + 5) 213 75 [some (.inr (.inr 109)), some (.inl zu)] (mi_back w []) h' (pxm_Q h (pm_sg 0 (mi_a h) (px_E h) zu (wk_stk h) s)) := by
  have ok : mi_in zu := ⟨by have := hu.1; omega, by have := hu.2.1; omega⟩
  obtain ⟨i1, i2, i3, i4, i5, i6, i7, i8, i9, i10, i11, i12, i13⟩ := hi
  obtain ⟨u1, u2, u3, u4⟩ := hu.2.2.1 h9
  refine ⟨_, me_enterp (d := d + 2) (s := s) i1 i2 i4 i5 ht i6 i8 i7 u3 u4 i9 i12 (by omega), ?_⟩
  intro w h' hw hq
  have e := hq.1
  subst e
  have q1 := hq.2.1
  refine mt_sr75 q1 ok ?_
  intro h3 r1 r2
  have e3 := me_nil r2
  subst e3
  have e : pm_sg 0 (mi_a h) (px_E h) zu (wk_stk h) s = pm_en 0 (mi_a h) (mi_a h 115 (mi_a h 120 zu.toNat).toNat) (wk_stk h) s := by
    unfold pm_sg
    rw [if_pos h9]
  rw [e]
  exact hq
theorem me_singlep (hi : px_in h s) (hu : wk_us h zu) (hW : px_W h zu) (ht : mi_f h 14029 ≤ 2990) : me_E (d + 5) 213 0 [some (.inr (.inr 109)), some (.inl zu)] [] h (pxm_Q h (pm_sg 0 (mi_a h) (px_E h) zu (wk_stk h) s)) := by
  obtain ⟨i1, i2, i3, i4, i5, i6, i7, i8, i9, i10, i11, i12, i13⟩ := id hi
  have hu0 := hu.1
  have hu1 := hu.2.1
  have ok : mi_in zu := ⟨by omega, by omega⟩
  refine mt_sg i1 ok ?_ ?_ ?_ ?_ ?_ ?_ ?_ ?_ ?_ ?_ ?_ ?_ ?_ ?_ ?_ ?_ ?_
  · intro b c1 c2 c3
    exact absurd i2 c2
  · intro b c1 c2 c3
    exact absurd i2 c2
  · intro b c1 c2
    refine ⟨by omega, fun h1 g1 g2 => ?_⟩
    have e3 := me_nil g2
    subst e3
    exact sp_match hi hu hW (by omega)
  · intro b c1 c2 c3
    exact absurd i2 c2
  · intro b c1 c2 c3
    exact absurd i2 c2
  · intro b c1 c2
    refine ⟨by omega, fun h1 g1 g2 => ?_⟩
    have e3 := me_nil g2
    subst e3
    exact sp_match hi hu hW (by omega)
  · intro c1
    refine ⟨by omega, fun h1 g1 g2 => ?_⟩
    have e3 := me_nil g2
    subst e3
    exact sp_lay hi hu (by omega) (by omega) (by omega) (by omega) (by omega)
  · intro c1
    refine ⟨by omega, fun h1 g1 g2 => ?_⟩
    have e3 := me_nil g2
    subst e3
    exact sp_lay hi hu (by omega) (by omega) (by omega) (by omega) (by omega)
  · intro c1
    refine ⟨by omega, fun h1 g1 g2 => ?_⟩
    have e3 := me_nil g2
    subst e3
    exact sp_lay hi hu (by omega) (by omega) (by omega) (by omega) (by omega)
  · intro c1
    refine ⟨by omega, fun h1 g1 g2 => ?_⟩
    have e3 := me_nil g2
    subst e3
    exact sp_lay hi hu (by omega) (by omega) (by omega) (by omega) (by omega)
  · intro c1
    refine ⟨by omega, fun h1 g1 g2 => ?_⟩
    have e3 := me_nil g2
    subst e3
    exact sp_lay hi hu (by omega) (by omega) (by omega) (by omega) (by omega)
  · intro b c1 c2 c3
    exact absurd i2 c2
  · intro b c1 c2 c3
    exact absurd i2 c2
  · intro b c1 c2
    refine ⟨by omega, fun h1 g1 g2 => ?_⟩
    have e3 := me_nil g2
    subst e3
    exact sp_match hi hu hW (by omega)
  · intro c1
    have u := hu.2.2.1 (by omega)
    refine ⟨by omega, fun h1 g1 g2 => ?_⟩
    have e3 := me_nil g2
    subst e3
    exact sp_enter hi hu ht (by omega)
  · intro b c1
    refine ⟨by omega, fun h1 g1 g2 a5 a6 a7 g3 => ?_⟩
    have h10 : mi_a h 119 zu.toNat = 10 := by omega
    have n9 : ¬ mi_a h 119 zu.toNat = 9 := by omega
    have est := wk_push1 i5 g2 a5 a6 a7
    have e : pm_sg 0 (mi_a h) (px_E h) zu (wk_stk h) s = some ((1, mi_a h 120 zu.toNat, 0) :: wk_stk h, s) := by
      unfold pm_sg
      rw [if_neg n9, if_pos h10]
    rw [e]
    refine ⟨rfl, g1, g3.wide (fun c hc => ab_swr_ok (by decide) hc), Or.inr ⟨(me_f (c := 14044) g3 i1 rfl rfl).trans i3, by rw [me_f (c := 14034) g3 i1 rfl rfl]; exact i4, ((1, mi_a h 120 zu.toNat, 0) :: wk_stk h, s), rfl, est, px_R_st (px_R_fr i9 g3 i1 rfl rfl rfl rfl rfl) (fun x hx x5 => ?_), ?_⟩⟩
    · rcases List.mem_cons.mp hx with rfl | hx
      · exact absurd x5 (show ¬ (1 : Int) = 5 by decide)
      · exact hx
    · rw [me_f (c := 14032) g3 i1 rfl rfl, i6]
      exact (wk_ul_c (by decide)).symm
  · intro c1
    refine ⟨by omega, fun h1 g1 g2 => ?_⟩
    have e3 := me_nil g2
    subst e3
    exact sp_lay hi hu (by omega) (by omega) (by omega) (by omega) (by omega)
end PX2
/-! again, unit of the reference, in parsing, exactly -/
theorem pm_up_get : ∀ (a : Nat) (T : List (Int × Int × Int)) (k : Nat), (pm_up a T)[k]? = if k = a then (T[k]?).map (fun x => (x.1, x.2.1 + 1, x.2.2)) else T[k]? := by
  intro a
  induction a with
  | zero =>
    intro T k
    cases T with
    | nil =>
      show ([] : List (Int × Int × Int))[k]? = _
      split <;> rfl
    | cons x q =>
      cases k with
      | zero => rfl
      | succ k => rfl
  | succ a ih =>
    intro T k
    cases T with
    | nil =>
      show ([] : List (Int × Int × Int))[k]? = _
      split <;> rfl
    | cons x q =>
      cases k with
      | zero => rfl
      | succ k =>
        show (pm_up a q)[k]? = if k + 1 = a + 1 then (q[k]?).map _ else q[k]?
        rw [ih]
        by_cases c : k = a
        · rw [if_pos c, if_pos (by omega)]
        · rw [if_neg c, if_neg (by omega)]
def px_we (wr : List (Nat × Nat)) : Bool := ab_in wr 19456 || ab_in wr 19712 || ab_in wr 17152 || ab_in wr 17280 || ab_in wr 16896 || ab_in wr 17664
theorem px_E_fr {h h' : sm_H} {wr : List (Nat × Nat)} (hF : ab_Fr wr h h') (hS : ab_Sh sx_sk h) (hw : px_we wr = false) : px_E h' = px_E h := by
  unfold px_we at hw
  simp only [Bool.or_eq_false_iff] at hw
  obtain ⟨⟨⟨⟨⟨w1, w2⟩, w3⟩, w4⟩, w5⟩, w6⟩ := hw
  have e1 : ∀ i, mi_a h' 152 i = mi_a h 152 i := fun i => me_a (k := 152) hF hS rfl w1
  have e2 : ∀ i, mx_b h' 154 i = mx_b h 154 i := fun i => me_b (k := 154) hF hS rfl w2
  have e3 : ∀ i, mx_b h' 134 i = mx_b h 134 i := fun i => me_b (k := 134) hF hS rfl w3
  have e4 : ∀ i, mx_b h' 135 i = mx_b h 135 i := fun i => me_b (k := 135) hF hS rfl w4
  have e5 : ∀ i, mi_a h' 132 i = mi_a h 132 i := fun i => me_a (k := 132) hF hS rfl w5
  have e6 : ∀ i, mx_b h' 138 i = mx_b h 138 i := fun i => me_b (k := 138) hF hS rfl w6
  unfold px_E
  simp only [e1, e2, e3, e4, e5, e6]
theorem px_V_fr {h h' : sm_H} {wr : List (Nat × Nat)} (hV : px_V h) (hF : ab_Fr wr h h') (hS : ab_Sh sx_sk h) (w1 : ab_in wr 14011 = false) (w2 : ab_in wr 19712 = false) : px_V h' := by
  intro i hi
  rw [me_f (c := 14011) hF hS rfl w1] at hi
  rw [me_b (k := 154) hF hS rfl w2]
  exact hV i hi
theorem px_tok_fr {h h' : sm_H} {wr : List (Nat × Nat)} (ht : wk_tok 0 h) (hF : ab_Fr wr h h') (hS : ab_Sh sx_sk h) (w1 : ab_in wr 14011 = false) (w2 : ab_in wr 19456 = false) (w3 : ab_in wr 14033 = false) : wk_tok 0 h' := fun _ => by
  rw [me_f (c := 14033) hF hS rfl w3, me_f (c := 14011) hF hS rfl w1, me_a (k := 152) hF hS rfl w2]
  exact ht rfl
theorem pm_en_g {l : Int} {s : gm_S} {g g' : wk_g} (hg : wk_gc g g') {i : Int} {r : List wk_E} : pm_en l g' i r s = pm_en l g i r s := by
  unfold pm_en
  rw [hg 114 (by decide)]
theorem pm_sg_g {l : Int} {s : gm_S} {g g' : wk_g} (hg : wk_gc g g') {E : pm_E} {u : Int} {r : List wk_E} : pm_sg l g' E u r s = pm_sg l g E u r s := by
  unfold pm_sg
  rw [hg 119 (by decide), hg 120 (by decide), hg 115 (by decide), pm_en_g hg]
theorem px_W_g {h h' : sm_H} {u : Int} (hg : wk_gc (mi_a h) (mi_a h')) (hW : px_W h u) : px_W h' u := by
  unfold px_W
  rw [hg 119 (by decide), hg 120 (by decide)]
  exact hW
section PX3
variable {h : sm_H} {d : Nat} {zu zo za : Int} {s : gm_S}
theorem px_Q_fr {h1 h' : sm_H} {m : Option gm_C} {w : Option mi_V} (hF : ab_Fr wr_W1 h h1) (hq : pxm_Q h1 m w h') : pxm_Q h m w h' := by
  obtain ⟨q0, q1, q2, q3⟩ := hq
  exact ⟨q0, q1, hF.trans q2, q3⟩
theorem gx_T_up {h h' : sm_H} {T : List (Int × Int × Int)} {a : Nat} (hT : gx_T h T) (ha : a < T.length) (ho : mi_a h 160 a = (a : Int)) (hv0 : 0 ≤ (mx_b h 163 a).toInt) (hv1 : (mx_b h 163 a).toInt ≤ 1000000) (e16 : mi_f h' 14016 = mi_f h 14016) (e158 : ∀ i, mi_a h' 158 i = mi_a h 158 i) (e159 : ∀ i, mi_a h' 159 i = mi_a h 159 i) (e160 : ∀ i, mi_a h' 160 i = mi_a h 160 i) (e163 : ∀ i, mx_b h' 163 i = if i = a then mx_b h 163 a + Int64.ofNat 1 else mx_b h 163 i) : gx_T h' (pm_up a T) := by
  obtain ⟨t1, t2, t3⟩ := hT
  unfold gx_T
  rw [pm_up_len, e16]
  simp only [e158, e159, e160]
  refine ⟨t1, fun k hk => ?_, t3⟩
  obtain ⟨a1, a2, a3⟩ := t2 k hk
  refine ⟨a1, a2, ?_, a3.2⟩
  have a3 := a3.1
  rw [pm_up_get, e163]
  by_cases c : k = a
  · subst c
    have e1 : (Int64.ofNat 1).toInt = 1 := rfl
    have e2 : (mx_b h 163 k + Int64.ofNat 1).toInt = (mx_b h 163 k).toInt + 1 := by
      rw [Int64.toInt_add, e1]
      exact Int.bmod_eq_of_le (by omega) (by omega)
    rw [ho, Int.toNat_natCast] at a3 ⊢
    rw [if_pos rfl, if_pos rfl, a3, e2]
    rfl
  · have n : (mi_a h 160 k).toNat ≠ a := fun e => c (t3 k a hk ha (by omega))
    rw [if_neg c, if_neg n]
    exact a3
theorem me_againp (hi : px_in h s) (hu : wk_us h zu) (hW : px_W h zu) (ht : mi_f h 14029 ≤ 2985) (a0 : 0 ≤ za) (a1 : za < gm_len s) (a2 : mi_a h 160 za.toNat = za) (v0 : 0 ≤ (mx_b h 163 za.toNat).toInt) (v1 : (mx_b h 163 za.toNat).toInt ≤ 1000000) : me_E (d + 6) 227 0 [some (.inr (.inr 109)), some (.inl zu), some (.inl za), none] [] h (pxm_Q h (pm_ag 0 (mi_a h) (px_E h) zu za (wk_stk h) s)) := by
  obtain ⟨i1, i2, i3, i4, i5, i6, i7, i8, i9, i10, i11, i12, i13⟩ := id hi
  have hu0 := hu.1
  have hu1 := hu.2.1
  have ok : mi_in zu := ⟨by omega, by omega⟩
  obtain ⟨r1, r2, r3, r4, r5, r6⟩ := id i9
  dsimp only at r1 r2 r3 r4 r5 r6
  have r16 : mi_f h 14016 = gm_len s := r1.1
  have b16 := me_fb (c := 14016) i1 rfl
  have b11 := me_fb (c := 14011) i1 rfl
  have hza : mi_in za := ⟨by omega, by omega⟩
  obtain ⟨n0, n1, n2⟩ := i10 rfl
  have eK : pm_h (px_E h) zu s = px_bit (mx_b h 134 zu.toNat) (mi_a h 152 (mi_f h 14033).toNat) := by
    show px_bit _ (mi_a h 152 (gm_F s).toNat) = _
    rw [r2]
  refine mt_agA i1 ok hza ?_ ?_ ?_
  · intro b c1 c2
    exact absurd i2 c1
  · intro b1 b2 c1 c2
    exact absurd i2 c1
  · intro b c1
    refine ⟨by omega, fun h1 g1 g2 => ?_⟩
    have e3 := me_nil g2
    subst e3
    refine ⟨_, me_hasx i1 n0 (by omega), ?_⟩
    intro w h3 hw hq
    obtain ⟨rfl, rfl⟩ := hq
    rw [← eK]
    unfold pm_ag
    by_cases ch : pm_h (px_E h3) zu s = true
    · rw [if_pos ch, if_pos ch]
      refine mt_agB i1 ok hza ⟨by decide, by decide⟩ ?_ ?_ ?_
      · intro b1 b2 c2 c3
        exact absurd i2 c3
      · intro b1 b2 c2 c3
        refine ⟨by omega, fun h4 g4 g5 x5 x6 x7 x8 g6 => ?_⟩
        have est := wk_push1 i5 g5 x5 x6 x7
        have hg : wk_gc (mi_a h3) (mi_a h4) := wk_gc_fr g6 i1 rfl
        have hE : px_E h4 = px_E h3 := px_E_fr g6 i1 rfl
        have e32 : mi_f h4 14032 = mi_f h3 14032 := me_f (c := 14032) g6 i1 rfl rfl
        have e34 : mi_f h4 14034 = mi_f h3 14034 := me_f (c := 14034) g6 i1 rfl rfl
        obtain ⟨y1, y2, y3, y4⟩ := pm_inc_e (s := s) (a := za)
        have hR4 : px_R h4 (wk_stk h4, pm_inc za s) := by
          unfold px_R gm_len
          dsimp only
          rw [y1, y2, y3, y4]
          refine ⟨gx_T_up r1 (by unfold gm_len at a1; omega) (by omega) v0 v1 (me_f (c := 14016) g6 i1 rfl rfl) (fun i => me_a (k := 158) g6 i1 rfl rfl) (fun i => me_a (k := 159) g6 i1 rfl rfl) (fun i => me_a (k := 160) g6 i1 rfl rfl) x8, (me_f (c := 14033) g6 i1 rfl rfl).trans r2, (me_f (c := 14031) g6 i1 rfl rfl).trans r3, (me_f (c := 14030) g6 i1 rfl rfl).trans r4, gx_P_fr g6 i1 rfl _ r5, fun x hx x5 => ?_⟩
          rw [pm_up_len, me_a (k := 160) g6 i1 rfl rfl]
          rw [est] at hx
          rcases List.mem_cons.mp hx with rfl | hx
          · exact ⟨a0, a1, a2⟩
          · exact r6 x hx x5
        have hi4 : px_in h4 (pm_inc za s) := ⟨g4, (me_f (c := 14028) g6 i1 rfl rfl).trans i2, (me_f (c := 14044) g6 i1 rfl rfl).trans i3, by omega, by omega, by rw [est, wk_ul_c (by decide), e32]; exact i6, by omega, by omega, hR4, px_tok_fr i10 g6 i1 rfl rfl rfl, px_V_fr i11 g6 i1 rfl rfl, by rw [y3]; exact i12, by rw [y3]; exact i13⟩
        refine ⟨_, me_singlep (d := d) hi4 (wk_us_g hg hu) (px_W_g hg hW) (by omega), ?_⟩
        intro w h5 hw5 hq
        have e := hq.1
        subst e
        refine mt_agC hq.2.1 ok hza ⟨by decide, by decide⟩ ?_
        intro h6 u1 u2
        have e6 := me_nil u2
        subst e6
        rw [pm_sg_g hg, hE, est] at hq
        exact px_Q_fr (g6.wide (fun c hc => ab_swr_ok (by decide) hc)) hq
      · intro c2
        exact absurd c2 (by decide)
    · rw [if_neg ch, if_neg ch]
      refine mt_agB i1 ok hza ⟨by decide, by decide⟩ ?_ ?_ ?_
      · intro b1 b2 c2
        exact absurd rfl c2
      · intro b1 b2 c2
        exact absurd rfl c2
      · intro c2 h4 g4 g5
        have e5 := me_nil g5
        subst e5
        exact ⟨rfl, g4, ab_Fr.refl, Or.inr ⟨i3, i4, (wk_stk h4, s), rfl, rfl, i9, i6⟩⟩
/-- a many -/
theorem un83p (hi : px_in h s) (hu0 : 0 ≤ zu) (hu1 : zu < 60) (ht : mi_f h 14029 ≤ 2985) (oo : mi_in zo) : me_E (d + 6) 210 83 [some (.inr (.inr 109)), some (.inl zu), some (.inl zo), none, none] [.inl 0] h (pxm_Q h ((gm_c 5 0 s).map (fun t => ((5, zu, gm_len s) :: (2, 0, 0) :: wk_stk h, gm_d t)))) := by
  obtain ⟨i1, i2, i3, i4, i5, i6, i7, i8, i9, i10, i11, i12, i13⟩ := hi
  have ok : mi_in zu := ⟨by omega, by omega⟩
  have ez : ((Int32.ofInt (0 : Int)).toInt64).toInt = 0 := by decide
  refine mt_unD i1 ok oo ⟨by decide, by decide⟩ ?_
  intro h2 p1 p2
  have e2 := me_nil p2
  subst e2
  refine ⟨_, me_comesp i1 i2 ⟨by decide, by decide⟩ i9, ?_⟩
  intro w h3 hw3 hq
  obtain ⟨q1, q2, ⟨z, rfl⟩, q3⟩ := hq
  rw [ez] at q3
  have k29 : mi_f h3 14029 = mi_f h2 14029 := me_f (c := 14029) q2 i1 rfl rfl
  have k32 : mi_f h3 14032 = mi_f h2 14032 := me_f (c := 14032) q2 i1 rfl rfl
  have k28 : mi_f h3 14028 = 0 := (me_f (c := 14028) q2 i1 rfl rfl).trans i2
  have kst : wk_stk h3 = wk_stk h2 := wk_stk_fr q2 i1 rfl
  refine mt_unE q1 ok oo ⟨by decide, by decide⟩ (hw3 _ rfl) ?_ ?_
  · intro b1 b2 c1
    exfalso; omega
  · intro b1 b2 c1
    refine ⟨by omega, fun h4 r1 r2 r3 a5 a6 a7 r4 => ?_⟩
    have hF : ab_Fr wr_W1 h2 h4 := (q2.wide (fun c hc => ab_swr_ok (by decide) hc)).trans (r4.wide (fun c hc => ab_swr_ok (by decide) hc))
    have l44 : mi_f h4 14044 = mi_f h3 14044 := me_f (c := 14044) r4 q1 rfl rfl
    have l34 : mi_f h4 14034 = mi_f h2 14034 := (me_f (c := 14034) r4 q1 rfl rfl).trans (me_f (c := 14034) q2 i1 rfl rfl)
    refine ⟨rfl, r1, hF, ?_⟩
    rcases q3 with ⟨e1, e2⟩ | ⟨e1, ew, eo, t, e2, e3⟩
    · exact Or.inl ⟨by rw [e1]; rfl, Or.inl (l44.trans e2)⟩
    · obtain ⟨-, x2, x3, x4, x5⟩ := gm_c_e e2
      injection ew with ew
      injection ew with ew
      subst ew
      have est := wk_push2 (by omega) r2 a5 a6 a7
      rw [kst] at est
      have nn : 0 ≤ gm_len s := by unfold gm_len; omega
      have R := px_R_d e3 r4 q1 rfl rfl rfl rfl (by omega) (by omega) r3
      refine Or.inr ⟨l44.trans e1, by omega, ((5, zu, gm_len s) :: (2, 0, 0) :: wk_stk h2, gm_d t), by rw [e2]; rfl, est, ⟨R.1, R.2.1, R.2.2.1, R.2.2.2.1, R.2.2.2.2.1, fun x hx x5 => ?_⟩, ?_⟩
      · rcases List.mem_cons.mp hx with rfl | hx
        · refine ⟨nn, ?_, ?_⟩
          · show gm_len s < gm_len (gm_d t)
            rw [gm_d_e.1]
            omega
          · show mi_a h4 160 (gm_len s).toNat = gm_len s
            rw [me_a (k := 160) r4 q1 rfl rfl]
            exact eo
        · rcases List.mem_cons.mp hx with rfl | hx
          · exact absurd x5 (show ¬ (2 : Int) = 5 by decide)
          · exact R.2.2.2.2.2 x hx x5
      · rw [me_f (c := 14032) r4 q1 rfl rfl, k32, i6]
        show wk_ul (wk_stk h2) = wk_ul ((5, zu, gm_len s) :: (2, 0, 0) :: wk_stk h2)
        rw [wk_ul_c (by decide), wk_ul_o, Int.zero_add]
/-- a maybe -/
theorem un208p {zn : Int} (hi : px_in h s) (hD9 : gm_D s ≤ 990) (hu : wk_us h zu) (hW : px_W h zu) (ht : mi_f h 14029 ≤ 2985) (oo : mi_in zo) (on : mi_in zn) : me_E (d + 6) 210 208 [some (.inr (.inr 109)), some (.inl zu), some (.inl zo), none, none] [.inl zn] h (pxm_Q h ((gm_c 6 zn s).bind (fun t => if 0 < zn then pm_sg 0 (mi_a h) (px_E h) zu ((2, 0, 0) :: wk_stk h) (gm_d t) else some ((2, 0, 0) :: wk_stk h, gm_d t)))) := by
  obtain ⟨i1, i2, i3, i4, i5, i6, i7, i8, i9, i10, i11, i12, i13⟩ := hi
  have hu0 := hu.1
  have hu1 := hu.2.1
  have ok : mi_in zu := ⟨by omega, by omega⟩
  have ez : ((Int32.ofInt zn).toInt64).toInt = zn := by rw [Int32.toInt_toInt64, mi_ti on]
  refine mt_unH i1 ok oo on ?_
  intro h2 p1 p2
  have e2 := me_nil p2
  subst e2
  refine ⟨_, me_comesp i1 i2 ⟨by decide, by decide⟩ i9, ?_⟩
  intro w h3 hw3 hq
  obtain ⟨q1, q2, ⟨z, rfl⟩, q3⟩ := hq
  rw [ez] at q3
  have k29 : mi_f h3 14029 = mi_f h2 14029 := me_f (c := 14029) q2 i1 rfl rfl
  have k32 : mi_f h3 14032 = mi_f h2 14032 := me_f (c := 14032) q2 i1 rfl rfl
  have k28 : mi_f h3 14028 = 0 := (me_f (c := 14028) q2 i1 rfl rfl).trans i2
  have kst : wk_stk h3 = wk_stk h2 := wk_stk_fr q2 i1 rfl
  have eul : wk_ul ((2, 0, 0) :: wk_stk h2) = wk_ul (wk_stk h2) := by rw [wk_ul_o, Int.zero_add]
  have fr : ∀ h4 : sm_H, ab_Fr [(14029, 14030), (14031, 14032), (21120, 21121), (21248, 21249), (21376, 21377)] h3 h4 → ab_Fr wr_W1 h2 h4 ∧ mi_f h4 14034 = mi_f h2 14034 ∧ mi_f h4 14044 = mi_f h3 14044 ∧ mi_f h4 14032 = mi_f h2 14032 := fun h4 r4 => ⟨(q2.wide (fun c hc => ab_swr_ok (by decide) hc)).trans (r4.wide (fun c hc => ab_swr_ok (by decide) hc)), (me_f (c := 14034) r4 q1 rfl rfl).trans (me_f (c := 14034) q2 i1 rfl rfl), me_f (c := 14044) r4 q1 rfl rfl, (me_f (c := 14032) r4 q1 rfl rfl).trans k32⟩
  have st2 : ∀ x ∈ ((2, 0, 0) :: wk_stk h2 : List wk_E), x.1 = 5 → x ∈ wk_stk h2 := fun x hx x5 => by
    rcases List.mem_cons.mp hx with rfl | hx
    · exact absurd x5 (show ¬ (2 : Int) = 5 by decide)
    · exact hx
  refine mt_unI q1 ok oo on (hw3 _ rfl) ?_ ?_ ?_
  · intro b1 c1
    refine ⟨by omega, fun h4 r1 r2 r3 a5 a6 a7 r4 => ?_⟩
    obtain ⟨f1, f2, f4, f5⟩ := fr h4 r4
    refine ⟨rfl, r1, f1, ?_⟩
    rcases q3 with ⟨e1, e2⟩ | ⟨e1, -, -, t, e2, e3⟩
    · exact Or.inl ⟨by rw [e1]; rfl, Or.inl (f4.trans e2)⟩
    · have eT := (gm_c_t e2).2.2.2.1
      refine Or.inr ⟨f4.trans e1, by omega, ((2, 0, 0) :: wk_stk h2, gm_d t), ?_, ?_, px_R_st (px_R_d e3 r4 q1 rfl rfl rfl rfl (by omega) (by omega) r3) st2, ?_⟩
      · rw [e2, Option.bind_some, if_neg (by omega)]
      · have := wk_push1 (by omega) r2 a5 a6 a7
        rw [kst] at this
        exact this
      · rw [f5, i6]
        exact eul.symm
  · intro b1 b2 c1 c2
    refine ⟨by omega, fun h4 r1 r2 r3 a5 a6 a7 r4 => ?_⟩
    obtain ⟨f1, f2, f4, f5⟩ := fr h4 r4
    rcases q3 with ⟨e1, e2⟩ | ⟨e1, -, -, t, e2, e3⟩
    · exact ⟨rfl, r1, f1, Or.inl ⟨by rw [e1]; rfl, Or.inl (f4.trans e2)⟩⟩
    · exact absurd e1 c2
  · intro b1 b2 c1 c2
    refine ⟨by omega, fun h4 r1 r2 r3 a5 a6 a7 r4 => ?_⟩
    obtain ⟨f1, f2, f4, f5⟩ := fr h4 r4
    rcases q3 with ⟨e1, e2⟩ | ⟨e1, -, -, t, e2, e3⟩
    · exfalso; omega
    · obtain ⟨t1, t2, t3, t4, t5⟩ := gm_c_t e2
      have est := wk_push1 (by omega) r2 a5 a6 a7
      rw [kst] at est
      have hg : wk_gc (mi_a h2) (mi_a h4) := wk_gc_fr f1 i1 rfl
      have hE : px_E h4 = px_E h2 := px_E_fr f1 i1 rfl
      have dD : gm_D (gm_d t) = gm_D t + 1 := by unfold gm_d; rw [gm_D_mk]
      rw [e2, Option.bind_some, if_pos c1]
      have R4 : px_R h4 (wk_stk h4, gm_d t) := by
        rw [est]
        exact px_R_st (px_R_d e3 r4 q1 rfl rfl rfl rfl (by omega) (by omega) r3) st2
      have tk : wk_tok 0 h4 := px_tok_fr (px_tok_fr i10 q2 i1 rfl rfl rfl) r4 q1 rfl rfl rfl
      have hi4 : px_in h4 (gm_d t) := ⟨r1, (me_f (c := 14028) r4 q1 rfl rfl).trans k28, f4.trans e1, by omega, by omega, by rw [est, eul, f5]; exact i6, by omega, by omega, R4, tk, px_V_fr (px_V_fr i11 q2 i1 rfl rfl) r4 q1 rfl rfl, by omega, by omega⟩
      refine ⟨_, me_singlep (d := d) hi4 (wk_us_g hg hu) (px_W_g hg hW) (by omega), ?_⟩
      intro w h5 hw5 hq5
      have e := hq5.1
      subst e
      refine mt_unJ hq5.2.1 ok oo on ?_
      intro h6 u1 u2
      have e6 := me_nil u2
      subst e6
      rw [pm_sg_g hg, hE, est] at hq5
      exact px_Q_fr f1 hq5
theorem un24p (hi : px_in h s) (hD9 : gm_D s ≤ 990) (hu : wk_us h zu) (hW : px_W h zu) (ht : mi_f h 14029 ≤ 2985) (oo : mi_in zo) : me_E (d + 6) 210 24 [some (.inr (.inr 109)), some (.inl zu), some (.inl zo), none, none] [] h (pxm_Q h (pm_u 0 (mi_a h) (px_E h) zu (wk_stk h) s)) := by
  obtain ⟨i1, i2, i3, i4, i5, i6, i7, i8, i9, i10, i11, i12, i13⟩ := id hi
  have hu0 := hu.1
  have hu1 := hu.2.1
  have ok : mi_in zu := ⟨by omega, by omega⟩
  have b11 := me_fb (c := 14011) i1 rfl
  obtain ⟨n0, n1, n2⟩ := i10 rfl
  have r2 : mi_f h 14033 = gm_F s := i9.2.1
  have eK : pm_h (px_E h) zu s = px_bit (mx_b h 134 zu.toNat) (mi_a h 152 (mi_f h 14033).toNat) := by
    show px_bit _ (mi_a h 152 (gm_F s).toNat) = _
    rw [r2]
  refine mt_unB i1 ok oo ?_ ?_ ?_ ?_ ?_ ?_ ?_ ?_ ?_
  · intro c1 c2
    refine ⟨by omega, fun h1 g1 g2 => ?_⟩
    have e3 := me_nil g2
    subst e3
    refine ⟨_, me_singlep (d := d) hi hu hW (by omega), ?_⟩
    intro w h3 hw3 hq
    have e := hq.1
    subst e
    refine mt_unK hq.2.1 ok oo ?_
    intro h6 u1 u2
    have e6 := me_nil u2
    subst e6
    unfold pm_u
    rw [if_neg c1, if_neg c2]
    exact hq
  · intro b c1 c2 c3 c4
    refine ⟨by omega, fun h1 g1 g2 => ?_⟩
    have e3 := me_nil g2
    subst e3
    refine ⟨_, me_hasx i1 n0 (by omega), ?_⟩
    intro w h3 hw3 hq
    obtain ⟨rfl, rfl⟩ := hq
    rw [← eK]
    unfold pm_u
    rw [if_neg c1, if_pos c2]
    by_cases ch : pm_h (px_E h3) zu s = true
    · simp only [if_pos ch]
      refine mt_unG i1 ok oo ⟨by decide, by decide⟩ ?_ ?_
      · intro c
        exact absurd c (by decide)
      · intro c h4 g4 g5
        have e5 := me_nil g5
        subst e5
        have := un208p (d := d) (zo := zo) (zn := 1) hi hD9 hu hW ht oo ⟨by decide, by decide⟩
        simp only [if_pos (show (0 : Int) < 1 by decide)] at this
        exact this
    · simp only [if_neg ch]
      refine mt_unG i1 ok oo ⟨by decide, by decide⟩ ?_ ?_
      · intro c h4 g4 g5
        have e5 := me_nil g5
        subst e5
        have := un208p (d := d) (zo := zo) (zn := 0) hi hD9 hu hW ht oo ⟨by decide, by decide⟩
        simp only [if_neg (show ¬ (0 : Int) < 0 by decide)] at this
        exact this
      · intro c
        exact absurd rfl c
  · intro b1 b2 c1 c2 c3 c4
    exfalso; omega
  · intro b1 b2 c1 c2 c3
    exfalso; omega
  · intro b1 b2 c1 c2 c3
    exfalso; omega
  · intro b1 c1 c2 c3
    refine ⟨by omega, fun h1 g1 g2 => ?_⟩
    have e3 := me_nil g2
    subst e3
    unfold pm_u
    rw [if_pos c1]
    exact un83p hi hu0 hu1 ht oo
  · intro b1 b2 c1 c2 c3
    exfalso; omega
  · intro b1 b2 c1 c2
    exfalso; omega
  · intro b1 b2 c1 c2
    exfalso; omega
/-- with pairs -/
def up_Q (h : sm_H) (m : Option gm_C) (w : Option mi_V) (h' : sm_H) : Prop := w = none ∧ ab_Sh sx_sk h' ∧ ((m = none ∧ (mi_f h' 14044 = 1 ∨ 0 ≤ mi_f h' 14034)) ∨ (mi_f h' 14044 = 0 ∧ mi_f h' 14034 < 0 ∧ ∃ c, m = some c ∧ wk_stk h' = c.1 ∧ px_R h' c ∧ mi_f h' 14032 = wk_ul c.1))
theorem px_Q_u {h0 h' : sm_H} {m : Option gm_C} {w : Option mi_V} (hq : pxm_Q h0 m w h') : up_Q h m w h' := ⟨hq.1, hq.2.1, hq.2.2.2⟩
theorem px_op {h1 : sm_H} {r : List wk_E} (hR : px_R h (r, s)) (hS : ab_Sh sx_sk h) (g2 : mi_f h1 14030 = mi_f h 14030 + 1) (g3 : ∀ i, mi_a h1 168 i = if i = Int.toNat (mi_f h 14030) then mi_f h 14016 else mi_a h 168 i) (g4 : ab_Fr [(14030, 14031), (21504, 21505)] h h1) : px_R h1 (r, gm_op 1 s) := by
  obtain ⟨r1, r2, r3, r4, r5, r6⟩ := hR
  dsimp only at r1 r2 r3 r4 r5 r6
  unfold gm_op
  rw [if_pos rfl]
  unfold px_R gm_len
  dsimp only
  simp only [gm_T_mk, gm_F_mk, gm_D_mk, gm_P_mk]
  refine ⟨gx_T_fr r1 g4 hS rfl, (me_f (c := 14033) g4 hS rfl rfl).trans r2, (me_f (c := 14031) g4 hS rfl rfl).trans r3, by rw [g2, r4]; show _ = (((gm_P s).length + 1 : Nat) : Int); omega, ⟨?_, Or.inl rfl, ?_⟩, fun x hx x5 => ?_⟩
  · rw [g3, if_pos (by omega)]
    exact r1.1
  · refine gx_P_lt (L := (gm_P s).length) (fun i hi => ⟨?_, me_a (k := 169) g4 hS rfl rfl⟩) _ (Nat.le_refl _) r5
    rw [g3, if_neg (by omega)]
  · obtain ⟨a1, a2, a3⟩ := r6 x hx x5
    exact ⟨a1, a2, (me_a (k := 160) g4 hS rfl rfl).trans a3⟩
theorem pm_u_g {l : Int} {g g' : wk_g} {E : pm_E} {u : Int} {r : List wk_E} (hg : wk_gc g g') : pm_u l g' E u r s = pm_u l g E u r s := by
  unfold pm_u
  rw [hg 122 (by decide), pm_sg_g hg]
  simp only [pm_sg_g hg]
theorem me_unitp (hi : px_in h s) (hD9 : gm_D s ≤ 990) (hu : wk_us h zu) (hW : px_W h zu) (ht : mi_f h 14029 ≤ 2985) (hz : zo = 0 ∨ zo = 1) (hp : zo = 1 → 0 ≤ mi_f h 14030 ∧ mi_f h 14030 < 64) : me_E (d + 6) 210 0 [some (.inr (.inr 109)), some (.inl zu), some (.inl zo), none, none] [] h (up_Q h (pm_st (mi_a h) (px_E h) 0 (0, zu, zo) (wk_stk h) s)) := by
  obtain ⟨i1, i2, i3, i4, i5, i6, i7, i8, i9, i10, i11, i12, i13⟩ := id hi
  have hu0 := hu.1
  have hu1 := hu.2.1
  have oo : mi_in zo := ⟨by omega, by omega⟩
  have ou : mi_in zu := ⟨by omega, by omega⟩
  rw [pm_st_0]
  refine mt_unA i1 ou oo ?_ ?_
  · intro c h1 g1 g2
    have e1 := me_nil g2
    subst e1
    have e : gm_op zo s = s := by
      unfold gm_op
      rw [if_neg (by omega)]
    rw [e]
    exact (un24p hi hD9 hu hW ht oo).imp (fun w h' hq => px_Q_u hq)
  · intro b1 b2 c
    have z1 : zo = 1 := by omega
    have hp := hp z1
    refine ⟨by omega, fun h1 g1 g2 g3 g4 => ?_⟩
    rw [z1] at oo ⊢
    have est : wk_stk h1 = wk_stk h := wk_stk_fr g4 i1 rfl
    have e29 : mi_f h1 14029 = mi_f h 14029 := me_f (c := 14029) g4 i1 rfl rfl
    have e32 : mi_f h1 14032 = mi_f h 14032 := me_f (c := 14032) g4 i1 rfl rfl
    have e34 : mi_f h1 14034 = mi_f h 14034 := me_f (c := 14034) g4 i1 rfl rfl
    have hg : wk_gc (mi_a h) (mi_a h1) := wk_gc_fr g4 i1 rfl
    have hE : px_E h1 = px_E h := px_E_fr g4 i1 rfl
    have eD : gm_D (gm_op 1 s) = gm_D s := by unfold gm_op; rw [if_pos rfl, gm_D_mk]
    have hi1 : px_in h1 (gm_op 1 s) := ⟨g1, (me_f (c := 14028) g4 i1 rfl rfl).trans i2, (me_f (c := 14044) g4 i1 rfl rfl).trans i3, by omega, by omega, by rw [est, e32]; exact i6, by omega, by omega, by rw [est]; exact px_op i9 i1 g2 g3 g4, px_tok_fr i10 g4 i1 rfl rfl rfl, px_V_fr i11 g4 i1 rfl rfl, by omega, by omega⟩
    have key := un24p (d := d) (zo := 1) hi1 (by omega) (wk_us_g hg hu) (px_W_g hg hW) (by omega) oo
    rw [hE, est, pm_u_g hg] at key
    exact key.imp (fun w h' hq => px_Q_u hq)
end PX3
/-! choose, swap of the reference, in parsing, exactly -/
theorem pm_it_5 {g : wk_g} : ∀ (n : Nat) (u : Int), ∀ x ∈ wk_it g n u, x.1 ≠ 5 := by
  intro n
  induction n with
  | zero => intro u x hx; cases hx
  | succ n ih =>
    intro u x hx
    unfold wk_it at hx
    by_cases c : u < 0
    · rw [if_pos c] at hx
      cases hx
    · rw [if_neg c] at hx
      by_cases c2 : 0 ≤ g 124 u.toNat
      · rw [if_pos c2] at hx
        rcases List.mem_cons.mp hx with rfl | hx
        · show (0 : Int) ≠ 5
          decide
        rcases List.mem_cons.mp hx with rfl | hx
        · show (3 : Int) ≠ 5
          decide
        rcases List.mem_cons.mp hx with rfl | hx
        · show (0 : Int) ≠ 5
          decide
        rcases List.mem_cons.mp hx with rfl | hx
        · show (4 : Int) ≠ 5
          decide
        exact ih _ x hx
      · rw [if_neg c2] at hx
        rcases List.mem_cons.mp hx with rfl | hx
        · show (0 : Int) ≠ 5
          decide
        exact ih _ x hx
section PX4
variable {h : sm_H} {d : Nat} {zf : Int} {s : gm_S}
theorem me_choosep {U : Int} (hi : px_in h s) (hf0 : 0 ≤ zf) (hf1 : zf < 80) (hf : wk_fa (mi_a h) zf) (hC : wk_C (mi_a h) U) (hfi : ∀ j : Nat, (j : Int) < mi_a h 130 zf.toNat → mi_a h 126 (wk_alt (mi_a h) j (mi_a h 129 zf.toNat)).toNat < 0 ∨ mi_a h 126 (wk_alt (mi_a h) j (mi_a h 129 zf.toNat)).toNat < U) (hlen : ∀ j : Nat, (j : Int) < mi_a h 130 zf.toNat → ((wk_it (mi_a h) 61 (mi_a h 126 (wk_alt (mi_a h) j (mi_a h 129 zf.toNat)).toNat)).length : Int) + mi_f h 14029 + 1 ≤ 2999) : me_E (d + 6) 223 0 [some (.inr (.inr 109)), some (.inl zf), none, none, none, none] [] h (pxm_Q h (pm_fo (mi_a h) (px_E h) zf (wk_stk h) s)) := by
  obtain ⟨i1, i2, i3, i4, i5, i6, i7, i8, i9, i10, i11, i12, i13⟩ := hi
  have of : mi_in zf := ⟨by omega, by omega⟩
  have b11 := me_fb (c := 14011) i1 rfl
  obtain ⟨n0, n1, n2⟩ := i10 rfl
  have n160 : mi_f h 14033 ≤ 160 := by clear hlen hfi; omega
  have eF : mi_f h 14033 = gm_F s := i9.2.1
  have st2 : ∀ {g : wk_g} {n : Nat} {u : Int}, ∀ x ∈ wk_it g n u ++ (2, 0, 0) :: wk_stk h, x.1 = 5 → x ∈ wk_stk h := fun {g n u} x hx x5 => by
    rcases List.mem_append.mp hx with hx | hx
    · exact absurd x5 (pm_it_5 n u x hx)
    · rcases List.mem_cons.mp hx with rfl | hx
      · exact absurd x5 (show ¬ (2 : Int) = 5 by decide)
      · exact hx
  have st1 : ∀ {g : wk_g} {n : Nat} {u : Int}, ∀ x ∈ wk_it g n u ++ wk_stk h, x.1 = 5 → x ∈ wk_stk h := fun {g n u} x hx x5 => by
    rcases List.mem_append.mp hx with hx | hx
    · exact absurd x5 (pm_it_5 n u x hx)
    · exact hx
  -- behind the choice
  have go80 : ∀ j : Nat, (j : Int) < mi_a h 130 zf.toNat → me_E (d + 6) 223 80 [some (.inr (.inr 109)), some (.inl zf), some (.inl (0 : Int)), some (.inl (mi_a h 129 zf.toNat)), none, none] [.inl (j : Int)] h (pxm_Q h ((gm_c 4 (j : Int) s).map (fun t => (wk_it (mi_a h) 61 (mi_a h 126 (wk_alt (mi_a h) j (mi_a h 129 zf.toNat)).toNat) ++ (2, 0, 0) :: wk_stk h, gm_d t)))) := by
    intro j hz1
    have b130 := me_ab (k := 130) (i := zf.toNat) i1 rfl (by decide) (by clear hlen hfi; omega)
    have oz : mi_in (j : Int) := ⟨by clear hlen hfi; omega, by clear hlen hfi; omega⟩
    refine mt_chD i1 of ⟨by decide, by decide⟩ (mi_inT _) oz ?_ ?_
    · intro c h2' r1 r2
      have e2 := me_nil r2
      subst e2
      refine mt_chD2 i1 of oz (mi_inT _) ?_
      intro h3 s1' s2
      have e3 := me_nil s2
      subst e3
      have ez : ((Int32.ofInt (j : Int)).toInt64).toInt = (j : Int) := by rw [Int32.toInt_toInt64, mi_ti oz]
      refine ⟨_, me_comesp (d := d + 5) i1 i2 ⟨by decide, by decide⟩ i9, ?_⟩
      intro w h4 hw hq
      obtain ⟨q1, q2, ⟨z, rfl⟩, q3⟩ := hq
      rw [ez] at q3
      have n29 : mi_f h4 14029 = mi_f h3 14029 := me_f (c := 14029) q2 i1 rfl rfl
      have n32 : mi_f h4 14032 = mi_f h3 14032 := me_f (c := 14032) q2 i1 rfl rfl
      have nst : wk_stk h4 = wk_stk h3 := wk_stk_fr q2 i1 rfl
      have nF : ab_Fr wr_W1 h3 h4 := q2.wide (fun c hc => ab_swr_ok (by decide) hc)
      have hlj := hlen j hz1
      refine mt_chE q1 of oz (mi_inT _) (hw _ rfl) ?_
      intro b1
      refine ⟨by clear hlen hfi; omega, fun h5 t1 t2 t3 a5 a6 a7 t4 => ?_⟩
      have est := wk_push1 (by omega) t2 a5 a6 a7
      rw [nst] at est
      have F5 : ab_Fr wr_W1 h3 h5 := nF.trans (t4.wide (fun c hc => ab_swr_ok (by decide) hc))
      have hg : wk_gc (mi_a h3) (mi_a h5) := wk_gc_fr F5 i1 rfl
      have hC5 : wk_C (mi_a h5) U := by
        refine ⟨hC.1, fun u u0 u1 => ?_⟩
        rw [hg 124 (by decide), hg 125 (by decide), hg 124 (by decide)]
        exact hC.2 u u0 u1
      have hf5 : wk_fa (mi_a h5) zf := by
        unfold wk_fa
        rw [hg 130 (by decide), hg 129 (by decide), wk_alt_g hg]
        refine ⟨hf.1, hf.2.1, fun j hj => ?_⟩
        rw [wk_alt_g hg]
        exact hf.2.2 j hj
      have ea : wk_alt (mi_a h5) j (mi_a h5 129 zf.toNat) = wk_alt (mi_a h3) j (mi_a h3 129 zf.toNat) := by rw [wk_alt_g hg, hg 129 (by decide)]
      have haj := hf.2.2 j hz1
      have hfj := hfi j hz1
      generalize hA : wk_alt (mi_a h3) j (mi_a h3 129 zf.toNat) = A at ea haj hfj hlj
      have key := ch127 (d := d) (Q := pxm_Q h3 ((gm_c 4 (j : Int) s).map (fun t => (wk_it (mi_a h3) 61 (mi_a h3 126 A.toNat) ++ (2, 0, 0) :: wk_stk h3, gm_d t)))) t1 of hf0 hf1 hf5 (j := j) (by rw [hg 130 (by decide)]; exact hz1) (fun zj ozj => by
        rw [ea]
        refine (ch146 (U := U) t1 of oz (fun v hv => by cases hv; exact ozj) hC5 haj.1 haj.2 (by rw [hg 126 (by decide)]; exact hfj) (by clear hlen hfi; omega) (by rw [wk_it_g hg, hg 126 (by decide)]; clear hlen hfi; omega)).imp (fun w h' hq => ?_)
        obtain ⟨p1, p2, p3, p4, p5⟩ := hq
        have F6 : ab_Fr wr_W1 h3 h' := F5.trans (p3.wide (fun c hc => ab_swr_ok (by decide) hc))
        have e44 : mi_f h' 14044 = mi_f h4 14044 := (me_f (c := 14044) p3 t1 rfl rfl).trans (me_f (c := 14044) t4 q1 rfl rfl)
        have e34 : mi_f h' 14034 = mi_f h3 14034 := ((me_f (c := 14034) p3 t1 rfl rfl).trans (me_f (c := 14034) t4 q1 rfl rfl)).trans (me_f (c := 14034) q2 i1 rfl rfl)
        refine ⟨p1, p2, F6, ?_⟩
        rcases q3 with ⟨e1, e2⟩ | ⟨e1, -, -, t, e2, e3⟩
        · exact Or.inl ⟨by rw [e1]; rfl, Or.inl (e44.trans e2)⟩
        · have eT := (gm_c_t e2).2.2.2.1
          refine Or.inr ⟨e44.trans e1, by rw [e34]; exact i4, (wk_it (mi_a h3) 61 (mi_a h3 126 A.toNat) ++ (2, 0, 0) :: wk_stk h3, gm_d t), by rw [e2]; rfl, ?_, px_R_st (px_R_fr (px_R_d e3 t4 q1 rfl rfl rfl rfl (by clear hlen hfi; omega) (by clear hlen hfi; omega) t3) p3 t1 rfl rfl rfl rfl rfl) st2, ?_⟩
          · rw [p5, wk_it_g hg, hg 126 (by decide), est]
          · rw [me_f (c := 14032) p3 t1 rfl rfl, me_f (c := 14032) t4 q1 rfl rfl, n32, i6]
            exact wk_ul_it2.symm) (j + 1) 0 (by clear hlen hfi; omega) (Nat.zero_le _)
      rw [hg 129 (by decide)] at key
      exact key
    · intro b c
      exfalso; clear hlen hfi; omega
  refine mt_chA i1 of ?_ ?_ ?_ ?_ ?_
  · intro c1
    have h1c : (1 : Int) ≤ mi_a h 130 zf.toNat := hf.1
    have h0l : ((0 : Nat) : Int) < mi_a h 130 zf.toNat := by clear hlen hfi; omega
    have hl0 := hlen 0 h0l
    have ha0 := hf.2.2 0 h0l
    have hf0' := hfi 0 h0l
    refine ⟨by clear hlen hfi; omega, fun h1 g1 g2 => ?_⟩
    have e1 := me_nil g2
    subst e1
    unfold pm_fo
    rw [if_neg (by clear hlen hfi; omega)]
    refine (ch146 (U := U) g1 of ⟨by decide, by decide⟩ (fun v hv => by cases hv) hC ha0.1 ha0.2 hf0' i5 (by
      clear hlen hfi
      omega)).imp (fun w h' hq => ?_)
    obtain ⟨p1, p2, p3, p4, p5⟩ := hq
    exact ⟨p1, p2, p3.wide (fun c hc => ab_swr_ok (by decide) hc), Or.inr ⟨(me_f (c := 14044) p3 g1 rfl rfl).trans i3, by rw [me_f (c := 14034) p3 g1 rfl rfl]; exact i4, _, rfl, p5, px_R_st (px_R_fr i9 p3 g1 rfl rfl rfl rfl rfl) st1, by rw [me_f (c := 14032) p3 g1 rfl rfl, i6]; exact wk_ul_it.symm⟩⟩
  · intro b1 b2 c1 c2 c3 c4
    exact absurd i2 c2
  · intro b1 b2 c1 c2 c3 c4
    exact absurd i2 c2
  · intro b1 b2 c1 c2 c3
    exact absurd i2 c2
  · intro b1 c1 c2
    refine ⟨by clear hlen hfi; omega, fun h1 g1 g2 => ?_⟩
    have e1 := me_nil g2
    subst e1
    refine ⟨_, me_directedx (d := d + 4) i1 n0 n160 hf0 hf1 hf eF, ?_⟩
    intro w h3 hw hq
    obtain ⟨rfl, rfl⟩ := hq
    unfold pm_fo
    rw [if_pos c1]
    cases hz : pm_w (mi_a h3) (px_E h3) zf s with
    | none =>
      refine mt_chB i1 of ⟨by decide, by decide⟩ (mi_inT _) ⟨by decide, by decide⟩ ?_
      intro h4 g3 g4
      have e4 := me_nil g4
      subst e4
      refine mt_chD i1 of ⟨by decide, by decide⟩ (mi_inT _) ⟨by decide, by decide⟩ ?_ ?_
      · intro c
        exact absurd c (by decide)
      · intro b c
        have bf := me_ab (k := 153) (i := (mi_f h4 14033).toNat) i1 rfl (by decide) (by clear hlen hfi; omega)
        refine ⟨by clear hlen hfi; omega, fun h5 k1 k2 k3 => ⟨rfl, k1, k3.wide (fun c hc => ab_swr_ok (by decide) hc), Or.inl ⟨rfl, Or.inr (by rw [k2]; exact bf.1)⟩⟩⟩
    | some n =>
      obtain ⟨j, j1, j2, -⟩ := pm_dr_e _ _ _ _ hz
      have ej : n = (j : Int) := by clear hlen hfi; omega
      subst ej
      have b130 := me_ab (k := 130) (i := zf.toNat) i1 rfl (by decide) (by clear hlen hfi; omega)
      refine mt_chB i1 of ⟨by decide, by decide⟩ (mi_inT _) ⟨by show (-2147483648 : Int) ≤ (j : Int); clear hlen hfi; omega, by show (j : Int) ≤ 2147483647; clear hlen hfi; omega⟩ ?_
      intro h4 g3 g4
      have e4 := me_nil g4
      subst e4
      exact go80 j (by clear hlen hfi; omega)
theorem me_swapp {r : List wk_E} {p : Nat × Nat} {q : List (Nat × Nat)} (hS : ab_Sh sx_sk h) (hR : px_R h (r, s)) (hP : gm_P s = p :: q) (hq : q.length < 64) (p0 : p.2 ≠ 0) (p1 : p.1 ≤ p.2) (p2 : p.2 ≤ (gm_T s).length) (hlt : ∀ x ∈ r, x.1 = 5 → x.2.2 < (p.1 : Int)) : me_E d 226 0 [some (.inr (.inr 109)), none, none, none, none] [] h (fun w h' => w = none ∧ ab_Sh sx_sk h' ∧ ab_Fr wr_sw h h' ∧ px_R h' (r, gm_tu s)) := by
  have b16 := me_fb (c := 14016) hS rfl
  obtain ⟨r1, r2, r3, r4, r5, r6⟩ := hR
  dsimp only at r1 r2 r3 r4 r5 r6
  have r16 := r1.1
  rw [hP] at r4 r5
  rw [List.length_cons] at r4
  obtain ⟨a1, a2, a3⟩ := r5
  have a2 := a2.resolve_left p0
  have ei : (mi_f h 14030 - 1).toNat = q.length := by omega
  refine mt_swA hS ?_
  intro b
  rw [ei, a1, a2]
  refine ⟨by omega, fun h1 g1 g2 g3 => ?_⟩
  have e16 : mi_f h1 14016 = mi_f h 14016 := me_f (c := 14016) g3 hS rfl rfl
  refine (sw34x (mi_f h 14016) (by omega) (by omega) (by omega) (by omega) b16.2 200 0 h1 (by omega) (by decide) (by omega) e16 g1 (fun i hi => by omega)).imp (fun w h' hq' => ?_)
  obtain ⟨q1, q2, q3, q4, q5⟩ := hq'
  have e160 : mi_a h1 160 = mi_a h 160 := funext fun i => me_a (k := 160) g3 hS rfl rfl
  rw [e160] at q5
  have F : ab_Fr wr_sw h h' := (g3.wide (fun c hc => ab_swr_ok (by decide) hc)).trans q3
  refine ⟨q1, q2, F, ?_⟩
  have etu : gm_tu s = (gm_X s, gm_F s, gm_rot p.1 p.2 (gm_T s), gm_D s, q) := by
    unfold gm_tu
    rw [hP]
  rw [etu]
  unfold px_R gm_len
  dsimp only
  simp only [gm_T_mk, gm_F_mk, gm_D_mk, gm_P_mk, gm_rot_len]
  refine ⟨gx_T_sw r1 p1 p2 (me_f (c := 14016) F hS rfl rfl) (fun i => me_a (k := 158) F hS rfl rfl) (fun i => me_a (k := 159) F hS rfl rfl) (fun i => me_b (k := 163) F hS rfl rfl) (fun i => ?_), (me_f (c := 14033) F hS rfl rfl).trans r2, (me_f (c := 14031) F hS rfl rfl).trans r3, by rw [q4, g2, r4]; omega, gx_P_fr F hS rfl _ a3, fun x hx x5 => ?_⟩
  · rw [q5, r16]
  · obtain ⟨x1, x2, x3⟩ := r6 x hx x5
    have x4 := hlt x hx x5
    refine ⟨x1, x2, ?_⟩
    rw [q5]
    unfold sw_o
    rw [if_pos (by omega)]
    exact x3
end PX4
/-! the parsing walk purely: what holds of each of its states -/
/-- an open many stands ahead of the pairs that were opened later -/
def pm_al : List wk_E → List Int → Prop
  | [], _ => True
  | e :: r, B => if e.1 = 0 ∧ e.2.2 = 1 then pm_al r (1000 :: B) else if e.1 = 4 then (match B with | [] => True | b :: q => (∀ x ∈ r, x.1 = 5 → x.2.2 < b) ∧ pm_al r q) else pm_al r B
def pm_bg (P : List (Nat × Nat)) : List Int := P.map (fun p => (p.1 : Int))
theorem pm_al_o {r : List wk_E} {B : List Int} {a b c : Int} (h0 : ¬ (a = 0 ∧ c = 1)) (h4 : a ≠ 4) : pm_al ((a, b, c) :: r) B = pm_al r B := by
  rw [pm_al.eq_def]
  dsimp only
  rw [if_neg h0, if_neg h4]
theorem pm_al_1 {r : List wk_E} {B : List Int} {b : Int} : pm_al ((0, b, 1) :: r) B = pm_al r (1000 :: B) := by
  rw [pm_al.eq_def]
  dsimp only
  rw [if_pos ⟨rfl, rfl⟩]
theorem pm_al_4 {r : List wk_E} {q : List Int} {x b c : Int} : pm_al ((4, b, c) :: r) (x :: q) = ((∀ y ∈ r, y.1 = 5 → y.2.2 < x) ∧ pm_al r q) := by
  rw [pm_al.eq_def]
  dsimp only
  rw [if_neg (fun e => absurd (show (4 : Int) = 0 from e.1) (by decide)), if_pos rfl]
theorem pm_al_b {b b' : Int} {B : List Int} : ∀ (r : List wk_E) (C : List Int), (∀ x ∈ r, x.1 = 5 → x.2.2 < b') → pm_al r (C ++ b :: B) → pm_al r (C ++ b' :: B) := by
  intro r
  induction r with
  | nil => intro C _ _; exact trivial
  | cons e r ih =>
    intro C hb h
    obtain ⟨x, y, z⟩ := e
    have hb' : ∀ x ∈ r, x.1 = 5 → x.2.2 < b' := fun x hx => hb x (List.mem_cons_of_mem _ hx)
    by_cases c0 : x = 0 ∧ z = 1
    · obtain ⟨rfl, rfl⟩ := c0
      rw [pm_al_1] at h ⊢
      exact ih (1000 :: C) hb' h
    · by_cases c4 : x = 4
      · subst c4
        cases C with
        | nil =>
          rw [List.nil_append] at h ⊢
          rw [pm_al_4] at h ⊢
          exact ⟨hb', h.2⟩
        | cons k C =>
          rw [List.cons_append] at h ⊢
          rw [pm_al_4] at h ⊢
          exact ⟨h.1, ih C hb' h.2⟩
      · rw [pm_al_o c0 c4] at h ⊢
        exact ih C hb' h
theorem pm_al_it {g : wk_g} {r : List wk_E} {B : List Int} (hr : ∀ x ∈ r, x.1 = 5 → x.2.2 < 1000) : ∀ (n : Nat) (u : Int), pm_al r B → pm_al (wk_it g n u ++ r) B := by
  intro n
  induction n with
  | zero => intro u h; exact h
  | succ n ih =>
    intro u h
    unfold wk_it
    by_cases c : u < 0
    · rw [if_pos c]
      exact h
    · rw [if_neg c]
      by_cases c2 : 0 ≤ g 124 u.toNat
      · rw [if_pos c2]
        show pm_al ((0, u, 1) :: (3, 0, 0) :: (0, g 124 u.toNat, 0) :: (4, 0, 0) :: (wk_it g n (g 125 u.toNat) ++ r)) B
        rw [pm_al_1, pm_al_o (by omega) (by decide), pm_al_o (by omega) (by decide), pm_al_4]
        refine ⟨fun x hx x5 => ?_, ih _ h⟩
        rcases List.mem_append.mp hx with hx | hx
        · exact absurd x5 (pm_it_5 _ _ x hx)
        · exact hr x hx x5
      · rw [if_neg c2]
        show pm_al ((0, u, 0) :: (wk_it g n (g 125 u.toNat) ++ r)) B
        rw [pm_al_o (by omega) (by decide)]
        exact ih _ h
def pm_I (c : gm_C) : Prop := gm_D c.2 = gm_outs c.1 ∧ gm_D c.2 ≤ gm_len c.2 ∧ (1 ≤ gm_len c.2 ∧ gm_len c.2 ≤ 100) ∧ gm_fl c.1 (gm_fg (gm_P c.2)) ∧ pm_al c.1 (pm_bg (gm_P c.2)) ∧ ∀ x ∈ c.1, x.1 = 5 → 0 ≤ x.2.2 ∧ x.2.2 < gm_len c.2
section PMI
variable {g : wk_g} {E : pm_E} {l : Int} {s : gm_S} {r : List wk_E} {c : gm_C}
/-- what stands on the top is no open one and no pair -/
theorem pm_I_c {a b z : Int} (h : pm_I (r, s)) (h2 : a ≠ 2) (h0 : ¬ (a = 0 ∧ z = 1)) (h3 : a ≠ 3) (h4 : a ≠ 4) (h5 : a = 5 → 0 ≤ z ∧ z < gm_len s) : pm_I ((a, b, z) :: r, s) := by
  obtain ⟨j1, j2, j3, j4, j5, j6⟩ := h
  dsimp only at j1 j2 j3 j4 j5 j6
  unfold pm_I
  dsimp only
  rw [gm_outs_o h2, gm_fl_o h0 h3 h4, pm_al_o h0 h4]
  refine ⟨j1, j2, j3, j4, j5, fun x hx x5 => ?_⟩
  rcases List.mem_cons.mp hx with rfl | hx
  · exact h5 x5
  · exact j6 x hx x5
/-- a node, in which others are to stand -/
theorem pm_I_d {k v : Int} {t : gm_S} {w : Int} (h : pm_I (r, s)) (h1 : gm_c k v s = some t) : pm_I ((2, w, 0) :: r, gm_d t) := by
  obtain ⟨j1, j2, j3, j4, j5, j6⟩ := h
  dsimp only at j1 j2 j3 j4 j5 j6
  obtain ⟨a1, a2, a3, a4, a5⟩ := gm_c_e h1
  obtain ⟨d1, d2, d3, d4⟩ := gm_d_e (t := t)
  unfold pm_I
  dsimp only
  rw [gm_outs_2, gm_fl_o (by omega) (by decide) (by decide), pm_al_o (by omega) (by decide), d1, d3, d4, a2, a4, a5]
  refine ⟨by omega, by omega, by omega, j4, j5, fun x hx x5 => ?_⟩
  rcases List.mem_cons.mp hx with rfl | hx
  · exact absurd x5 (show ¬ (2 : Int) = 5 by decide)
  · have := j6 x hx x5
    omega
theorem pm_I_e {t : gm_S} (h : pm_I (r, s)) (h1 : gm_D t = gm_D s) (h2 : gm_P t = gm_P s) (h3 : gm_len s ≤ gm_len t) (h4 : gm_len t ≤ 100) : pm_I (r, t) := by
  obtain ⟨j1, j2, j3, j4, j5, j6⟩ := h
  dsimp only at j1 j2 j3 j4 j5 j6
  unfold pm_I
  dsimp only
  rw [h1, h2]
  refine ⟨j1, by omega, by omega, j4, j5, fun x hx x5 => ?_⟩
  have := j6 x hx x5
  omega
theorem pm_lf_l {o w : Int} {t : gm_S} (h : pm_lf E o w s = some t) (hs : gm_len s ≤ 100) : gm_len t ≤ 100 := by
  have fin : ∀ (k v : Int), (gm_c k v s).map pm_nx = some t → gm_len t ≤ 100 := by
    intro k v h
    obtain ⟨t1, h1, h2⟩ := Option.map_eq_some_iff.mp h
    obtain ⟨a1, a2, -⟩ := gm_c_e h1
    subst h2
    have : gm_len (pm_nx t1) = gm_len t1 := by unfold gm_len; rw [pm_nx_e.2.1]
    omega
  unfold pm_lf at h
  split at h
  · split at h
    · exact fin _ _ h
    · cases h
  · split at h
    · split at h
      · exact fin _ _ h
      · cases h
    · split at h
      · split at h
        · injection h with h
          subst h
          have : gm_len (pm_nx s) = gm_len s := by unfold gm_len; rw [pm_nx_e.2.1]
          omega
        · cases h
      · injection h with h
        subst h
        exact hs
theorem pm_sg_I {u : Int} (hJ : pm_I (r, s)) (h : pm_sg l g E u r s = some c) : pm_I c := by
  unfold pm_sg at h
  by_cases c9 : g 119 u.toNat = 9
  · rw [if_pos c9] at h
    unfold pm_en at h
    by_cases cu : 12 ≤ l + wk_ul r
    · rw [if_pos cu] at h
      cases h
    · rw [if_neg cu] at h
      obtain ⟨t, t1, t2⟩ := Option.map_eq_some_iff.mp h
      subst t2
      exact pm_I_c (pm_I_d hJ t1) (by decide) (by omega) (by decide) (by decide) (fun e => absurd e (by decide))
  rw [if_neg c9] at h
  by_cases c10 : g 119 u.toNat = 10
  · rw [if_pos c10] at h
    injection h with h
    subst h
    exact pm_I_c hJ (by decide) (by omega) (by decide) (by decide) (fun e => absurd e (by decide))
  rw [if_neg c10] at h
  obtain ⟨t, t1, t2⟩ := Option.map_eq_some_iff.mp h
  subst t2
  obtain ⟨q1, q2, q3, -⟩ := pm_lf_e t1
  exact pm_I_e hJ q1 q2 q3 (pm_lf_l t1 hJ.2.2.1.2)
theorem pm_op_I {o u : Int} (h : pm_I ((0, u, o) :: r, s)) : pm_I (r, gm_op o s) := by
  obtain ⟨j1, j2, j3, j4, j5, j6⟩ := h
  dsimp only at j1 j2 j3 j4 j5 j6
  rw [gm_outs_o (by decide)] at j1
  have j7 : ∀ x ∈ r, x.1 = 5 → 0 ≤ x.2.2 ∧ x.2.2 < gm_len s := fun x hx => j6 x (List.mem_cons_of_mem _ hx)
  by_cases c1 : o = 1
  · subst c1
    rw [gm_fl_1] at j4
    rw [pm_al_1] at j5
    have j5 := pm_al_b (b' := gm_len s) r [] (fun x hx x5 => (j7 x hx x5).2) j5
    unfold gm_op pm_I gm_len
    unfold gm_len at j2 j3 j5 j7
    dsimp only
    simp only [if_pos, gm_T_mk, gm_D_mk, gm_P_mk]
    exact ⟨j1, j2, j3, j4, j5, j7⟩
  · rw [gm_fl_o (fun e => c1 e.2) (by decide) (by decide)] at j4
    rw [pm_al_o (fun e => c1 e.2) (by decide)] at j5
    unfold gm_op
    rw [if_neg c1]
    exact ⟨j1, j2, j3, j4, j5, j7⟩
theorem pm_u_I {u : Int} (hJ : pm_I (r, s)) (h : pm_u l g E u r s = some c) : pm_I c := by
  unfold pm_u at h
  by_cases w1 : g 122 u.toNat = 1
  · rw [if_pos w1] at h
    obtain ⟨t, t1, t2⟩ := Option.map_eq_some_iff.mp h
    subst t2
    refine pm_I_c (pm_I_d hJ t1) (by decide) (by omega) (by decide) (by decide) (fun _ => ?_)
    rw [gm_d_e.1, (gm_c_e t1).2.1]
    have := hJ.2.2.1
    dsimp only at this
    omega
  rw [if_neg w1] at h
  by_cases w2 : g 122 u.toNat = 2
  · rw [if_pos w2] at h
    obtain ⟨t, t1, t2⟩ := Option.bind_eq_some_iff.mp h
    by_cases ch : pm_h E u s = true
    · rw [if_pos ch] at t2
      exact pm_sg_I (pm_I_d hJ t1) t2
    · rw [if_neg ch] at t2
      injection t2 with t2
      subst t2
      exact pm_I_d hJ t1
  rw [if_neg w2] at h
  exact pm_sg_I hJ h
theorem pm_I_it {n : Nat} {u : Int} (h : pm_I (r, s)) : pm_I (wk_it g n u ++ r, s) := by
  obtain ⟨j1, j2, j3, j4, j5, j6⟩ := h
  dsimp only at j1 j2 j3 j4 j5 j6
  unfold pm_I
  dsimp only
  rw [gm_outs_a, gm_outs_it, gm_fl_it]
  refine ⟨by omega, j2, j3, j4, pm_al_it (fun x hx x5 => ?_) _ _ j5, fun x hx x5 => ?_⟩
  · have := j6 x hx x5
    omega
  · rcases List.mem_append.mp hx with hx | hx
    · exact absurd x5 (pm_it_5 _ _ x hx)
    · exact j6 x hx x5
theorem pm_fo_I {f : Int} (hJ : pm_I (r, s)) (h : pm_fo g E f r s = some c) : pm_I c := by
  unfold pm_fo at h
  by_cases w1 : 1 < g 130 f.toNat
  · rw [if_pos w1] at h
    obtain ⟨n, -, h⟩ := Option.bind_eq_some_iff.mp h
    obtain ⟨t, t1, t2⟩ := Option.map_eq_some_iff.mp h
    subst t2
    exact pm_I_it (pm_I_d hJ t1)
  · rw [if_neg w1] at h
    injection h with h
    subst h
    exact pm_I_it hJ
theorem pm_I_r {e : wk_E} (h : pm_I (e :: r, s)) (h0 : ¬ (e.1 = 0 ∧ e.2.2 = 1)) (h2 : e.1 ≠ 2) (h3 : e.1 ≠ 3) (h4 : e.1 ≠ 4) : pm_I (r, s) := by
  obtain ⟨a, b, z⟩ := e
  obtain ⟨j1, j2, j3, j4, j5, j6⟩ := h
  dsimp only at j1 j2 j3 j4 j5 j6
  rw [gm_outs_o h2] at j1
  rw [gm_fl_o h0 h3 h4] at j4
  rw [pm_al_o h0 h4] at j5
  exact ⟨j1, j2, j3, j4, j5, fun x hx => j6 x (List.mem_cons_of_mem _ hx)⟩
theorem pm_st_I {e : wk_E} (he : e.1 = 0 ∨ e.1 = 1 ∨ e.1 = 2 ∨ e.1 = 3 ∨ e.1 = 4 ∨ e.1 = 5) (hI : pm_I (e :: r, s)) (h : pm_st g E l e r s = some c) : pm_I c := by
  obtain ⟨a, b, z⟩ := e
  dsimp only at he
  rcases he with rfl | rfl | rfl | rfl | rfl | rfl
  · rw [pm_st_0] at h
    exact pm_u_I (pm_op_I hI) h
  · rw [pm_st_1] at h
    exact pm_fo_I (pm_I_r hI (fun e => absurd (show (1 : Int) = 0 from e.1) (by decide)) (show (1 : Int) ≠ 2 by decide) (show (1 : Int) ≠ 3 by decide) (show (1 : Int) ≠ 4 by decide)) h
  · rw [pm_st_2] at h
    injection h with h
    subst h
    obtain ⟨j1, j2, j3, j4, j5, j6⟩ := hI
    dsimp only at j1 j2 j3 j4 j5 j6
    rw [gm_outs_2] at j1
    rw [gm_fl_o (by omega) (by decide) (by decide)] at j4
    rw [pm_al_o (by omega) (by decide)] at j5
    unfold pm_I gm_len
    dsimp only
    simp only [gm_T_mk, gm_D_mk, gm_P_mk]
    unfold gm_len at j2 j3 j6
    exact ⟨by omega, by omega, j3, j4, j5, fun x hx => j6 x (List.mem_cons_of_mem _ hx)⟩
  · rw [pm_st_3] at h
    injection h with h
    subst h
    obtain ⟨j1, j2, j3, j4, j5, j6⟩ := hI
    dsimp only at j1 j2 j3 j4 j5 j6
    rw [gm_outs_o (by decide)] at j1
    rw [pm_al_o (by omega) (by decide)] at j5
    unfold gm_mid pm_I gm_len
    dsimp only
    simp only [gm_T_mk, gm_D_mk, gm_P_mk]
    unfold gm_len at j2 j3 j6
    refine ⟨j1, j2, j3, ?_, ?_, fun x hx => j6 x (List.mem_cons_of_mem _ hx)⟩
    · cases hP : gm_P s with
      | nil =>
        rw [hP] at j4
        exact absurd j4 gm_fl_30
      | cons p q =>
        rw [hP] at j4
        have j4 : gm_fl ((3, b, z) :: r) (decide (p.2 ≠ 0) :: gm_fg q) := j4
        rw [gm_fl_3] at j4
        have et : decide ((gm_T s).length ≠ 0) = true := decide_eq_true (by omega)
        show gm_fl r (decide ((gm_T s).length ≠ 0) :: gm_fg q)
        rw [et]
        exact j4
    · cases hP : gm_P s with
      | nil => rw [hP] at j5; exact j5
      | cons p q => rw [hP] at j5; exact j5
  · rw [pm_st_4] at h
    injection h with h
    subst h
    obtain ⟨j1, j2, j3, j4, j5, j6⟩ := hI
    dsimp only at j1 j2 j3 j4 j5 j6
    rw [gm_outs_o (by decide)] at j1
    cases hP : gm_P s with
    | nil =>
      rw [hP] at j4
      exact absurd j4 gm_fl_40
    | cons p q =>
      rw [hP] at j4 j5
      have j4 : gm_fl ((4, b, z) :: r) (decide (p.2 ≠ 0) :: gm_fg q) := j4
      have j5 : pm_al ((4, b, z) :: r) ((p.1 : Int) :: pm_bg q) := j5
      rw [gm_fl_4] at j4
      rw [pm_al_4] at j5
      have etu : gm_tu s = (gm_X s, gm_F s, gm_rot p.1 p.2 (gm_T s), gm_D s, q) := by
        unfold gm_tu
        rw [hP]
      rw [etu]
      unfold pm_I gm_len
      dsimp only
      simp only [gm_T_mk, gm_D_mk, gm_P_mk, gm_rot_len]
      unfold gm_len at j2 j3 j6
      exact ⟨j1, j2, j3, j4.2, j5.2, fun x hx => j6 x (List.mem_cons_of_mem _ hx)⟩
  · rw [pm_st_5] at h
    have hJ := pm_I_r hI (fun e => absurd (show (5 : Int) = 0 from e.1) (by decide)) (show (5 : Int) ≠ 2 by decide) (show (5 : Int) ≠ 3 by decide) (show (5 : Int) ≠ 4 by decide)
    unfold pm_ag at h
    by_cases ch : pm_h E b s = true
    · rw [if_pos ch] at h
      obtain ⟨-, -, y3, y4⟩ := pm_inc_e (s := s) (a := z)
      have y2 := pm_inc_len (s := s) (a := z)
      have hJ2 : pm_I (r, pm_inc z s) := pm_I_e hJ y3 y4 (by omega) (by have := hJ.2.2.1.2; dsimp only at this; omega)
      refine pm_sg_I (pm_I_c hJ2 (by decide) (by omega) (by decide) (by decide) (fun _ => ?_)) h
      rw [y2]
      exact hI.2.2.2.2.2 _ (List.mem_cons_self ..) rfl
    · rw [if_neg ch] at h
      injection h with h
      subst h
      exact hJ
end PMI
/-! the parsing walk of the reference, exactly: the loop -/
section PLG
variable {g g' : wk_g} {E : pm_E} {l : Int} {s : gm_S} {r : List wk_E}
theorem pm_dr_g (hg : wk_gc g g') {p : Int → Bool} : ∀ (m : Nat) (a n : Int), pm_dr g' p m a n = pm_dr g p m a n := by
  intro m
  induction m with
  | zero => intro a n; rfl
  | succ m ih => intro a n; rw [pm_dr_s, pm_dr_s, hg 128 (by decide), ih]
theorem pm_fo_g (hg : wk_gc g g') {f : Int} : pm_fo g' E f r s = pm_fo g E f r s := by
  unfold pm_fo pm_w
  simp only [pm_dr_g hg, hg 130 (by decide), hg 129 (by decide), wk_alt_g hg, hg 126 (by decide), wk_it_g hg]
theorem pm_ag_g (hg : wk_gc g g') {u a : Int} : pm_ag l g' E u a r s = pm_ag l g E u a r s := by
  unfold pm_ag
  rw [pm_sg_g hg]
end PLG
theorem pm_SI_pot {g : wk_g} {Y : wk_Y} {Z : wk_P} (hL : wk_L g Y) (hx : pm_x Y) : ∀ (r : List wk_E) (q : Nat) (p l : Int), wk_SI Y Z r q p l → 0 ≤ pm_pot Y r := by
  intro r
  induction r with
  | nil => intro q p l _; exact Int.le_refl _
  | cons e r ih =>
    intro q p l h
    obtain ⟨a, b, c⟩ := e
    have hu : ∀ (x1 x2 x3 x4 : Int), a = 0 → wk_U Y b x1 x2 x3 x4 → 0 ≤ pm_e2 Y (a, b, c) := by
      intro x1 x2 x3 x4 e0 hU
      subst e0
      rw [pm_e_0]
      have := (hL.2.2.1 b hU.1 hU.2.1).1.1
      omega
    have ho : a ≠ 0 → a ≠ 1 → 0 ≤ pm_e2 Y (a, b, c) := by
      intro e0 e1
      rw [pm_e_o e0 e1]
      decide
    show 0 ≤ pm_e2 Y (a, b, c) + pm_pot Y r
    unfold wk_SI at h
    dsimp only at h
    rcases h with ⟨-, h1, -, h3, h4⟩ | ⟨-, h1, -, h3, h4⟩ | ⟨-, h1, -, -, h4⟩ | ⟨-, h1, -, h4⟩ | ⟨-, h1, -, h3, h4⟩ | ⟨-, h1, -, -, h4⟩ | ⟨-, h1, -, h4⟩ | ⟨-, h1, h3, h4⟩ | ⟨-, h1, -, h4⟩ | ⟨-, h1, -, -, -, -, h4⟩
    · have := hu _ _ _ _ h1 h3
      have := ih _ _ _ h4
      omega
    · have := hu _ _ _ _ h1 h3
      have := ih _ _ _ h4
      omega
    · have := ho (by omega) (by omega)
      have := ih _ _ _ h4
      omega
    · have := ho (by omega) (by omega)
      have := ih _ _ _ h4
      omega
    · have := hu _ _ _ _ h1 h3
      have := ih _ _ _ h4
      omega
    · have := ho (by omega) (by omega)
      have := ih _ _ _ h4
      omega
    · have := ho (by omega) (by omega)
      have := ih _ _ _ h4
      omega
    · subst h1
      rw [pm_e_1]
      have := hx b h3.1 h3.2.1
      have := ih _ _ _ h4
      omega
    · have := ho (by omega) (by omega)
      have := ih _ _ _ h4
      omega
    · have := ho (by omega) (by omega)
      have := ih _ _ _ h4
      omega
def pl_I (Y : wk_Y) (h0 : sm_H) (c0 : gm_C) (zt : Int) (h : sm_H) : Prop := wl_I Y h0 0 (ta_I h0) zt h ∧ ∃ s, px_R h (wk_stk h, s) ∧ pw_to (pm_st (mi_a h0) (px_E h0) 0) zt.toNat c0 (wk_stk h, s) ∧ pm_I (wk_stk h, s)
def pl_NO (h0 : sm_H) (c0 : gm_C) : Prop := ∃ n e r s, pw_to (pm_st (mi_a h0) (px_E h0) 0) n c0 (e :: r, s) ∧ pm_st (mi_a h0) (px_E h0) 0 e r s = none
def pl_H (Y : wk_Y) (h0 : sm_H) (c0 : gm_C) (zt : Int) (h : sm_H) : Prop := (ab_Sh sx_sk h ∧ ab_Fr wr_WK h0 h ∧ (mi_f h 14044 = 1 ∨ 0 ≤ mi_f h 14034) ∧ pl_NO h0 c0) ∨ pl_I Y h0 c0 zt h
def pl_S (Y : wk_Y) (h0 : sm_H) (c0 : gm_C) (zt : Int) (B : List wk_E) (s : gm_S) : Prop := (B = [] ∨ zt = 40000) ∧ pw_to (pm_st (mi_a h0) (px_E h0) 0) zt.toNat c0 (B, s) ∧ gm_len s ≤ 100 ∧ gm_F s ≤ 160 ∧ 0 ≤ pm_pot Y B
def pl_End (Y : wk_Y) (h0 : sm_H) (c0 : gm_C) (w : Option mi_V) (h' : sm_H) : Prop := w = none ∧ ab_Sh sx_sk h' ∧ ab_Fr wr_WK h0 h' ∧ (((mi_f h' 14044 = 1 ∨ 0 ≤ mi_f h' 14034) ∧ (pl_NO h0 c0 ∨ ∃ zt B s, 0 ≤ zt ∧ zt ≤ 40000 ∧ pl_S Y h0 c0 zt B s ∧ pm_K (px_E h0) s ≠ 0)) ∨ (mi_f h' 14044 = 0 ∧ mi_f h' 14034 < 0 ∧ ∃ zt s, 0 ≤ zt ∧ zt ≤ 40000 ∧ pl_S Y h0 c0 zt (wk_stk h') s ∧ px_R h' (wk_stk h', s) ∧ pm_K (px_E h0) s = 0))
section PLM
variable {d : Nat} {h0 : sm_H} {Y : wk_Y} {c0 : gm_C} {zt : Int}
theorem pl_next {h h1 h' : sm_H} {e : wk_E} {s : gm_S} {v : Option mi_V} {hq : sm_H} (he : e.1 = 0 ∨ e.1 = 1 ∨ e.1 = 2 ∨ e.1 = 3 ∨ e.1 = 4 ∨ e.1 = 5) (z0 : 0 ≤ zt) (hst : wk_stk h = e :: wk_stk h1) (hto : pw_to (pm_st (mi_a h0) (px_E h0) 0) zt.toNat c0 (wk_stk h, s)) (hI : pm_I (wk_stk h, s)) (hW : wl_H Y h0 0 (ta_I h0) (zt + 1) h') (hU : up_Q hq (pm_st (mi_a h0) (px_E h0) 0 e (wk_stk h1) s) v h') : pl_H Y h0 c0 (zt + 1) h' := by
  rw [hst] at hto hI
  have et : (zt + 1).toNat = zt.toNat + 1 := by omega
  obtain ⟨-, u1, u2⟩ := hU
  rcases hW with ⟨w1, w2, w3⟩ | hI'
  · have w3 : mi_f h' 14044 = 1 ∨ 0 ≤ mi_f h' 14034 := w3.imp id (fun x => x.2)
    rcases u2 with ⟨u2, -⟩ | ⟨u2, u3, -⟩
    · exact Or.inl ⟨w1, w2, w3, _, _, _, _, hto, u2⟩
    · exfalso; omega
  · have i4 := hI'.1.2.2.2.1
    have i5 := hI'.1.2.2.2.2.1
    rcases u2 with ⟨-, u2⟩ | ⟨-, -, c, u3, u4, u5, u6⟩
    · exfalso; omega
    · obtain ⟨A, t⟩ := c
      dsimp only at u4 u6
      subst u4
      refine Or.inr ⟨hI', t, u5, ?_, ?_⟩
      · rw [et]
        exact pw_app (pw_one u3) _ _ hto
      · exact pm_st_I he hI u3
theorem pl_in {h h1 : sm_H} {s : gm_S} {e : wk_E} (hS0 : ab_Sh sx_sk h0) (hV0 : px_V h0) (hi : wk_in 0 h1) (hS : ab_Sh sx_sk h) (hF : ab_Fr wr_WK h0 h) (g3 : ab_Fr [(14029, 14030)] h h1) (hR : px_R h (e :: wk_stk h1, s)) (hI : pm_I (e :: wk_stk h1, s)) : px_in h1 s := by
  obtain ⟨i1, i2, i3, i4, i5, i6, i7, i8, i9, i10, i11⟩ := hi
  obtain ⟨j1, j2, j3, -⟩ := hI
  dsimp only at j1 j2 j3
  have := gm_outs_nn (e :: wk_stk h1)
  have F : ab_Fr wr_WK h0 h1 := hF.trans (g3.wide (fun c hc => ab_swr_ok (by decide) hc))
  exact ⟨i1, i2, i4, i5, i7, i10.symm, i8, i9, px_R_fr (px_R_st hR (fun x hx _ => List.mem_cons_of_mem _ hx)) g3 hS rfl rfl rfl rfl rfl, i6, px_V_fr hV0 F hS0 rfl rfl, by omega, by omega⟩
theorem pl_g {h h1 : sm_H} (hS0 : ab_Sh sx_sk h0) (hF : ab_Fr wr_WK h0 h) (g3 : ab_Fr [(14029, 14030)] h h1) : wk_gc (mi_a h0) (mi_a h1) ∧ px_E h1 = px_E h0 := by
  have F : ab_Fr wr_WK h0 h1 := hF.trans (g3.wide (fun c hc => ab_swr_ok (by decide) hc))
  exact ⟨wk_gc_fr F hS0 rfl, px_E_fr F hS0 rfl⟩
theorem pl_u {h h1 : sm_H} {w a : Int} (hS0 : ab_Sh sx_sk h0) (hL : wk_L (mi_a h) Y) (hV0 : px_V h0) (hW0 : ∀ u, 0 ≤ u → u < wk_u Y → px_W h0 u) (hG : pl_I Y h0 c0 zt h) (z0 : 0 ≤ zt) (z1 : zt < 40000) (ht : 0 < mi_f h 14029) (g1 : ab_Sh sx_sk h1) (g2 : mi_f h1 14029 = mi_f h 14029 - 1) (g3 : ab_Fr [(14029, 14030)] h h1) (e0 : mi_a h 165 (mi_f h 14029 - 1).toNat = 0) (ew : mi_a h 166 (mi_f h 14029 - 1).toNat = w) (ea : mi_a h 167 (mi_f h 14029 - 1).toNat = a) (ha : a = 0 ∨ a = 1) : me_E (d + 6) 210 0 [some (.inr (.inr 109)), some (.inl w), some (.inl a), none, none] [] h1 (fun v h' => v = none ∧ pl_H Y h0 c0 (zt + 1) h') := by
  obtain ⟨hI, s, hR, hto, hJ⟩ := hG
  obtain ⟨e1, hg, hn, hag, hK2, hV2, hZ, e30, e32, e16, hlen⟩ := wl_pop hI ht g1 g2 g3
  rw [e0, ew, ea] at e1
  have hSI := hI.2.2.1
  rw [e1] at hSI
  have hU : wk_U Y w ((wk_stk h1).length : Int) (mi_f h 14030) (mi_f h 14032) (1 - a) := by
    rcases ha with rfl | rfl
    · exact (wk_unit0 hSI).1
    · exact (wk_unit1 hSI).1
  obtain ⟨u1, u2, u3, u4, u5, u6, u7⟩ := hU
  obtain ⟨⟨a1, -, -, a4, a5⟩, -⟩ := hL.2.2.1 w u1 u2
  have hd := (hL.2.2.2 _ a4 a5).2.1
  have hi := wl_in1 hI ht g1 g2 g3 (by omega)
  have hJ' := hJ
  have hR' := hR
  rw [e1] at hJ' hR'
  obtain ⟨k1, k3⟩ := pl_g hS0 hI.2.1 g3
  refine ((wl_u (d := d) (ta_T hS0) hL hI z0 z1 ht g1 g2 g3 e0 ew ea ha).and (me_unitp (d := d) (pl_in hS0 hV0 hi hI.1.1 hI.2.1 g3 hR' hJ') (by have j2 := hJ'.2.1; have j3 := hJ'.2.2.1.2; dsimp only at j2 j3; omega) (wl_us hL hg u1 u2) (px_W_g k1 (hW0 w u1 u2)) (by omega) ha (fun z => by omega))).imp (fun v h' hq => ?_)
  obtain ⟨⟨q1, q2⟩, q3⟩ := hq
  refine ⟨q1, ?_⟩
  rw [pm_st_0, pm_u_g k1, k3, ← pm_st_0] at q3
  exact pl_next (Or.inl rfl) z0 e1 hto hJ q2 q3
theorem pl_f {h h1 : sm_H} {f a : Int} (hS0 : ab_Sh sx_sk h0) (hL : wk_L (mi_a h) Y) (hV0 : px_V h0) (hW0 : ∀ u, 0 ≤ u → u < wk_u Y → px_W h0 u) (hG : pl_I Y h0 c0 zt h) (z0 : 0 ≤ zt) (z1 : zt < 40000) (ht : 0 < mi_f h 14029) (g1 : ab_Sh sx_sk h1) (g2 : mi_f h1 14029 = mi_f h 14029 - 1) (g3 : ab_Fr [(14029, 14030)] h h1) (e0 : mi_a h 165 (mi_f h 14029 - 1).toNat = 1) (ew : mi_a h 166 (mi_f h 14029 - 1).toNat = f) (ea : mi_a h 167 (mi_f h 14029 - 1).toNat = a) : me_E (d + 6) 223 0 [some (.inr (.inr 109)), some (.inl f), none, none, none, none] [] h1 (fun v h' => v = none ∧ pl_H Y h0 c0 (zt + 1) h') := by
  obtain ⟨hI, s, hR, hto, hJ⟩ := hG
  obtain ⟨e1, hg, hn, hag, hK2, hV2, hZ, e30, e32, e16, hlen⟩ := wl_pop hI ht g1 g2 g3
  rw [e0, ew, ea] at e1
  have hSI := hI.2.2.1
  rw [e1] at hSI
  obtain ⟨hF, hb⟩ := wk_form hSI
  have hL1 : wk_L (mi_a h1) Y := wk_L_g hL hg
  obtain ⟨f1, f2, -⟩ := id hF
  obtain ⟨d1, d2, d3, d4, dB, d5⟩ := hL1.2.2.2 f f1 f2
  have hf80 := hL.2.1
  have hi := wl_in1 hI ht g1 g2 g3 (by omega)
  have hJ' := hJ
  have hR' := hR
  rw [e1] at hJ' hR'
  obtain ⟨k1, k3⟩ := pl_g hS0 hI.2.1 g3
  refine ((wl_f (d := d) (ta_T hS0) hL hI z0 z1 ht g1 g2 g3 e0 ew ea).and (me_choosep (d := d) (U := wk_u Y) (pl_in hS0 hV0 hi hI.1.1 hI.2.1 g3 hR' hJ') f1 (by omega) ⟨d3, d4, fun j hj => ⟨(d5 j hj).1, (d5 j hj).2.1⟩⟩ (wk_L_C hL1) (fun j hj => ?_) (fun j hj => ?_))).imp (fun v h' hq => ?_)
  · rcases (d5 j hj).2.2 with x | x
    · exact Or.inl x
    · exact Or.inr x.1
  · have := (wl_D hL1 hF hb hj).1
    omega
  · obtain ⟨⟨q1, q2⟩, q3⟩ := hq
    refine ⟨q1, ?_⟩
    have q3 := px_Q_u (h := h1) q3
    rw [pm_fo_g k1, k3, ← pm_st_1 (l := 0) (a := a)] at q3
    exact pl_next (Or.inr (Or.inl rfl)) z0 e1 hto hJ q2 q3
theorem pl_a {h h1 : sm_H} {w a : Int} (hS0 : ab_Sh sx_sk h0) (hL : wk_L (mi_a h) Y) (hV0 : px_V h0) (hW0 : ∀ u, 0 ≤ u → u < wk_u Y → px_W h0 u) (hG : pl_I Y h0 c0 zt h) (z0 : 0 ≤ zt) (z1 : zt < 40000) (ht : 0 < mi_f h 14029) (g1 : ab_Sh sx_sk h1) (g2 : mi_f h1 14029 = mi_f h 14029 - 1) (g3 : ab_Fr [(14029, 14030)] h h1) (e0 : mi_a h 165 (mi_f h 14029 - 1).toNat = 5) (ew : mi_a h 166 (mi_f h 14029 - 1).toNat = w) (ea : mi_a h 167 (mi_f h 14029 - 1).toNat = a) : me_E (d + 6) 227 0 [some (.inr (.inr 109)), some (.inl w), some (.inl a), none] [] h1 (fun v h' => v = none ∧ pl_H Y h0 c0 (zt + 1) h') := by
  obtain ⟨hI, s, hR, hto, hJ⟩ := hG
  obtain ⟨e1, hg, hn, hag, hK2, hV2, hZ, e30, e32, e16, hlen⟩ := wl_pop hI ht g1 g2 g3
  rw [e0, ew, ea] at e1
  have hSI := hI.2.2.1
  rw [e1] at hSI
  obtain ⟨⟨u1, u2, u3, u4, u5, u6, u7⟩, hb⟩ := wk_again hSI
  obtain ⟨⟨a1, -⟩, -⟩ := hL.2.2.1 w u1 u2
  have hi := wl_in1 hI ht g1 g2 g3 (by omega)
  have hJ' := hJ
  have hR' := hR
  rw [e1] at hJ' hR'
  obtain ⟨k1, k3⟩ := pl_g hS0 hI.2.1 g3
  obtain ⟨b1, b2, b3⟩ := hR'.2.2.2.2.2 _ (List.mem_cons_self ..) rfl
  dsimp only at b1 b2 b3
  obtain ⟨-, -, v1, v0⟩ := (ta_T (Y := Y) hS0).2.1 rfl zt h w a _ hI z0 z1 e1
  have eV : wk_V 0 h a.toNat = (mx_b h1 163 a.toNat).toInt := by
    unfold wk_V
    rw [if_neg (by decide), me_b (k := 163) g3 hI.1.1 rfl rfl]
  rw [eV] at v0 v1
  refine ((wl_a (d := d) (ta_T hS0) hL hI z0 z1 ht g1 g2 g3 e0 ew ea).and (me_againp (d := d) (pl_in hS0 hV0 hi hI.1.1 hI.2.1 g3 hR' hJ') (wl_us hL hg u1 u2) (px_W_g k1 (hW0 w u1 u2)) (by omega) b1 b2 ((me_a (k := 160) g3 hI.1.1 rfl rfl).trans b3) v0 v1)).imp (fun v h' hq => ?_)
  obtain ⟨⟨q1, q2⟩, q3⟩ := hq
  refine ⟨q1, ?_⟩
  have q3 := px_Q_u (h := h1) q3
  rw [pm_ag_g k1, k3, ← pm_st_5] at q3
  exact pl_next (Or.inr (Or.inr (Or.inr (Or.inr (Or.inr rfl))))) z0 e1 hto hJ q2 q3
theorem pl_ux {h' hq : sm_H} {r : List wk_E} {t : gm_S} (q1 : ab_Sh sx_sk h') (e44 : mi_f h' 14044 = 0) (e34 : mi_f h' 14034 < 0) (est : wk_stk h' = r) (hR : px_R h' (r, t)) (e32 : mi_f h' 14032 = wk_ul r) : up_Q hq (some (r, t)) none h' := ⟨rfl, q1, Or.inr ⟨e44, e34, (r, t), rfl, est, hR, e32⟩⟩
theorem pl_247 {zh : Int} {q3 q4 : Option mi_V} {h : sm_H} (hS0 : ab_Sh sx_sk h0) (hL0 : wk_L (mi_a h0) Y) (hx : pm_x Y) (oh : mi_in zh) (ot : mi_in zt) (o3 : ∀ v, q3 = some v → mi_ok v) (o4 : ∀ v, q4 = some v → mi_ok v) (h1 : 0 ≤ zt) (h2 : zt ≤ 40000) (hH : pl_H Y h0 c0 zt h) (he : wl_I Y h0 0 (ta_I h0) zt h → mi_f h 14029 ≤ 0 ∨ zt = 40000) : me_E (d + 7) 206 247 [some (.inr (.inr 109)), some (.inl zh), some (.inl zt), q3, q4] [] h (pl_End Y h0 c0) := by
  have hS : ab_Sh sx_sk h := by
    rcases hH with hH | hH
    · exact hH.1
    · exact hH.1.1.1
  have bad : (mi_f h 14044 = 1 ∨ 0 ≤ mi_f h 14034) → pl_End Y h0 c0 none h := by
    intro b
    rcases hH with ⟨k1, k2, k3, k4⟩ | hG
    · exact ⟨rfl, k1, k2, Or.inl ⟨k3, Or.inl k4⟩⟩
    · have i4 := hG.1.1.2.2.2.1
      have i5 := hG.1.1.2.2.2.2.1
      exfalso; omega
  have good : mi_f h 14034 < 0 → mi_f h 14044 = 0 → ∃ s, pl_S Y h0 c0 zt (wk_stk h) s ∧ px_R h (wk_stk h, s) ∧ ab_Fr wr_WK h0 h ∧ wk_tok 0 h ∧ (px_E h0).1 (gm_F s) = mi_a h 152 (mi_f h 14033).toNat := by
    intro b1 b2
    rcases hH with ⟨k1, k2, k3, k4⟩ | ⟨hI, s, hR, hto, hJ⟩
    · exfalso; omega
    · have tk := hI.1.2.2.2.2.2.1
      obtain ⟨t0, t1, -⟩ := tk rfl
      have b11 := me_fb (c := 14011) hS rfl
      have e33 : mi_f h 14033 = gm_F s := hR.2.1
      refine ⟨s, ⟨?_, hto, hJ.2.2.1.2, by omega, pm_SI_pot hL0 hx _ _ _ _ hI.2.2.1⟩, hR, hI.2.1, tk, ?_⟩
      · rcases he hI with e | e
        · refine Or.inl ?_
          have := hI.1.2.2.2.2.2.2.1
          have e0 : mi_f h 14029 = 0 := by omega
          unfold wk_stk
          rw [e0]
          rfl
        · exact Or.inr e
      · show mi_a h0 152 (gm_F s).toNat = _
        rw [← e33, me_a (k := 152) hI.2.1 hS0 rfl rfl]
  have m0 : mi_f h 14028 ≠ 0 → pl_End Y h0 c0 none h := by
    intro b
    rcases hH with ⟨k1, k2, k3, k4⟩ | hG
    · exact ⟨rfl, k1, k2, Or.inl ⟨k3, Or.inl k4⟩⟩
    · exact absurd hG.1.1.2.1 b
  refine mt_waE hS oh ot o3 o4 ?_ ?_ ?_ ?_ ?_
  · intro b c h3 r1 r2
    have e3 := me_nil r2
    subst e3
    exact m0 c
  · intro b1 b2 c1 c2 h3 r1 r2
    have e3 := me_nil r2
    subst e3
    exact bad (Or.inr c2)
  · intro b1 b2 b3 c1 c2 c3 h3 r1 r2
    have e3 := me_nil r2
    subst e3
    exact bad (Or.inl (by omega))
  · intro b1 b2 b3 b4 c1 c2 c3 c4
    obtain ⟨s, p1, p2, p3, p4, p5⟩ := good c2 c3
    obtain ⟨t0, t1, -⟩ := p4 rfl
    have b11 := me_fb (c := 14011) hS rfl
    refine ⟨by omega, fun h3 r1 r2 => ?_⟩
    have e3 := me_nil r2
    subst e3
    exact ⟨rfl, hS, p3, Or.inr ⟨c3, c2, zt, s, h1, h2, p1, p2, p5.trans c4⟩⟩
  · intro b1 b2 b3 b4 c1 c2 c3 c4
    obtain ⟨s, p1, p2, p3, p4, p5⟩ := good c2 c3
    obtain ⟨t0, t1, -⟩ := p4 rfl
    have b11 := me_fb (c := 14011) hS rfl
    have bf := me_ab (k := 153) (i := (mi_f h 14033).toNat) hS rfl (by decide) (by omega)
    refine ⟨by omega, fun h3 r1 r2 r3 => ⟨rfl, r1, p3.trans (r3.wide (fun c hc => ab_swr_ok (by decide) hc)), Or.inl ⟨Or.inr (by rw [r2]; exact bf.1), Or.inr ⟨zt, _, s, h1, h2, p1, fun e => c4 (p5.symm.trans e)⟩⟩⟩⟩
theorem pl_T0 {h' : sm_H} (s3 : wk_stk h' = [(1, mi_a h0 114 0, 0), (2, 1, 0)]) (s4 : wk_n 0 h' = 1) : ta_I h0 0 h' := by
  refine ⟨?_, fun i hi => ?_, fun K V k1 k2 k3 => ?_⟩
  · rw [s3]
    trivial
  · rw [s3] at hi
    obtain ⟨e, he, e5, -⟩ := hi
    simp only [List.mem_cons, List.not_mem_nil, or_false] at he
    rcases he with rfl | rfl
    · exact absurd e5 (show ¬ (1 : Int) = 5 from by decide)
    · exact absurd e5 (show ¬ (2 : Int) = 5 from by decide)
  · rw [s3, s4]
    rfl
theorem pl_loop {zh : Int} (hS0 : ab_Sh sx_sk h0) (hL0 : wk_L (mi_a h0) Y) (hx : pm_x Y) (hV0 : px_V h0) (hW0 : ∀ u, 0 ≤ u → u < wk_u Y → px_W h0 u) (oh : mi_in zh) : ∀ (N : Nat) (zt : Int) (q3 q4 : Option mi_V) (h : sm_H), 40000 - zt < N → 0 ≤ zt → zt ≤ 40000 → (∀ v, q3 = some v → mi_ok v) → (∀ v, q4 = some v → mi_ok v) → pl_H Y h0 c0 zt h → me_E (d + 7) 206 52 [some (.inr (.inr 109)), some (.inl zh), some (.inl zt), q3, q4] [] h (pl_End Y h0 c0) := by
  intro N
  induction N with
  | zero => intro zt q3 q4 h hN z0 z1; exfalso; omega
  | succ N ih =>
    intro zt q3 q4 h hN z0 z1 o3 o4 hH
    have ot : mi_in zt := ⟨by omega, by omega⟩
    have hS : ab_Sh sx_sk h := by
      rcases hH with hH | hH
      · exact hH.1
      · exact hH.1.1.1
    have toI : mi_f h 14034 < 0 → mi_f h 14044 = 0 → pl_I Y h0 c0 zt h := fun b' b => by
      rcases hH with hH | hH
      · exfalso
        have := hH.2.2.1
        omega
      · exact hH
    have o2 : ∀ x : Int32, ∀ v : mi_V, some (Sum.inl x.toInt : mi_V) = some v → mi_ok v := fun x v e => by
      cases e
      exact mi_inT x
    have nx : ∀ (x y : Int32) (h' : sm_H), zt < 40000 → pl_H Y h0 c0 (zt + 1) h' → ab_Sh sx_sk h' ∧ me_E (d + 7) 206 52 [some (.inr (.inr 109)), some (.inl zh), some (.inl (zt + 1)), some (.inl x.toInt), some (.inl y.toInt)] [] h' (pl_End Y h0 c0) := fun x y h' hlt hq => by
      refine ⟨?_, ih (zt + 1) _ _ h' (by omega) (by omega) (by omega) (o2 x) (o2 y) hq⟩
      rcases hq with hq | hq
      · exact hq.1
      · exact hq.1.1.1
    have nx175 : ∀ (x y : Int32) (h' : sm_H), zt < 40000 → pl_H Y h0 c0 (zt + 1) h' → me_E (d + 7) 206 175 [some (.inr (.inr 109)), some (.inl zh), some (.inl zt), some (.inl x.toInt), some (.inl y.toInt)] [] h' (pl_End Y h0 c0) := fun x y h' hlt hq => mt_wb175 (nx x y h' hlt hq).1 oh ot (mi_inT x) (mi_inT y) ⟨by omega, fun h3 r1 r2 => by
      have e3 := me_nil r2
      subst e3
      exact (nx x y _ hlt hq).2⟩
    have nx183 : ∀ (x y : Int32) (h' : sm_H), zt < 40000 → pl_H Y h0 c0 (zt + 1) h' → me_E (d + 7) 206 183 [some (.inr (.inr 109)), some (.inl zh), some (.inl zt), some (.inl x.toInt), some (.inl y.toInt)] [] h' (pl_End Y h0 c0) := fun x y h' hlt hq => mt_wb183 (nx x y h' hlt hq).1 oh ot (mi_inT x) (mi_inT y) ⟨by omega, fun h3 r1 r2 => by
      have e3 := me_nil r2
      subst e3
      exact (nx x y _ hlt hq).2⟩
    have nx208 : ∀ (x y : Int32) (h' : sm_H), zt < 40000 → pl_H Y h0 c0 (zt + 1) h' → me_E (d + 7) 206 208 [some (.inr (.inr 109)), some (.inl zh), some (.inl zt), some (.inl x.toInt), some (.inl y.toInt)] [] h' (pl_End Y h0 c0) := fun x y h' hlt hq => mt_wb208 (nx x y h' hlt hq).1 oh ot (mi_inT x) (mi_inT y) ⟨by omega, fun h3 r1 r2 => by
      have e3 := me_nil r2
      subst e3
      exact (nx x y _ hlt hq).2⟩
    have nx218 : ∀ (x y : Int32) (h' : sm_H), zt < 40000 → pl_H Y h0 c0 (zt + 1) h' → me_E (d + 7) 206 218 [some (.inr (.inr 109)), some (.inl zh), some (.inl zt), some (.inl x.toInt), some (.inl y.toInt)] [] h' (pl_End Y h0 c0) := fun x y h' hlt hq => mt_wb218 (nx x y h' hlt hq).1 oh ot (mi_inT x) (mi_inT y) ⟨by omega, fun h3 r1 r2 => by
      have e3 := me_nil r2
      subst e3
      exact (nx x y _ hlt hq).2⟩
    have stk1 : ∀ (h1 : sm_H) (wr : List (Nat × Nat)), 0 < mi_f h 14029 → mi_f h1 14029 = mi_f h 14029 - 1 → ab_Fr wr h h1 → (ab_in wr 21120 || ab_in wr 21248 || ab_in wr 21376) = false → wk_stk h1 = wk_st h (mi_f h 14029 - 1).toNat := by
      intro h1 wr c2 g2 g5 hw
      simp only [Bool.or_eq_false_iff] at hw
      unfold wk_stk
      rw [g2]
      exact wk_st_eq _ (fun i _ => ⟨me_a (k := 165) g5 hS rfl hw.1.1, me_a (k := 166) g5 hS rfl hw.1.2, me_a (k := 167) g5 hS rfl hw.2⟩)
    refine mt_waC hS oh ot o3 o4 ?_ ?_ ?_ ?_ ?_ ?_ ?_ ?_ ?_ ?_ ?_ ?_
    · intro c h1 g1 g2
      have e1 := me_nil g2
      subst e1
      exact pl_247 hS0 hL0 hx oh ot o3 o4 z0 z1 hH (fun _ => Or.inr (by omega))
    · intro b1 c1 c2 h1 g1 g2
      have e1 := me_nil g2
      subst e1
      exact pl_247 hS0 hL0 hx oh ot o3 o4 z0 z1 hH (fun _ => Or.inl c2)
    · intro b1 b2 c1 c2 c3 h1 g1 g2
      have e1 := me_nil g2
      subst e1
      exact pl_247 hS0 hL0 hx oh ot o3 o4 z0 z1 hH (fun hI => by have := hI.1.2.2.2.2.1; omega)
    · intro b1 b2 b3 c1 c2 c3 c4 h1 g1 g2
      have e1 := me_nil g2
      subst e1
      exact pl_247 hS0 hL0 hx oh ot o3 o4 z0 z1 hH (fun hI => by have := hI.1.2.2.2.1; omega)
    · intro b1 b2 b3 c1 c2 c3 c4 s k
      have hG := toI c3 c4
      have hI := hG.1
      have hL : wk_L (mi_a h) Y := wk_L_g hL0 (wk_gc_fr hI.2.1 hS0 rfl)
      have hb29 := hI.2.2.2.2.1
      have htop := hI.2.2.1
      rw [wk_stk_pop c2] at htop
      have hcs := wk_cases htop
      dsimp only at hcs
      refine ⟨by omega, fun h1 g1 g2 g3 => ⟨_, pl_u (d := d) hS0 hL hV0 hW0 hG z0 c1 c2 g1 g2 g3 (by omega) rfl (by omega) (by omega), fun v h' ov hq => ?_⟩⟩
      obtain ⟨rfl, hq⟩ := hq
      exact nx175 _ _ h' c1 hq
    · intro b1 b2 b3 c1 c2 c3 c4 s k
      have hG := toI c3 c4
      have hI := hG.1
      have hL : wk_L (mi_a h) Y := wk_L_g hL0 (wk_gc_fr hI.2.1 hS0 rfl)
      have hb29 := hI.2.2.2.2.1
      have htop := hI.2.2.1
      rw [wk_stk_pop c2] at htop
      have hcs := wk_cases htop
      dsimp only at hcs
      refine ⟨by omega, fun h1 g1 g2 g3 => ⟨_, pl_u (d := d) hS0 hL hV0 hW0 hG z0 c1 c2 g1 g2 g3 (by omega) rfl (by omega) (by omega), fun v h' ov hq => ?_⟩⟩
      obtain ⟨rfl, hq⟩ := hq
      exact nx175 _ _ h' c1 hq
    · intro b1 b2 b3 c1 c2 c3 c4 s
      have hG := toI c3 c4
      have hI := hG.1
      have hL : wk_L (mi_a h) Y := wk_L_g hL0 (wk_gc_fr hI.2.1 hS0 rfl)
      have hb29 := hI.2.2.2.2.1
      refine ⟨by omega, fun h1 g1 g2 g3 => ⟨_, pl_f (d := d) hS0 hL hV0 hW0 hG z0 c1 c2 g1 g2 g3 (by omega) rfl rfl, fun v h' ov hq => ?_⟩⟩
      obtain ⟨rfl, hq⟩ := hq
      exact nx183 _ _ h' c1 hq
    · intro b1 b2 b3 b4 c1 c2 c3 c4 s
      obtain ⟨hI, gs, hR, hto, hJ⟩ := toI c3 c4
      have hb29 := hI.2.2.2.2.1
      have htop := hI.2.2.1
      have hst := wk_stk_pop c2
      have es : mi_a h 165 (mi_f h 14029 - 1).toNat = 2 := by omega
      rw [es] at hst
      rw [hst] at htop
      obtain ⟨w1, w2, w3, w4, w5⟩ := wk_out htop
      refine ⟨by omega, fun h1 g1 g2 g3 g4 g5 => ?_⟩
      have e30 : mi_f h1 14030 = mi_f h 14030 := me_f (c := 14030) g5 hS rfl rfl
      have e16 : mi_f h1 14016 = mi_f h 14016 := me_f (c := 14016) g5 hS rfl rfl
      have k1 := stk1 h1 _ c2 g2 g5 rfl
      have hW : wl_H Y h0 0 (ta_I h0) (zt + 1) h1 := Or.inr (wl_rest (ta_T hS0) hI z0 c1 c2 g2 hst (Or.inl rfl) g1 g5 (by decide) (by
        rw [e30, g4]
        exact wk_SI_Z _ _ _ _ w5 (fun i _ => ⟨me_a (k := 168) g5 hS rfl rfl, me_a (k := 169) g5 hS rfl rfl⟩) (by show mi_f h 14016 ≤ mi_f h1 14016; omega)) (by omega) (by have := hI.2.2.2.2.2; omega))
      refine (nx _ _ h1 c1 (pl_next (hq := h) (v := none) (h1 := h1) (Or.inr (Or.inr (Or.inl rfl))) z0 (by rw [k1]; exact hst) hto hJ hW ?_)).2
      rw [pm_st_2]
      have jd := hJ.1
      have jl := hJ.2.1
      have jn := hJ.2.2.1
      dsimp only at jd jl jn
      rw [hst, gm_outs_2] at jd
      have := gm_outs_nn (wk_st h (mi_f h 14029 - 1).toNat)
      obtain ⟨r1, r2, r3, r4, r5, r6⟩ := hR
      dsimp only at r1 r2 r3 r4 r5 r6
      refine pl_ux g1 ((me_f (c := 14044) g5 hS rfl rfl).trans c4) (by rw [me_f (c := 14034) g5 hS rfl rfl]; exact c3) rfl ?_ ?_
      · unfold px_R gm_len
        dsimp only
        simp only [gm_T_mk, gm_F_mk, gm_D_mk, gm_P_mk]
        refine ⟨gx_T_fr r1 g5 hS rfl, (me_f (c := 14033) g5 hS rfl rfl).trans r2, ?_, e30.trans r4, gx_P_fr g5 hS rfl _ r5, fun x hx x5 => ?_⟩
        · rw [g3, r3]
          exact (gx_wrap (by omega) (by omega)).1
        · rw [k1] at hx
          obtain ⟨y1, y2, y3⟩ := r6 x (by rw [hst]; exact List.mem_cons_of_mem _ hx) x5
          exact ⟨y1, y2, (me_a (k := 160) g5 hS rfl rfl).trans y3⟩
      · have i10 := hI.1.2.2.2.2.2.2.2.2.2.1
        rw [hst, wk_ul_o] at i10
        rw [g4, k1]
        omega
    · intro b1 b2 b3 b4 b5 c1 c2 c3 c4 s
      obtain ⟨hI, gs, hR, hto, hJ⟩ := toI c3 c4
      have hb29 := hI.2.2.2.2.1
      have hp60 := hI.2.2.2.2.2
      have htop := hI.2.2.1
      have hst := wk_stk_pop c2
      have es : mi_a h 165 (mi_f h 14029 - 1).toNat = 3 := by omega
      rw [es] at hst
      rw [hst] at htop
      obtain ⟨w1, w2, w3⟩ := wk_mid htop
      refine ⟨by omega, fun h1 g1 g2 g4 g5 => ?_⟩
      have e30 : mi_f h1 14030 = mi_f h 14030 := me_f (c := 14030) g5 hS rfl rfl
      have e32 : mi_f h1 14032 = mi_f h 14032 := me_f (c := 14032) g5 hS rfl rfl
      have e16 : mi_f h1 14016 = mi_f h 14016 := me_f (c := 14016) g5 hS rfl rfl
      have k1 := stk1 h1 _ c2 g2 g5 rfl
      have hW : wl_H Y h0 0 (ta_I h0) (zt + 1) h1 := Or.inr (wl_rest (ta_T hS0) hI z0 c1 c2 g2 hst (Or.inr (Or.inl rfl)) g1 g5 (by decide) (by
        rw [e30, e32]
        refine wk_middle (wk_SI_Z (Z' := wl_Z h1) _ _ _ _ w3 (fun i hi => ⟨me_a (k := 168) g5 hS rfl rfl, ?_⟩) (by show mi_f h 14016 ≤ mi_f h1 14016; omega)) ?_
        · rw [if_neg (by decide)] at hi
          show mi_a h1 169 i = mi_a h 169 i
          rw [g4, if_neg (by omega)]
        · have w2 : 0 ≤ mi_a h 168 (mi_f h 14030 - 1).toNat ∧ mi_a h 168 (mi_f h 14030 - 1).toNat ≤ mi_f h 14016 := w2
          show 0 ≤ mi_a h1 168 (mi_f h 14030 - 1).toNat ∧ mi_a h1 168 (mi_f h 14030 - 1).toNat ≤ mi_a h1 169 (mi_f h 14030 - 1).toNat ∧ mi_a h1 169 (mi_f h 14030 - 1).toNat ≤ mi_f h1 14016
          rw [g4, if_pos rfl, me_a (k := 168) g5 hS rfl rfl, e16]
          exact ⟨w2.1, w2.2, Int.le_refl _⟩) (by rw [e32]; exact hI.1.2.2.2.2.2.2.2.2.1) (by omega))
      refine (nx _ _ h1 c1 (pl_next (hq := h) (v := none) (h1 := h1) (Or.inr (Or.inr (Or.inr (Or.inl rfl)))) z0 (by rw [k1]; exact hst) hto hJ hW ?_)).2
      rw [pm_st_3]
      obtain ⟨r1, r2, r3, r4, r5, r6⟩ := hR
      dsimp only at r1 r2 r3 r4 r5 r6
      refine pl_ux g1 ((me_f (c := 14044) g5 hS rfl rfl).trans c4) (by rw [me_f (c := 14034) g5 hS rfl rfl]; exact c3) rfl ?_ ?_
      · unfold px_R gm_mid gm_len
        dsimp only
        simp only [gm_T_mk, gm_F_mk, gm_D_mk, gm_P_mk]
        refine ⟨gx_T_fr r1 g5 hS rfl, (me_f (c := 14033) g5 hS rfl rfl).trans r2, (me_f (c := 14031) g5 hS rfl rfl).trans r3, ?_, ?_, fun x hx x5 => ?_⟩
        · rw [e30, r4]
          cases gm_P gs with
          | nil => rfl
          | cons p q => rfl
        · cases hP : gm_P gs with
          | nil => exact trivial
          | cons p q =>
            rw [hP] at r4 r5
            rw [List.length_cons] at r4
            obtain ⟨x1, x2, x3⟩ := r5
            have ei : (mi_f h 14030 - 1).toNat = q.length := by omega
            refine ⟨(me_a (k := 168) g5 hS rfl rfl).trans x1, Or.inr ?_, gx_P_lt (L := q.length) (fun i hi => ⟨me_a (k := 168) g5 hS rfl rfl, ?_⟩) _ (Nat.le_refl _) x3⟩
            · rw [g4, if_pos ei.symm]
              exact r1.1
            · rw [g4, if_neg (by omega)]
        · rw [k1] at hx
          obtain ⟨y1, y2, y3⟩ := r6 x (by rw [hst]; exact List.mem_cons_of_mem _ hx) x5
          exact ⟨y1, y2, (me_a (k := 160) g5 hS rfl rfl).trans y3⟩
      · have i10 := hI.1.2.2.2.2.2.2.2.2.2.1
        rw [hst, wk_ul_c (by decide)] at i10
        rw [e32, k1]
        exact i10.symm
    · intro b1 b2 b3 c1 c2 c3 c4 s
      obtain ⟨hI, gs, hR, hto, hJ⟩ := toI c3 c4
      have hb29 := hI.2.2.2.2.1
      have hp60 := hI.2.2.2.2.2
      have htop := hI.2.2.1
      have hst := wk_stk_pop c2
      have es : mi_a h 165 (mi_f h 14029 - 1).toNat = 4 := by omega
      rw [es] at hst
      rw [hst] at htop
      obtain ⟨w1, w2, w3⟩ := wk_turn htop
      have w2 : 0 ≤ mi_a h 168 (mi_f h 14030 - 1).toNat ∧ mi_a h 168 (mi_f h 14030 - 1).toNat ≤ mi_a h 169 (mi_f h 14030 - 1).toNat ∧ mi_a h 169 (mi_f h 14030 - 1).toNat ≤ mi_f h 14016 := w2
      refine ⟨by omega, fun h1 g1 g2 g3 => ?_⟩
      have e30 : mi_f h1 14030 = mi_f h 14030 := me_f (c := 14030) g3 hS rfl rfl
      have e16 : mi_f h1 14016 = mi_f h 14016 := me_f (c := 14016) g3 hS rfl rfl
      have e168 : mi_a h1 168 (mi_f h 14030 - 1).toNat = mi_a h 168 (mi_f h 14030 - 1).toNat := me_a (k := 168) g3 hS rfl rfl
      have e169 : mi_a h1 169 (mi_f h 14030 - 1).toNat = mi_a h 169 (mi_f h 14030 - 1).toNat := me_a (k := 169) g3 hS rfl rfl
      -- the pair on the top
      obtain ⟨p, q, hP, hp0⟩ : ∃ p q, gm_P gs = p :: q ∧ p.2 ≠ 0 := by
        have j5 := hJ.2.2.2.1
        dsimp only at j5
        rw [hst] at j5
        cases hP : gm_P gs with
        | nil =>
          rw [hP] at j5
          exact absurd j5 gm_fl_40
        | cons p q =>
          rw [hP] at j5
          have j5 : gm_fl ((4, mi_a h 166 (mi_f h 14029 - 1).toNat, mi_a h 167 (mi_f h 14029 - 1).toNat) :: wk_st h (mi_f h 14029 - 1).toNat) (decide (p.2 ≠ 0) :: gm_fg q) := j5
          rw [gm_fl_4] at j5
          exact ⟨p, q, rfl, of_decide_eq_true j5.1⟩
      have hlt : ∀ x ∈ wk_st h (mi_f h 14029 - 1).toNat, x.1 = 5 → x.2.2 < (p.1 : Int) := by
        have j6 := hJ.2.2.2.2.1
        dsimp only at j6
        rw [hst, hP] at j6
        have j6 : pm_al ((4, mi_a h 166 (mi_f h 14029 - 1).toNat, mi_a h 167 (mi_f h 14029 - 1).toNat) :: wk_st h (mi_f h 14029 - 1).toNat) ((p.1 : Int) :: pm_bg q) := j6
        rw [pm_al_4] at j6
        exact j6.1
      have hR' : px_R h (wk_st h (mi_f h 14029 - 1).toNat, gs) := px_R_st hR (fun x hx _ => by rw [hst]; exact List.mem_cons_of_mem _ hx)
      obtain ⟨r1, r2, r3, r4, r5, r6⟩ := id hR
      dsimp only at r1 r2 r3 r4 r5 r6
      have r16 := r1.1
      rw [hP] at r4 r5
      rw [List.length_cons] at r4
      obtain ⟨x1, x2, x3⟩ := r5
      have x2 := x2.resolve_left hp0
      have ei : (mi_f h 14030 - 1).toNat = q.length := by omega
      rw [ei, x1, x2, r16] at w2
      refine ⟨_, (me_swap (d := d + 6) g1 (by omega) (by omega) (by rw [e30, e168, ei, x1]; omega) (by rw [e30, e168, e169, ei, x1, x2]; omega) (by rw [e30, e169, e16, ei, x2]; omega)).and (me_swapp (d := d + 6) g1 (px_R_fr hR' g3 hS rfl rfl rfl rfl rfl) hP (by omega) hp0 (by omega) (by omega) hlt), fun v h' ov hq => ?_⟩
      obtain ⟨⟨rfl, q1, q2, q3⟩, ⟨-, -, -, q4⟩⟩ := hq
      have hF : ab_Fr ([(14029, 14031), (18560, 18561), (20480, 20481)]) h h' := (g3.wide (fun c hc => ab_swr_ok (by decide) hc)).trans (q2.wide (fun c hc => ab_swr_ok (by decide) hc))
      have f29 : mi_f h' 14029 = mi_f h 14029 - 1 := (me_f (c := 14029) q2 g1 rfl rfl).trans g2
      have f16 : mi_f h' 14016 = mi_f h 14016 := me_f (c := 14016) hF hS rfl rfl
      have f32 : mi_f h' 14032 = mi_f h 14032 := me_f (c := 14032) hF hS rfl rfl
      have f30 : mi_f h' 14030 = mi_f h 14030 - 1 := by omega
      have k1 := stk1 h' _ c2 f29 hF rfl
      have hW : wl_H Y h0 0 (ta_I h0) (zt + 1) h' := Or.inr (wl_rest (ta_T hS0) hI z0 c1 c2 f29 hst (Or.inr (Or.inr rfl)) q1 hF (by decide) (by
        rw [f30, f32]
        exact wk_SI_Z _ _ _ _ w3 (fun i _ => ⟨me_a (k := 168) hF hS rfl rfl, me_a (k := 169) hF hS rfl rfl⟩) (by show mi_f h 14016 ≤ mi_f h' 14016; omega)) (by rw [f32]; exact hI.1.2.2.2.2.2.2.2.2.1) (by omega))
      refine nx208 _ _ h' c1 (pl_next (hq := h) (v := none) (h1 := h') (Or.inr (Or.inr (Or.inr (Or.inr (Or.inl rfl))))) z0 (by rw [k1]; exact hst) hto hJ hW ?_)
      rw [pm_st_4]
      refine pl_ux q1 ((me_f (c := 14044) hF hS rfl rfl).trans c4) (by rw [me_f (c := 14034) hF hS rfl rfl]; exact c3) rfl (by rw [k1]; exact q4) ?_
      have i10 := hI.1.2.2.2.2.2.2.2.2.2.1
      rw [hst, wk_ul_c (by decide)] at i10
      rw [f32, k1]
      exact i10.symm
    · intro b1 b2 b3 c1 c2 c3 c4 s
      have hG := toI c3 c4
      have hI := hG.1
      have hL : wk_L (mi_a h) Y := wk_L_g hL0 (wk_gc_fr hI.2.1 hS0 rfl)
      have hb29 := hI.2.2.2.2.1
      refine ⟨by omega, fun h1 g1 g2 g3 => ⟨_, pl_a (d := d) hS0 hL hV0 hW0 hG z0 c1 c2 g1 g2 g3 (by omega) rfl rfl, fun v h' ov hq => ?_⟩⟩
      obtain ⟨rfl, hq⟩ := hq
      exact nx218 _ _ h' c1 hq
    · intro b1 b2 b3 b4 c1 c2 c3 c4 s
      exfalso
      have hI := (toI c3 c4).1
      have htop := hI.2.2.1
      rw [wk_stk_pop c2] at htop
      have hcs := wk_cases htop
      dsimp only at hcs
      omega
/-- from the begin -/
theorem me_walkp {h : sm_H} (hS : ab_Sh sx_sk h) (hL : wk_L (mi_a h) Y) (hx : pm_x Y) (hr : wk_Lrule Y (mi_a h 114 0)) (hV : px_V h) (hW : ∀ u, 0 ≤ u → u < wk_u Y → px_W h u) (htok : mi_a h 152 (mi_f h 14011).toNat = 0) (X : Int64) : me_E (d + 7) 206 0 [some (.inr (.inr 109)), some (.inl (0 : Int)), none, none, none] [] h (pl_End Y h ([(1, mi_a h 114 0, 0), (2, 1, 0)], (X, 0, [(1, 0, 0)], 1, []))) := by
  have oh : mi_in 0 := ⟨by decide, by decide⟩
  refine mt_waA hS oh ?_
  intro h1 g1 f16 f28 f29 f30 f31 f32 f33 f34 f44 g2
  have est : wk_stk h1 = [] := by unfold wk_stk; rw [f29]; rfl
  have e14 : mi_a h1 114 (Int.toNat 0) = mi_a h 114 0 := me_a (k := 114) g2 hS rfl rfl
  have f11 : mi_f h1 14011 = mi_f h 14011 := me_f (c := 14011) g2 hS rfl rfl
  have b11 := me_fb (c := 14011) hS rfl
  have hR1 : px_R h1 (wk_stk h1, (X, 0, [], 0, [])) := by
    unfold px_R
    dsimp only
    simp only [gm_T_mk, gm_F_mk, gm_D_mk, gm_P_mk]
    refine ⟨⟨f16, fun k hk => absurd hk (Nat.not_lt_zero _), fun k j hk => absurd hk (Nat.not_lt_zero _)⟩, f33, f31, f30, trivial, fun x hx => ?_⟩
    rw [est] at hx
    cases hx
  refine ⟨_, (me_enter (d := d + 4) 0 g1 f28 (by decide) (by decide) (by omega) (by omega) (by omega) (by omega) (fun e => absurd e (by decide))).and (me_enterp (d := d + 4) g1 f28 (by omega) (by omega) (by omega) (by rw [est, f32]; rfl) (by omega) (by omega) (by decide) (by decide) hR1 (by rw [gm_D_mk]; decide) (by rw [gm_D_mk]; decide)), fun v h2 ov hq => ?_⟩
  obtain ⟨⟨rfl, q1, q2, q3, q4⟩, qx⟩ := hq
  have hF : ab_Fr wr_WK h h2 := (g2.wide (fun c hc => ab_swr_ok (by decide) hc)).trans (q2.wide (fun c hc => ab_swr_ok (by decide) hc))
  have een : pm_en 0 (mi_a h1) 0 (wk_stk h1) (X, 0, [], 0, []) = some ([(1, mi_a h 114 0, 0), (2, 1, 0)], (X, 0, [(1, 0, 0)], 1, [])) := by
    unfold pm_en gm_c
    rw [est, if_neg (show ¬ (12 : Int) ≤ 0 + wk_ul [] by decide), gm_X_mk, gm_F_mk, gm_T_mk, gm_D_mk, gm_P_mk, if_neg (show ¬ 100 ≤ ([] : List (Int × Int × Int)).length by decide), e14]
    rfl
  rw [een] at qx
  obtain ⟨-, -, -, q5⟩ := qx
  refine mt_waB q1 oh ?_
  intro h3 r1 r2
  have e3 := me_nil r2
  subst e3
  refine pl_loop hS hL hx hV hW oh 40001 0 none none _ (by decide) (by decide) (by decide) (fun v e => by cases e) (fun v e => by cases e) ?_
  rcases q5 with ⟨q5, -⟩ | ⟨q5, q5', c, q6, q7, q8, q9⟩
  · cases q5
  · injection q6 with q6
    subst q6
    dsimp only at q7 q9
    rcases q4 with q4 | ⟨-, p5, p6, p7, p8, p9⟩
    · exfalso; omega
    · obtain ⟨v1, v2, v3, v4⟩ := p9
      have p30 : mi_f h3 14030 = 0 := (me_f (c := 14030) q2 g1 rfl rfl).trans f30
      have p28 : mi_f h3 14028 = 0 := (me_f (c := 14028) q2 g1 rfl rfl).trans f28
      have p33 : mi_f h3 14033 = 0 := q8.2.1
      have p11 : mi_f h3 14011 = mi_f h 14011 := me_f (c := 14011) hF hS rfl rfl
      have ul : wk_ul [(1, mi_a h 114 0, 0), (2, 1, 0)] = 1 := by
        rw [wk_ul_c (by decide)]
        rfl
      have e16 : mi_f h3 14016 = 1 := q8.1.1
      have tk : wk_tok 0 h3 := fun _ => by
        rw [p33, p11, me_a (k := 152) hF hS rfl rfl]
        exact ⟨by decide, b11.1, htok⟩
      have en : wk_n 0 h3 = 1 := by unfold wk_n; rw [if_neg (by decide)]; exact e16
      refine Or.inr ⟨⟨⟨q1, p28, Or.inl rfl, q5, q5', tk, by omega, by omega, by omega, by rw [q7, ul]; omega, by rw [en]; decide⟩, hF, ?_, ?_, by omega, by omega⟩, (X, 0, [(1, 0, 0)], 1, []), by rw [q7]; exact q8, by rw [q7]; rfl, ?_⟩
      · obtain ⟨l1, l2, l3⟩ := hr
        have hd := (hL.2.2.2 _ l1 l2).1
        rw [q7, p30, p6, f32]
        refine wk_pform ⟨l1, l2, ?_, by decide, by omega, by decide, by decide⟩ (wk_pout (Or.inr rfl) (by decide) (by decide) (by decide) ?_)
        · show (1 : Int) + _ - 4 ≤ _
          omega
        · unfold wk_SI
          exact ⟨rfl, rfl, by decide⟩
      · exact pl_T0 q7 en
      · rw [q7]
        unfold pm_I gm_len
        dsimp only
        simp only [gm_T_mk, gm_D_mk, gm_P_mk]
        refine ⟨rfl, by decide, by decide, trivial, trivial, fun x hx x5 => ?_⟩
        rcases List.mem_cons.mp hx with rfl | hx
        · exact absurd x5 (show ¬ (1 : Int) = 5 by decide)
        · rcases List.mem_cons.mp hx with rfl | hx
          · exact absurd x5 (show ¬ (2 : Int) = 5 by decide)
          · cases hx
end PLM
