/-! the parsing walk of the reference, exactly: has, directed, comes, enter, match -/
def px_bit (x : Int64) (k : Int) : Bool := decide (0 ≤ k ∧ (lg_cmp ((x >>> ((Int32.ofInt k).toInt64 &&& 63)) &&& (Int64.ofNat 1)) (Int64.ofNat 1)).toInt = 0)
def px_dir (v : Int) (a f : Int64) : Int64 := if v = 0 then a ||| Int64.ofNat 0 else a ||| f
def px_E (h : sm_H) : pm_E := (fun i => mi_a h 152 i.toNat, fun i => (mx_b h 154 i.toNat).toInt, fun u k => px_bit (mx_b h 134 u.toNat) k, fun f a k => px_bit (px_dir (mi_a h 132 a.toNat) (mx_b h 135 a.toNat) (mx_b h 138 f.toNat)) k)
def px_R (h : sm_H) (c : gm_C) : Prop := gx_T h (gm_T c.2) ∧ mi_f h 14033 = gm_F c.2 ∧ mi_f h 14031 = gm_D c.2 ∧ mi_f h 14030 = ((gm_P c.2).length : Int) ∧ gx_P h (gm_P c.2) ∧ ∀ x ∈ c.1, x.1 = 5 → 0 ≤ x.2.2 ∧ x.2.2 < gm_len c.2 ∧ mi_a h 160 x.2.2.toNat = x.2.2
section PX1
variable {h h' : sm_H} {s : gm_S} {r : List wk_E} {d : Nat} {wr : List (Nat × Nat)}
theorem me_hasx {zs : Int64} (hS : ab_Sh sx_sk h) (n0 : 0 ≤ mi_f h 14033) (n1 : mi_f h 14033 ≤ 160) : me_E d 212 0 [some (.inr (.inr 109)), some (.inr (.inl zs)), none] [] h (fun w h' => h' = h ∧ w = some (.inl (if px_bit zs (mi_a h 152 (mi_f h 14033).toNat) = true then 1 else 0))) := by
  refine mt_hs hS ?_ ?_ ?_
  · intro b c
    refine ⟨by omega, fun h1 g1 g2 => ⟨me_nil g2, ?_⟩⟩
    have e : ¬ px_bit zs (mi_a h 152 (mi_f h 14033).toNat) = true := by
      unfold px_bit
      rw [decide_eq_true_eq]
      exact fun z => by omega
    rw [if_neg e]
  · intro b c1 c2
    refine ⟨by omega, fun h1 g1 g2 => ⟨me_nil g2, ?_⟩⟩
    have e : ¬ px_bit zs (mi_a h 152 (mi_f h 14033).toNat) = true := by
      unfold px_bit
      rw [decide_eq_true_eq]
      exact fun z => c2 z.2
    rw [if_neg e]
  · intro b c1 c2
    refine ⟨by omega, fun h1 g1 g2 => ⟨me_nil g2, ?_⟩⟩
    have e : px_bit zs (mi_a h 152 (mi_f h 14033).toNat) = true := by
      unfold px_bit
      rw [decide_eq_true_eq]
      exact ⟨c1, c2⟩
    rw [if_pos e]
theorem pm_dr_s {g : wk_g} {p : Int → Bool} {m : Nat} {a n : Int} : pm_dr g p (m + 1) a n = if p a = true then some n else pm_dr g p m (g 128 a.toNat) (n + 1) := rfl
/-- what directed answers -/
def px_z (o : Option Int) : Int := match o with | none => -1 | some n => n
theorem me_diBx {zf : Int} (hS : ab_Sh sx_sk h) (n0 : 0 ≤ mi_f h 14033) (n1 : mi_f h 14033 ≤ 160) (hf0 : 0 ≤ zf) (hf1 : zf < 80) (hf : wk_fa (mi_a h) zf) : ∀ (N : Nat) (j : Nat), (mi_a h 130 zf.toNat) - j = N → me_E (d + 1) 224 9 [some (.inr (.inr 109)), some (.inl zf), some (.inl (j : Int)), some (.inl (wk_alt (mi_a h) j (mi_a h 129 zf.toNat)))] [] h (fun w h' => h' = h ∧ w = some (.inl (px_z (pm_dr (mi_a h) (fun a => (px_E h).2.2.2 zf a (mi_a h 152 (mi_f h 14033).toNat)) N (wk_alt (mi_a h) j (mi_a h 129 zf.toNat)) (j : Int))))) := by
  have of : mi_in zf := ⟨by omega, by omega⟩
  have b130 := me_ab (k := 130) (i := zf.toNat) hS rfl (by decide) (by omega)
  intro N
  induction N with
  | zero =>
    intro j h1
    have hc := wk_fa_at hf (j := j) (by omega)
    generalize ha : wk_alt (mi_a h) j (mi_a h 129 zf.toNat) = a at hc ⊢
    have oj : mi_in (j : Int) := ⟨by omega, by omega⟩
    have oa : mi_in a := by
      rw [← ha]
      cases j with
      | zero => exact mi_inT _
      | succ j => rw [wk_alt_succ]; exact mi_inT _
    refine mt_diB hS of oj oa ?_ ?_ ?_
    · intro c h3 r1 r2
      exact ⟨me_nil r2, rfl⟩
    · intro c1 c2
      exfalso; omega
    · intro c1 c2
      exfalso; omega
  | succ N ih =>
    intro j h1
    have hc := wk_fa_at hf (j := j) (by omega)
    have es := wk_alt_succ (mi_a h) j (mi_a h 129 zf.toNat)
    generalize ha : wk_alt (mi_a h) j (mi_a h 129 zf.toNat) = a at hc es ⊢
    have oj : mi_in (j : Int) := ⟨by omega, by omega⟩
    have oa : mi_in a := by
      rw [← ha]
      cases j with
      | zero => exact mi_inT _
      | succ j => rw [wk_alt_succ]; exact mi_inT _
    have go : ∀ w h2, (∀ x, w = some x → mi_ok x) → (h2 = h ∧ w = some (.inl (if (px_E h).2.2.2 zf a (mi_a h 152 (mi_f h 14033).toNat) = true then 1 else 0))) → 0 ≤ a → a < 80 → me_E (d + 1) 224 23 [some (.inr (.inr 109)), some (.inl zf), some (.inl (j : Int)), some (.inl a)] (mi_back w []) h2 (fun w h' => h' = h ∧ w = some (.inl (px_z (pm_dr (mi_a h) (fun a => (px_E h).2.2.2 zf a (mi_a h 152 (mi_f h 14033).toNat)) (N + 1) a (j : Int))))) := by
      intro w h2 hw hq a0 a1
      obtain ⟨rfl, rfl⟩ := hq
      rw [pm_dr_s]
      by_cases cb : (px_E h2).2.2.2 zf a (mi_a h2 152 (mi_f h2 14033).toNat) = true
      · rw [if_pos cb, if_pos cb]
        refine mt_diC hS of oj oa ⟨by decide, by decide⟩ ?_ ?_
        · intro c
          exact absurd c (by decide)
        · intro c h3 r1 r2
          exact ⟨me_nil r2, rfl⟩
      · rw [if_neg cb, if_neg cb]
        refine mt_diC hS of oj oa ⟨by decide, by decide⟩ ?_ ?_
        · intro c
          refine ⟨by omega, fun h3 r1 r2 => ?_⟩
          have e3 := me_nil r2
          subst e3
          have := ih (j + 1) (by omega)
          rw [es] at this
          exact this
        · intro c
          exact absurd rfl c
    refine mt_diB hS of oj oa ?_ ?_ ?_
    · intro c h3 r1 r2
      exfalso; omega
    · intro c1 c2
      refine ⟨by omega, fun h3 r1 r2 => ?_⟩
      have e3 := me_nil r2
      subst e3
      refine ⟨_, me_hasx hS n0 n1, fun w h2 hw hq => go w h2 hw ?_ (by omega) (by omega)⟩
      have e : (px_E h3).2.2.2 zf a (mi_a h3 152 (mi_f h3 14033).toNat) = px_bit (mx_b h3 135 a.toNat ||| Int64.ofNat 0) (mi_a h3 152 (mi_f h3 14033).toNat) := by
        show px_bit (px_dir _ _ _) _ = _
        unfold px_dir
        rw [if_pos c2]
      rw [e]
      exact hq
    · intro c1 c2
      refine ⟨by omega, fun h3 r1 r2 => ?_⟩
      have e3 := me_nil r2
      subst e3
      refine ⟨_, me_hasx hS n0 n1, fun w h2 hw hq => go w h2 hw ?_ (by omega) (by omega)⟩
      have e : (px_E h3).2.2.2 zf a (mi_a h3 152 (mi_f h3 14033).toNat) = px_bit (mx_b h3 135 a.toNat ||| mx_b h3 138 zf.toNat) (mi_a h3 152 (mi_f h3 14033).toNat) := by
        show px_bit (px_dir _ _ _) _ = _
        unfold px_dir
        rw [if_neg c2]
      rw [e]
      exact hq
theorem me_directedx {zf : Int} (hS : ab_Sh sx_sk h) (n0 : 0 ≤ mi_f h 14033) (n1 : mi_f h 14033 ≤ 160) (hf0 : 0 ≤ zf) (hf1 : zf < 80) (hf : wk_fa (mi_a h) zf) (eF : mi_f h 14033 = gm_F s) : me_E (d + 1) 224 0 [some (.inr (.inr 109)), some (.inl zf), none, none] [] h (fun w h' => h' = h ∧ w = some (.inl (px_z (pm_w (mi_a h) (px_E h) zf s)))) := by
  refine mt_diA hS ⟨by omega, by omega⟩ ?_
  refine ⟨by omega, fun h3 r1 r2 => ?_⟩
  have e3 := me_nil r2
  subst e3
  have := hf.1
  unfold pm_w pm_K
  rw [← eF]
  exact me_diBx hS n0 n1 hf0 hf1 hf (mi_a h3 130 zf.toNat).toNat 0 (by omega)
/-- frames -/
theorem px_R_fr (hR : px_R h (r, s)) (hF : ab_Fr wr h h') (hS : ab_Sh sx_sk h) (w1 : gx_w wr = false) (w2 : gx_w2 wr = false) (w3 : ab_in wr 14033 = false) (w4 : ab_in wr 14031 = false) (w5 : ab_in wr 14030 = false) : px_R h' (r, s) := by
  obtain ⟨r1, r2, r3, r4, r5, r6⟩ := hR
  have w6 : ab_in wr 20480 = false := by
    unfold gx_w at w1
    simp only [Bool.or_eq_false_iff] at w1
    exact w1.1.2
  refine ⟨gx_T_fr r1 hF hS w1, (me_f (c := 14033) hF hS rfl w3).trans r2, (me_f (c := 14031) hF hS rfl w4).trans r3, (me_f (c := 14030) hF hS rfl w5).trans r4, gx_P_fr hF hS w2 _ r5, fun x hx x5 => ?_⟩
  obtain ⟨a1, a2, a3⟩ := r6 x hx x5
  exact ⟨a1, a2, (me_a (k := 160) hF hS rfl w6).trans a3⟩
theorem px_R_st {r' : List wk_E} (hR : px_R h (r, s)) (hs : ∀ x ∈ r', x.1 = 5 → x ∈ r) : px_R h (r', s) := ⟨hR.1, hR.2.1, hR.2.2.1, hR.2.2.2.1, hR.2.2.2.2.1, fun x hx x5 => hR.2.2.2.2.2 x (hs x hx x5) x5⟩
/-- a node comes, or the limit is passed -/
theorem me_comesp {zk : Int} {zv : Int64} (hS : ab_Sh sx_sk h) (hm : mi_f h 14028 = 0) (hk0 : 0 ≤ zk ∧ zk < 10) (hR : px_R h (r, s)) : me_E d 208 0 [some (.inr (.inr 109)), some (.inl zk), some (.inr (.inl zv)), none] [] h (fun w h' => ab_Sh sx_sk h' ∧ ab_Fr [(14016, 14017), (14044, 14045), (20224, 20225), (20352, 20353), (20480, 20481), (20864, 20865)] h h' ∧ (∃ z, w = some (.inl z)) ∧ ((gm_c zk zv.toInt s = none ∧ mi_f h' 14044 = 1) ∨ (mi_f h' 14044 = 0 ∧ w = some (.inl (gm_len s)) ∧ mi_a h' 160 (gm_len s).toNat = gm_len s ∧ ∃ t, gm_c zk zv.toInt s = some t ∧ px_R h' (r, t)))) := by
  obtain ⟨r1, r2, r3, r4, r5, r6⟩ := hR
  dsimp only at r1 r2 r3 r4 r5 r6
  have rl := r1.1
  have el : gm_len s = mi_f h 14016 := rl.symm
  have ok : mi_in zk := ⟨by omega, by omega⟩
  refine mt_comes hS ok ?_ ?_ ?_
  · intro b1 b2 c1 c2
    refine ⟨⟨⟨by omega, by omega⟩, ⟨by omega, by omega⟩, ⟨by omega, by omega⟩, by omega, by omega⟩, fun h1 g1 g2 g3 g4 g5 g6 g7 g8 => ⟨g1, g8, ⟨_, rfl⟩, Or.inr ⟨g3, by rw [el], ?_, (gm_X s, gm_F s, gm_T s ++ [(zk + 10 * ((gm_T s).length : Int), zv.toInt, gm_D s)], gm_D s, gm_P s), ?_, ?_⟩⟩⟩
    · rw [el, g6, if_pos rfl]
    · unfold gm_c
      rw [if_neg (by omega)]
    · have n := gx_T_c r1 hk0 g2 g4 g5 g6 g7
      rw [r3] at n
      unfold px_R gm_len
      dsimp only
      simp only [gm_T_mk, gm_F_mk, gm_D_mk, gm_P_mk]
      refine ⟨n, (me_f (c := 14033) g8 hS rfl rfl).trans r2, (me_f (c := 14031) g8 hS rfl rfl).trans r3, (me_f (c := 14030) g8 hS rfl rfl).trans r4, gx_P_fr g8 hS rfl _ r5, fun x hx x5 => ?_⟩
      obtain ⟨a1, a2, a3⟩ := r6 x hx x5
      have a2 : x.2.2 < ((gm_T s).length : Int) := a2
      refine ⟨a1, by rw [List.length_append]; show x.2.2 < (((gm_T s).length + 1 : Nat) : Int); omega, ?_⟩
      rw [g6, if_neg (by omega)]
      exact a3
  · intro b1 b2 c1 c2 h1 g1 g2 g3
    refine ⟨g1, g3.wide (fun c hc => ab_swr_ok (by decide) hc), ⟨_, rfl⟩, Or.inl ⟨?_, g2⟩⟩
    unfold gm_c
    rw [if_pos (by omega)]
  · intro b1 b2 c1
    omega
def pxm_Q (h : sm_H) (m : Option gm_C) (w : Option mi_V) (h' : sm_H) : Prop := w = none ∧ ab_Sh sx_sk h' ∧ ab_Fr wr_W1 h h' ∧ ((m = none ∧ (mi_f h' 14044 = 1 ∨ 0 ≤ mi_f h' 14034)) ∨ (mi_f h' 14044 = 0 ∧ mi_f h' 14034 < 0 ∧ ∃ c, m = some c ∧ wk_stk h' = c.1 ∧ px_R h' c ∧ mi_f h' 14032 = wk_ul c.1))
/-- one more is open -/
theorem px_R_d (hR : px_R h (r, s)) (hF : ab_Fr wr h h') (hS : ab_Sh sx_sk h) (w1 : gx_w wr = false) (w2 : gx_w2 wr = false) (w3 : ab_in wr 14033 = false) (w5 : ab_in wr 14030 = false) (hD0 : -1000 ≤ gm_D s) (hD1 : gm_D s ≤ 999) (e : mi_f h' 14031 = (Int32.ofInt (mi_f h 14031) + Int32.ofInt (1 : Int)).toInt) : px_R h' (r, gm_d s) := by
  obtain ⟨r1, r2, r3, r4, r5, r6⟩ := hR
  have w6 : ab_in wr 20480 = false := by
    unfold gx_w at w1
    simp only [Bool.or_eq_false_iff] at w1
    exact w1.1.2
  unfold px_R gm_d gm_len
  dsimp only at r1 r2 r3 r4 r5 r6 ⊢
  simp only [gm_T_mk, gm_F_mk, gm_D_mk, gm_P_mk]
  refine ⟨gx_T_fr r1 hF hS w1, (me_f (c := 14033) hF hS rfl w3).trans r2, ?_, (me_f (c := 14030) hF hS rfl w5).trans r4, gx_P_fr hF hS w2 _ r5, fun x hx x5 => ?_⟩
  · rw [e, r3]
    exact (gx_wrap hD0 (by omega)).2
  · obtain ⟨a1, a2, a3⟩ := r6 x hx x5
    exact ⟨a1, a2, (me_a (k := 160) hF hS rfl w6).trans a3⟩
theorem me_enterp {zr : Int} (hS : ab_Sh sx_sk h) (hm : mi_f h 14028 = 0) (hw : mi_f h 14034 < 0) (ht0 : 0 ≤ mi_f h 14029) (ht : mi_f h 14029 ≤ 2990) (hu : mi_f h 14032 = wk_ul (wk_stk h)) (hu1 : mi_f h 14032 ≤ 12) (hu0 : 0 ≤ mi_f h 14032) (hz0 : 0 ≤ zr) (hz1 : zr < 10) (hR : px_R h (wk_stk h, s)) (hD0 : -1000 ≤ gm_D s) (hD1 : gm_D s ≤ 999) : me_E (d + 2) 207 0 [some (.inr (.inr 109)), some (.inl zr)] [] h (pxm_Q h (pm_en 0 (mi_a h) zr (wk_stk h) s)) := by
  have ok : mi_in zr := ⟨by omega, by omega⟩
  have ez : ((Int32.ofInt zr).toInt64).toInt = zr := by rw [Int32.toInt_toInt64, mi_ti ok]
  refine mt_enA hS ok ?_ ?_ ?_
  · intro b1 c1 h1 g1 g2 g3 g4
    have hR1 : px_R h1 (wk_stk h, s) := px_R_fr hR g4 hS rfl rfl rfl rfl rfl
    have f28 : mi_f h1 14028 = mi_f h 14028 := me_f (c := 14028) g4 hS rfl rfl
    refine ⟨_, me_comesp g1 (f28.trans hm) ⟨by decide, by decide⟩ hR1, ?_⟩
    intro w h2 hw2 hq
    obtain ⟨q1, q2, ⟨z, rfl⟩, q3⟩ := hq
    rw [ez] at q3
    have k29 : mi_f h2 14029 = mi_f h 14029 := (me_f (c := 14029) q2 g1 rfl rfl).trans (me_f (c := 14029) g4 hS rfl rfl)
    have k32 : mi_f h2 14032 = mi_f h 14032 := (me_f (c := 14032) q2 g1 rfl rfl).trans (me_f (c := 14032) g4 hS rfl rfl)
    have kst : wk_stk h2 = wk_stk h := (wk_stk_fr q2 g1 rfl).trans (wk_stk_fr g4 hS rfl)
    have k114 : mi_a h2 114 zr.toNat = mi_a h 114 zr.toNat := (me_a (k := 114) q2 g1 rfl rfl).trans (me_a (k := 114) g4 hS rfl rfl)
    refine mt_enB q1 ok (hw2 _ rfl) ?_
    intro b1 b2
    refine ⟨by omega, ?_⟩
    intro h3 s1 s29 s31 s32 a5 a6 a7 s4
    have hFr : ab_Fr wr_W1 h h3 := ((g4.wide (fun c hc => ab_swr_ok (by decide) hc)).trans (q2.wide (fun c hc => ab_swr_ok (by decide) hc))).trans (s4.wide (fun c hc => ab_swr_ok (by decide) hc))
    have l44 : mi_f h3 14044 = mi_f h2 14044 := me_f (c := 14044) s4 q1 rfl rfl
    have l34 : mi_f h3 14034 = mi_f h 14034 := ((me_f (c := 14034) s4 q1 rfl rfl).trans (me_f (c := 14034) q2 g1 rfl rfl)).trans (me_f (c := 14034) g4 hS rfl rfl)
    refine ⟨rfl, s1, hFr, ?_⟩
    unfold pm_en
    rw [if_neg (by omega)]
    rcases q3 with ⟨e1, e2⟩ | ⟨e1, -, -, t, e2, e3⟩
    · refine Or.inl ⟨?_, Or.inl (l44.trans e2)⟩
      rw [e1]
      rfl
    · have eD := (gm_c_t e2).2.2.2.1
      refine Or.inr ⟨l44.trans e1, by omega, ((1, mi_a h 114 zr.toNat, 0) :: (2, 1, 0) :: wk_stk h, gm_d t), ?_, ?_, ?_, ?_⟩
      · rw [e2]
        rfl
      · have := wk_push2 (by omega) s29 a5 a6 a7
        rw [k114, kst] at this
        exact this
      · refine px_R_st (px_R_d e3 s4 q1 rfl rfl rfl rfl (by omega) (by omega) s31) (fun x hx x5 => ?_)
        rcases List.mem_cons.mp hx with rfl | hx
        · exact absurd x5 (show ¬ (1 : Int) = 5 by decide)
        · rcases List.mem_cons.mp hx with rfl | hx
          · exact absurd x5 (show ¬ (2 : Int) = 5 by decide)
          · exact hx
      · show _ = 0 + (1 + wk_ul (wk_stk h))
        omega
  · intro b1 b2 c1 c2
    omega
  · intro b1 b2 c1 c2 h1 g1 g2 g3
    refine ⟨rfl, g1, g3.wide (fun c hc => ab_swr_ok (by decide) hc), Or.inl ⟨?_, Or.inl g2⟩⟩
    unfold pm_en
    rw [if_pos (by omega)]
end PX1
