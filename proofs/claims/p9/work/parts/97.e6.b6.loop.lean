/-! the parsing walk of the reference, exactly: the loop -/
section PLG
variable {g g' : wk_g} {E : pm_E} {l : Int} {s : gm_S} {r : List wk_E}
theorem pm_dr_g (hg : wk_gc g g') {p : Int → Bool} : ∀ (m : Nat) (a n : Int), pm_dr g' p m a n = pm_dr g p m a n := by
  intro m
  induction m with
  | zero => intro a n; rfl
  | succ m ih => intro a n; rw [pm_dr_s, pm_dr_s, hg 128 (by decide), ih]
theorem pm_fo_g (hg : wk_gc g g') {f : Int} : pm_fo g' E f r s = pm_fo g E f r s := by
  unfold pm_fo pm_w
  simp only [pm_dr_g hg, hg 130 (by decide), hg 129 (by decide), wk_alt_g hg, hg 126 (by decide), wk_it_g hg]
theorem pm_ag_g (hg : wk_gc g g') {u a : Int} : pm_ag l g' E u a r s = pm_ag l g E u a r s := by
  unfold pm_ag
  rw [pm_sg_g hg]
end PLG
theorem pm_SI_pot {g : wk_g} {Y : wk_Y} {Z : wk_P} (hL : wk_L g Y) (hx : pm_x Y) : ∀ (r : List wk_E) (q : Nat) (p l : Int), wk_SI Y Z r q p l → 0 ≤ pm_pot Y r := by
  intro r
  induction r with
  | nil => intro q p l _; exact Int.le_refl _
  | cons e r ih =>
    intro q p l h
    obtain ⟨a, b, c⟩ := e
    have hu : ∀ (x1 x2 x3 x4 : Int), a = 0 → wk_U Y b x1 x2 x3 x4 → 0 ≤ pm_e2 Y (a, b, c) := by
      intro x1 x2 x3 x4 e0 hU
      subst e0
      rw [pm_e_0]
      have := (hL.2.2.1 b hU.1 hU.2.1).1.1
      omega
    have ho : a ≠ 0 → a ≠ 1 → 0 ≤ pm_e2 Y (a, b, c) := by
      intro e0 e1
      rw [pm_e_o e0 e1]
      decide
    show 0 ≤ pm_e2 Y (a, b, c) + pm_pot Y r
    unfold wk_SI at h
    dsimp only at h
    rcases h with ⟨-, h1, -, h3, h4⟩ | ⟨-, h1, -, h3, h4⟩ | ⟨-, h1, -, -, h4⟩ | ⟨-, h1, -, h4⟩ | ⟨-, h1, -, h3, h4⟩ | ⟨-, h1, -, -, h4⟩ | ⟨-, h1, -, h4⟩ | ⟨-, h1, h3, h4⟩ | ⟨-, h1, -, h4⟩ | ⟨-, h1, -, -, -, -, h4⟩
    · have := hu _ _ _ _ h1 h3
      have := ih _ _ _ h4
      omega
    · have := hu _ _ _ _ h1 h3
      have := ih _ _ _ h4
      omega
    · have := ho (by omega) (by omega)
      have := ih _ _ _ h4
      omega
    · have := ho (by omega) (by omega)
      have := ih _ _ _ h4
      omega
    · have := hu _ _ _ _ h1 h3
      have := ih _ _ _ h4
      omega
    · have := ho (by omega) (by omega)
      have := ih _ _ _ h4
      omega
    · have := ho (by omega) (by omega)
      have := ih _ _ _ h4
      omega
    · subst h1
      rw [pm_e_1]
      have := hx b h3.1 h3.2.1
      have := ih _ _ _ h4
      omega
    · have := ho (by omega) (by omega)
      have := ih _ _ _ h4
      omega
    · have := ho (by omega) (by omega)
      have := ih _ _ _ h4
      omega
def pl_I (Y : wk_Y) (h0 : sm_H) (c0 : gm_C) (zt : Int) (h : sm_H) : Prop := wl_I Y h0 0 (ta_I h0) zt h ∧ ∃ s, px_R h (wk_stk h, s) ∧ pw_to (pm_st (mi_a h0) (px_E h0) 0) zt.toNat c0 (wk_stk h, s) ∧ pm_I (wk_stk h, s)
def pl_NO (h0 : sm_H) (c0 : gm_C) : Prop := ∃ n e r s, pw_to (pm_st (mi_a h0) (px_E h0) 0) n c0 (e :: r, s) ∧ pm_st (mi_a h0) (px_E h0) 0 e r s = none
def pl_H (Y : wk_Y) (h0 : sm_H) (c0 : gm_C) (zt : Int) (h : sm_H) : Prop := (ab_Sh sx_sk h ∧ ab_Fr wr_WK h0 h ∧ (mi_f h 14044 = 1 ∨ 0 ≤ mi_f h 14034) ∧ pl_NO h0 c0) ∨ pl_I Y h0 c0 zt h
def pl_S (Y : wk_Y) (h0 : sm_H) (c0 : gm_C) (zt : Int) (B : List wk_E) (s : gm_S) : Prop := (B = [] ∨ zt = 40000) ∧ pw_to (pm_st (mi_a h0) (px_E h0) 0) zt.toNat c0 (B, s) ∧ gm_len s ≤ 100 ∧ gm_F s ≤ 160 ∧ 0 ≤ pm_pot Y B
def pl_End (Y : wk_Y) (h0 : sm_H) (c0 : gm_C) (w : Option mi_V) (h' : sm_H) : Prop := w = none ∧ ab_Sh sx_sk h' ∧ ab_Fr wr_WK h0 h' ∧ (((mi_f h' 14044 = 1 ∨ 0 ≤ mi_f h' 14034) ∧ (pl_NO h0 c0 ∨ ∃ zt B s, 0 ≤ zt ∧ zt ≤ 40000 ∧ pl_S Y h0 c0 zt B s ∧ pm_K (px_E h0) s ≠ 0)) ∨ (mi_f h' 14044 = 0 ∧ mi_f h' 14034 < 0 ∧ ∃ zt s, 0 ≤ zt ∧ zt ≤ 40000 ∧ pl_S Y h0 c0 zt (wk_stk h') s ∧ px_R h' (wk_stk h', s) ∧ pm_K (px_E h0) s = 0))
section PLM
variable {d : Nat} {h0 : sm_H} {Y : wk_Y} {c0 : gm_C} {zt : Int}
theorem pl_next {h h1 h' : sm_H} {e : wk_E} {s : gm_S} {v : Option mi_V} {hq : sm_H} (he : e.1 = 0 ∨ e.1 = 1 ∨ e.1 = 2 ∨ e.1 = 3 ∨ e.1 = 4 ∨ e.1 = 5) (z0 : 0 ≤ zt) (hst : wk_stk h = e :: wk_stk h1) (hto : pw_to (pm_st (mi_a h0) (px_E h0) 0) zt.toNat c0 (wk_stk h, s)) (hI : pm_I (wk_stk h, s)) (hW : wl_H Y h0 0 (ta_I h0) (zt + 1) h') (hU : up_Q hq (pm_st (mi_a h0) (px_E h0) 0 e (wk_stk h1) s) v h') : pl_H Y h0 c0 (zt + 1) h' := by
  rw [hst] at hto hI
  have et : (zt + 1).toNat = zt.toNat + 1 := by omega
  obtain ⟨-, u1, u2⟩ := hU
  rcases hW with ⟨w1, w2, w3⟩ | hI'
  · have w3 : mi_f h' 14044 = 1 ∨ 0 ≤ mi_f h' 14034 := w3.imp id (fun x => x.2)
    rcases u2 with ⟨u2, -⟩ | ⟨u2, u3, -⟩
    · exact Or.inl ⟨w1, w2, w3, _, _, _, _, hto, u2⟩
    · exfalso; omega
  · have i4 := hI'.1.2.2.2.1
    have i5 := hI'.1.2.2.2.2.1
    rcases u2 with ⟨-, u2⟩ | ⟨-, -, c, u3, u4, u5, u6⟩
    · exfalso; omega
    · obtain ⟨A, t⟩ := c
      dsimp only at u4 u6
      subst u4
      refine Or.inr ⟨hI', t, u5, ?_, ?_⟩
      · rw [et]
        exact pw_app (pw_one u3) _ _ hto
      · exact pm_st_I he hI u3
theorem pl_in {h h1 : sm_H} {s : gm_S} {e : wk_E} (hS0 : ab_Sh sx_sk h0) (hV0 : px_V h0) (hi : wk_in 0 h1) (hS : ab_Sh sx_sk h) (hF : ab_Fr wr_WK h0 h) (g3 : ab_Fr [(14029, 14030)] h h1) (hR : px_R h (e :: wk_stk h1, s)) (hI : pm_I (e :: wk_stk h1, s)) : px_in h1 s := by
  obtain ⟨i1, i2, i3, i4, i5, i6, i7, i8, i9, i10, i11⟩ := hi
  obtain ⟨j1, j2, j3, -⟩ := hI
  dsimp only at j1 j2 j3
  have := gm_outs_nn (e :: wk_stk h1)
  have F : ab_Fr wr_WK h0 h1 := hF.trans (g3.wide (fun c hc => ab_swr_ok (by decide) hc))
  exact ⟨i1, i2, i4, i5, i7, i10.symm, i8, i9, px_R_fr (px_R_st hR (fun x hx _ => List.mem_cons_of_mem _ hx)) g3 hS rfl rfl rfl rfl rfl, i6, px_V_fr hV0 F hS0 rfl rfl, by omega, by omega⟩
theorem pl_g {h h1 : sm_H} (hS0 : ab_Sh sx_sk h0) (hF : ab_Fr wr_WK h0 h) (g3 : ab_Fr [(14029, 14030)] h h1) : wk_gc (mi_a h0) (mi_a h1) ∧ px_E h1 = px_E h0 := by
  have F : ab_Fr wr_WK h0 h1 := hF.trans (g3.wide (fun c hc => ab_swr_ok (by decide) hc))
  exact ⟨wk_gc_fr F hS0 rfl, px_E_fr F hS0 rfl⟩
theorem pl_u {h h1 : sm_H} {w a : Int} (hS0 : ab_Sh sx_sk h0) (hL : wk_L (mi_a h) Y) (hV0 : px_V h0) (hW0 : ∀ u, 0 ≤ u → u < wk_u Y → px_W h0 u) (hG : pl_I Y h0 c0 zt h) (z0 : 0 ≤ zt) (z1 : zt < 40000) (ht : 0 < mi_f h 14029) (g1 : ab_Sh sx_sk h1) (g2 : mi_f h1 14029 = mi_f h 14029 - 1) (g3 : ab_Fr [(14029, 14030)] h h1) (e0 : mi_a h 165 (mi_f h 14029 - 1).toNat = 0) (ew : mi_a h 166 (mi_f h 14029 - 1).toNat = w) (ea : mi_a h 167 (mi_f h 14029 - 1).toNat = a) (ha : a = 0 ∨ a = 1) : me_E (d + 6) 210 0 [some (.inr (.inr 109)), some (.inl w), some (.inl a), none, none] [] h1 (fun v h' => v = none ∧ pl_H Y h0 c0 (zt + 1) h') := by
  obtain ⟨hI, s, hR, hto, hJ⟩ := hG
  obtain ⟨e1, hg, hn, hag, hK2, hV2, hZ, e30, e32, e16, hlen⟩ := wl_pop hI ht g1 g2 g3
  rw [e0, ew, ea] at e1
  have hSI := hI.2.2.1
  rw [e1] at hSI
  have hU : wk_U Y w ((wk_stk h1).length : Int) (mi_f h 14030) (mi_f h 14032) (1 - a) := by
    rcases ha with rfl | rfl
    · exact (wk_unit0 hSI).1
    · exact (wk_unit1 hSI).1
  obtain ⟨u1, u2, u3, u4, u5, u6, u7⟩ := hU
  obtain ⟨⟨a1, -, -, a4, a5⟩, -⟩ := hL.2.2.1 w u1 u2
  have hd := (hL.2.2.2 _ a4 a5).2.1
  have hi := wl_in1 hI ht g1 g2 g3 (by omega)
  have hJ' := hJ
  have hR' := hR
  rw [e1] at hJ' hR'
  obtain ⟨k1, k3⟩ := pl_g hS0 hI.2.1 g3
  refine ((wl_u (d := d) (ta_T hS0) hL hI z0 z1 ht g1 g2 g3 e0 ew ea ha).and (me_unitp (d := d) (pl_in hS0 hV0 hi hI.1.1 hI.2.1 g3 hR' hJ') (by have j2 := hJ'.2.1; have j3 := hJ'.2.2.1.2; dsimp only at j2 j3; omega) (wl_us hL hg u1 u2) (px_W_g k1 (hW0 w u1 u2)) (by omega) ha (fun z => by omega))).imp (fun v h' hq => ?_)
  obtain ⟨⟨q1, q2⟩, q3⟩ := hq
  refine ⟨q1, ?_⟩
  rw [pm_st_0, pm_u_g k1, k3, ← pm_st_0] at q3
  exact pl_next (Or.inl rfl) z0 e1 hto hJ q2 q3
theorem pl_f {h h1 : sm_H} {f a : Int} (hS0 : ab_Sh sx_sk h0) (hL : wk_L (mi_a h) Y) (hV0 : px_V h0) (hW0 : ∀ u, 0 ≤ u → u < wk_u Y → px_W h0 u) (hG : pl_I Y h0 c0 zt h) (z0 : 0 ≤ zt) (z1 : zt < 40000) (ht : 0 < mi_f h 14029) (g1 : ab_Sh sx_sk h1) (g2 : mi_f h1 14029 = mi_f h 14029 - 1) (g3 : ab_Fr [(14029, 14030)] h h1) (e0 : mi_a h 165 (mi_f h 14029 - 1).toNat = 1) (ew : mi_a h 166 (mi_f h 14029 - 1).toNat = f) (ea : mi_a h 167 (mi_f h 14029 - 1).toNat = a) : me_E (d + 6) 223 0 [some (.inr (.inr 109)), some (.inl f), none, none, none, none] [] h1 (fun v h' => v = none ∧ pl_H Y h0 c0 (zt + 1) h') := by
  obtain ⟨hI, s, hR, hto, hJ⟩ := hG
  obtain ⟨e1, hg, hn, hag, hK2, hV2, hZ, e30, e32, e16, hlen⟩ := wl_pop hI ht g1 g2 g3
  rw [e0, ew, ea] at e1
  have hSI := hI.2.2.1
  rw [e1] at hSI
  obtain ⟨hF, hb⟩ := wk_form hSI
  have hL1 : wk_L (mi_a h1) Y := wk_L_g hL hg
  obtain ⟨f1, f2, -⟩ := id hF
  obtain ⟨d1, d2, d3, d4, dB, d5⟩ := hL1.2.2.2 f f1 f2
  have hf80 := hL.2.1
  have hi := wl_in1 hI ht g1 g2 g3 (by omega)
  have hJ' := hJ
  have hR' := hR
  rw [e1] at hJ' hR'
  obtain ⟨k1, k3⟩ := pl_g hS0 hI.2.1 g3
  refine ((wl_f (d := d) (ta_T hS0) hL hI z0 z1 ht g1 g2 g3 e0 ew ea).and (me_choosep (d := d) (U := wk_u Y) (pl_in hS0 hV0 hi hI.1.1 hI.2.1 g3 hR' hJ') f1 (by omega) ⟨d3, d4, fun j hj => ⟨(d5 j hj).1, (d5 j hj).2.1⟩⟩ (wk_L_C hL1) (fun j hj => ?_) (fun j hj => ?_))).imp (fun v h' hq => ?_)
  · rcases (d5 j hj).2.2 with x | x
    · exact Or.inl x
    · exact Or.inr x.1
  · have := (wl_D hL1 hF hb hj).1
    omega
  · obtain ⟨⟨q1, q2⟩, q3⟩ := hq
    refine ⟨q1, ?_⟩
    have q3 := px_Q_u (h := h1) q3
    rw [pm_fo_g k1, k3, ← pm_st_1 (l := 0) (a := a)] at q3
    exact pl_next (Or.inr (Or.inl rfl)) z0 e1 hto hJ q2 q3
theorem pl_a {h h1 : sm_H} {w a : Int} (hS0 : ab_Sh sx_sk h0) (hL : wk_L (mi_a h) Y) (hV0 : px_V h0) (hW0 : ∀ u, 0 ≤ u → u < wk_u Y → px_W h0 u) (hG : pl_I Y h0 c0 zt h) (z0 : 0 ≤ zt) (z1 : zt < 40000) (ht : 0 < mi_f h 14029) (g1 : ab_Sh sx_sk h1) (g2 : mi_f h1 14029 = mi_f h 14029 - 1) (g3 : ab_Fr [(14029, 14030)] h h1) (e0 : mi_a h 165 (mi_f h 14029 - 1).toNat = 5) (ew : mi_a h 166 (mi_f h 14029 - 1).toNat = w) (ea : mi_a h 167 (mi_f h 14029 - 1).toNat = a) : me_E (d + 6) 227 0 [some (.inr (.inr 109)), some (.inl w), some (.inl a), none] [] h1 (fun v h' => v = none ∧ pl_H Y h0 c0 (zt + 1) h') := by
  obtain ⟨hI, s, hR, hto, hJ⟩ := hG
  obtain ⟨e1, hg, hn, hag, hK2, hV2, hZ, e30, e32, e16, hlen⟩ := wl_pop hI ht g1 g2 g3
  rw [e0, ew, ea] at e1
  have hSI := hI.2.2.1
  rw [e1] at hSI
  obtain ⟨⟨u1, u2, u3, u4, u5, u6, u7⟩, hb⟩ := wk_again hSI
  obtain ⟨⟨a1, -⟩, -⟩ := hL.2.2.1 w u1 u2
  have hi := wl_in1 hI ht g1 g2 g3 (by omega)
  have hJ' := hJ
  have hR' := hR
  rw [e1] at hJ' hR'
  obtain ⟨k1, k3⟩ := pl_g hS0 hI.2.1 g3
  obtain ⟨b1, b2, b3⟩ := hR'.2.2.2.2.2 _ (List.mem_cons_self ..) rfl
  dsimp only at b1 b2 b3
  obtain ⟨-, -, v1, v0⟩ := (ta_T (Y := Y) hS0).2.1 rfl zt h w a _ hI z0 z1 e1
  have eV : wk_V 0 h a.toNat = (mx_b h1 163 a.toNat).toInt := by
    unfold wk_V
    rw [if_neg (by decide), me_b (k := 163) g3 hI.1.1 rfl rfl]
  rw [eV] at v0 v1
  refine ((wl_a (d := d) (ta_T hS0) hL hI z0 z1 ht g1 g2 g3 e0 ew ea).and (me_againp (d := d) (pl_in hS0 hV0 hi hI.1.1 hI.2.1 g3 hR' hJ') (wl_us hL hg u1 u2) (px_W_g k1 (hW0 w u1 u2)) (by omega) b1 b2 ((me_a (k := 160) g3 hI.1.1 rfl rfl).trans b3) v0 v1)).imp (fun v h' hq => ?_)
  obtain ⟨⟨q1, q2⟩, q3⟩ := hq
  refine ⟨q1, ?_⟩
  have q3 := px_Q_u (h := h1) q3
  rw [pm_ag_g k1, k3, ← pm_st_5] at q3
  exact pl_next (Or.inr (Or.inr (Or.inr (Or.inr (Or.inr rfl))))) z0 e1 hto hJ q2 q3
theorem pl_ux {h' hq : sm_H} {r : List wk_E} {t : gm_S} (q1 : ab_Sh sx_sk h') (e44 : mi_f h' 14044 = 0) (e34 : mi_f h' 14034 < 0) (est : wk_stk h' = r) (hR : px_R h' (r, t)) (e32 : mi_f h' 14032 = wk_ul r) : up_Q hq (some (r, t)) none h' := ⟨rfl, q1, Or.inr ⟨e44, e34, (r, t), rfl, est, hR, e32⟩⟩
theorem pl_247 {zh : Int} {q3 q4 : Option mi_V} {h : sm_H} (hS0 : ab_Sh sx_sk h0) (hL0 : wk_L (mi_a h0) Y) (hx : pm_x Y) (oh : mi_in zh) (ot : mi_in zt) (o3 : ∀ v, q3 = some v → mi_ok v) (o4 : ∀ v, q4 = some v → mi_ok v) (h1 : 0 ≤ zt) (h2 : zt ≤ 40000) (hH : pl_H Y h0 c0 zt h) (he : wl_I Y h0 0 (ta_I h0) zt h → mi_f h 14029 ≤ 0 ∨ zt = 40000) : me_E (d + 7) 206 247 [some (.inr (.inr 109)), some (.inl zh), some (.inl zt), q3, q4] [] h (pl_End Y h0 c0) := by
  have hS : ab_Sh sx_sk h := by
    rcases hH with hH | hH
    · exact hH.1
    · exact hH.1.1.1
  have bad : (mi_f h 14044 = 1 ∨ 0 ≤ mi_f h 14034) → pl_End Y h0 c0 none h := by
    intro b
    rcases hH with ⟨k1, k2, k3, k4⟩ | hG
    · exact ⟨rfl, k1, k2, Or.inl ⟨k3, Or.inl k4⟩⟩
    · have i4 := hG.1.1.2.2.2.1
      have i5 := hG.1.1.2.2.2.2.1
      exfalso; omega
  have good : mi_f h 14034 < 0 → mi_f h 14044 = 0 → ∃ s, pl_S Y h0 c0 zt (wk_stk h) s ∧ px_R h (wk_stk h, s) ∧ ab_Fr wr_WK h0 h ∧ wk_tok 0 h ∧ (px_E h0).1 (gm_F s) = mi_a h 152 (mi_f h 14033).toNat := by
    intro b1 b2
    rcases hH with ⟨k1, k2, k3, k4⟩ | ⟨hI, s, hR, hto, hJ⟩
    · exfalso; omega
    · have tk := hI.1.2.2.2.2.2.1
      obtain ⟨t0, t1, -⟩ := tk rfl
      have b11 := me_fb (c := 14011) hS rfl
      have e33 : mi_f h 14033 = gm_F s := hR.2.1
      refine ⟨s, ⟨?_, hto, hJ.2.2.1.2, by omega, pm_SI_pot hL0 hx _ _ _ _ hI.2.2.1⟩, hR, hI.2.1, tk, ?_⟩
      · rcases he hI with e | e
        · refine Or.inl ?_
          have := hI.1.2.2.2.2.2.2.1
          have e0 : mi_f h 14029 = 0 := by omega
          unfold wk_stk
          rw [e0]
          rfl
        · exact Or.inr e
      · show mi_a h0 152 (gm_F s).toNat = _
        rw [← e33, me_a (k := 152) hI.2.1 hS0 rfl rfl]
  have m0 : mi_f h 14028 ≠ 0 → pl_End Y h0 c0 none h := by
    intro b
    rcases hH with ⟨k1, k2, k3, k4⟩ | hG
    · exact ⟨rfl, k1, k2, Or.inl ⟨k3, Or.inl k4⟩⟩
    · exact absurd hG.1.1.2.1 b
  refine mt_waE hS oh ot o3 o4 ?_ ?_ ?_ ?_ ?_
  · intro b c h3 r1 r2
    have e3 := me_nil r2
    subst e3
    exact m0 c
  · intro b1 b2 c1 c2 h3 r1 r2
    have e3 := me_nil r2
    subst e3
    exact bad (Or.inr c2)
  · intro b1 b2 b3 c1 c2 c3 h3 r1 r2
    have e3 := me_nil r2
    subst e3
    exact bad (Or.inl (by omega))
  · intro b1 b2 b3 b4 c1 c2 c3 c4
    obtain ⟨s, p1, p2, p3, p4, p5⟩ := good c2 c3
    obtain ⟨t0, t1, -⟩ := p4 rfl
    have b11 := me_fb (c := 14011) hS rfl
    refine ⟨by omega, fun h3 r1 r2 => ?_⟩
    have e3 := me_nil r2
    subst e3
    exact ⟨rfl, hS, p3, Or.inr ⟨c3, c2, zt, s, h1, h2, p1, p2, p5.trans c4⟩⟩
  · intro b1 b2 b3 b4 c1 c2 c3 c4
    obtain ⟨s, p1, p2, p3, p4, p5⟩ := good c2 c3
    obtain ⟨t0, t1, -⟩ := p4 rfl
    have b11 := me_fb (c := 14011) hS rfl
    have bf := me_ab (k := 153) (i := (mi_f h 14033).toNat) hS rfl (by decide) (by omega)
    refine ⟨by omega, fun h3 r1 r2 r3 => ⟨rfl, r1, p3.trans (r3.wide (fun c hc => ab_swr_ok (by decide) hc)), Or.inl ⟨Or.inr (by rw [r2]; exact bf.1), Or.inr ⟨zt, _, s, h1, h2, p1, fun e => c4 (p5.symm.trans e)⟩⟩⟩⟩
theorem pl_T0 {h' : sm_H} (s3 : wk_stk h' = [(1, mi_a h0 114 0, 0), (2, 1, 0)]) (s4 : wk_n 0 h' = 1) : ta_I h0 0 h' := by
  refine ⟨?_, fun i hi => ?_, fun K V k1 k2 k3 => ?_⟩
  · rw [s3]
    trivial
  · rw [s3] at hi
    obtain ⟨e, he, e5, -⟩ := hi
    simp only [List.mem_cons, List.not_mem_nil, or_false] at he
    rcases he with rfl | rfl
    · exact absurd e5 (show ¬ (1 : Int) = 5 from by decide)
    · exact absurd e5 (show ¬ (2 : Int) = 5 from by decide)
  · rw [s3, s4]
    rfl
theorem pl_loop {zh : Int} (hS0 : ab_Sh sx_sk h0) (hL0 : wk_L (mi_a h0) Y) (hx : pm_x Y) (hV0 : px_V h0) (hW0 : ∀ u, 0 ≤ u → u < wk_u Y → px_W h0 u) (oh : mi_in zh) : ∀ (N : Nat) (zt : Int) (q3 q4 : Option mi_V) (h : sm_H), 40000 - zt < N → 0 ≤ zt → zt ≤ 40000 → (∀ v, q3 = some v → mi_ok v) → (∀ v, q4 = some v → mi_ok v) → pl_H Y h0 c0 zt h → me_E (d + 7) 206 52 [some (.inr (.inr 109)), some (.inl zh), some (.inl zt), q3, q4] [] h (pl_End Y h0 c0) := by
  intro N
  induction N with
  | zero => intro zt q3 q4 h hN z0 z1; exfalso; omega
  | succ N ih =>
    intro zt q3 q4 h hN z0 z1 o3 o4 hH
    have ot : mi_in zt := ⟨by omega, by omega⟩
    have hS : ab_Sh sx_sk h := by
      rcases hH with hH | hH
      · exact hH.1
      · exact hH.1.1.1
    have toI : mi_f h 14034 < 0 → mi_f h 14044 = 0 → pl_I Y h0 c0 zt h := fun b' b => by
      rcases hH with hH | hH
      · exfalso
        have := hH.2.2.1
        omega
      · exact hH
    have o2 : ∀ x : Int32, ∀ v : mi_V, some (Sum.inl x.toInt : mi_V) = some v → mi_ok v := fun x v e => by
      cases e
      exact mi_inT x
    have nx : ∀ (x y : Int32) (h' : sm_H), zt < 40000 → pl_H Y h0 c0 (zt + 1) h' → ab_Sh sx_sk h' ∧ me_E (d + 7) 206 52 [some (.inr (.inr 109)), some (.inl zh), some (.inl (zt + 1)), some (.inl x.toInt), some (.inl y.toInt)] [] h' (pl_End Y h0 c0) := fun x y h' hlt hq => by
      refine ⟨?_, ih (zt + 1) _ _ h' (by omega) (by omega) (by omega) (o2 x) (o2 y) hq⟩
      rcases hq with hq | hq
      · exact hq.1
      · exact hq.1.1.1
    have nx175 : ∀ (x y : Int32) (h' : sm_H), zt < 40000 → pl_H Y h0 c0 (zt + 1) h' → me_E (d + 7) 206 175 [some (.inr (.inr 109)), some (.inl zh), some (.inl zt), some (.inl x.toInt), some (.inl y.toInt)] [] h' (pl_End Y h0 c0) := fun x y h' hlt hq => mt_wb175 (nx x y h' hlt hq).1 oh ot (mi_inT x) (mi_inT y) ⟨by omega, fun h3 r1 r2 => by
      have e3 := me_nil r2
      subst e3
      exact (nx x y _ hlt hq).2⟩
    have nx183 : ∀ (x y : Int32) (h' : sm_H), zt < 40000 → pl_H Y h0 c0 (zt + 1) h' → me_E (d + 7) 206 183 [some (.inr (.inr 109)), some (.inl zh), some (.inl zt), some (.inl x.toInt), some (.inl y.toInt)] [] h' (pl_End Y h0 c0) := fun x y h' hlt hq => mt_wb183 (nx x y h' hlt hq).1 oh ot (mi_inT x) (mi_inT y) ⟨by omega, fun h3 r1 r2 => by
      have e3 := me_nil r2
      subst e3
      exact (nx x y _ hlt hq).2⟩
    have nx208 : ∀ (x y : Int32) (h' : sm_H), zt < 40000 → pl_H Y h0 c0 (zt + 1) h' → me_E (d + 7) 206 208 [some (.inr (.inr 109)), some (.inl zh), some (.inl zt), some (.inl x.toInt), some (.inl y.toInt)] [] h' (pl_End Y h0 c0) := fun x y h' hlt hq => mt_wb208 (nx x y h' hlt hq).1 oh ot (mi_inT x) (mi_inT y) ⟨by omega, fun h3 r1 r2 => by
      have e3 := me_nil r2
      subst e3
      exact (nx x y _ hlt hq).2⟩
    have nx218 : ∀ (x y : Int32) (h' : sm_H), zt < 40000 → pl_H Y h0 c0 (zt + 1) h' → me_E (d + 7) 206 218 [some (.inr (.inr 109)), some (.inl zh), some (.inl zt), some (.inl x.toInt), some (.inl y.toInt)] [] h' (pl_End Y h0 c0) := fun x y h' hlt hq => mt_wb218 (nx x y h' hlt hq).1 oh ot (mi_inT x) (mi_inT y) ⟨by omega, fun h3 r1 r2 => by
      have e3 := me_nil r2
      subst e3
      exact (nx x y _ hlt hq).2⟩
    have stk1 : ∀ (h1 : sm_H) (wr : List (Nat × Nat)), 0 < mi_f h 14029 → mi_f h1 14029 = mi_f h 14029 - 1 → ab_Fr wr h h1 → (ab_in wr 21120 || ab_in wr 21248 || ab_in wr 21376) = false → wk_stk h1 = wk_st h (mi_f h 14029 - 1).toNat := by
      intro h1 wr c2 g2 g5 hw
      simp only [Bool.or_eq_false_iff] at hw
      unfold wk_stk
      rw [g2]
      exact wk_st_eq _ (fun i _ => ⟨me_a (k := 165) g5 hS rfl hw.1.1, me_a (k := 166) g5 hS rfl hw.1.2, me_a (k := 167) g5 hS rfl hw.2⟩)
    refine mt_waC hS oh ot o3 o4 ?_ ?_ ?_ ?_ ?_ ?_ ?_ ?_ ?_ ?_ ?_ ?_
    · intro c h1 g1 g2
      have e1 := me_nil g2
      subst e1
      exact pl_247 hS0 hL0 hx oh ot o3 o4 z0 z1 hH (fun _ => Or.inr (by omega))
    · intro b1 c1 c2 h1 g1 g2
      have e1 := me_nil g2
      subst e1
      exact pl_247 hS0 hL0 hx oh ot o3 o4 z0 z1 hH (fun _ => Or.inl c2)
    · intro b1 b2 c1 c2 c3 h1 g1 g2
      have e1 := me_nil g2
      subst e1
      exact pl_247 hS0 hL0 hx oh ot o3 o4 z0 z1 hH (fun hI => by have := hI.1.2.2.2.2.1; omega)
    · intro b1 b2 b3 c1 c2 c3 c4 h1 g1 g2
      have e1 := me_nil g2
      subst e1
      exact pl_247 hS0 hL0 hx oh ot o3 o4 z0 z1 hH (fun hI => by have := hI.1.2.2.2.1; omega)
    · intro b1 b2 b3 c1 c2 c3 c4 s k
      have hG := toI c3 c4
      have hI := hG.1
      have hL : wk_L (mi_a h) Y := wk_L_g hL0 (wk_gc_fr hI.2.1 hS0 rfl)
      have hb29 := hI.2.2.2.2.1
      have htop := hI.2.2.1
      rw [wk_stk_pop c2] at htop
      have hcs := wk_cases htop
      dsimp only at hcs
      refine ⟨by omega, fun h1 g1 g2 g3 => ⟨_, pl_u (d := d) hS0 hL hV0 hW0 hG z0 c1 c2 g1 g2 g3 (by omega) rfl (by omega) (by omega), fun v h' ov hq => ?_⟩⟩
      obtain ⟨rfl, hq⟩ := hq
      exact nx175 _ _ h' c1 hq
    · intro b1 b2 b3 c1 c2 c3 c4 s k
      have hG := toI c3 c4
      have hI := hG.1
      have hL : wk_L (mi_a h) Y := wk_L_g hL0 (wk_gc_fr hI.2.1 hS0 rfl)
      have hb29 := hI.2.2.2.2.1
      have htop := hI.2.2.1
      rw [wk_stk_pop c2] at htop
      have hcs := wk_cases htop
      dsimp only at hcs
      refine ⟨by omega, fun h1 g1 g2 g3 => ⟨_, pl_u (d := d) hS0 hL hV0 hW0 hG z0 c1 c2 g1 g2 g3 (by omega) rfl (by omega) (by omega), fun v h' ov hq => ?_⟩⟩
      obtain ⟨rfl, hq⟩ := hq
      exact nx175 _ _ h' c1 hq
    · intro b1 b2 b3 c1 c2 c3 c4 s
      have hG := toI c3 c4
      have hI := hG.1
      have hL : wk_L (mi_a h) Y := wk_L_g hL0 (wk_gc_fr hI.2.1 hS0 rfl)
      have hb29 := hI.2.2.2.2.1
      refine ⟨by omega, fun h1 g1 g2 g3 => ⟨_, pl_f (d := d) hS0 hL hV0 hW0 hG z0 c1 c2 g1 g2 g3 (by omega) rfl rfl, fun v h' ov hq => ?_⟩⟩
      obtain ⟨rfl, hq⟩ := hq
      exact nx183 _ _ h' c1 hq
    · intro b1 b2 b3 b4 c1 c2 c3 c4 s
      obtain ⟨hI, gs, hR, hto, hJ⟩ := toI c3 c4
      have hb29 := hI.2.2.2.2.1
      have htop := hI.2.2.1
      have hst := wk_stk_pop c2
      have es : mi_a h 165 (mi_f h 14029 - 1).toNat = 2 := by omega
      rw [es] at hst
      rw [hst] at htop
      obtain ⟨w1, w2, w3, w4, w5⟩ := wk_out htop
      refine ⟨by omega, fun h1 g1 g2 g3 g4 g5 => ?_⟩
      have e30 : mi_f h1 14030 = mi_f h 14030 := me_f (c := 14030) g5 hS rfl rfl
      have e16 : mi_f h1 14016 = mi_f h 14016 := me_f (c := 14016) g5 hS rfl rfl
      have k1 := stk1 h1 _ c2 g2 g5 rfl
      have hW : wl_H Y h0 0 (ta_I h0) (zt + 1) h1 := Or.inr (wl_rest (ta_T hS0) hI z0 c1 c2 g2 hst (Or.inl rfl) g1 g5 (by decide) (by
        rw [e30, g4]
        exact wk_SI_Z _ _ _ _ w5 (fun i _ => ⟨me_a (k := 168) g5 hS rfl rfl, me_a (k := 169) g5 hS rfl rfl⟩) (by show mi_f h 14016 ≤ mi_f h1 14016; omega)) (by omega) (by have := hI.2.2.2.2.2; omega))
      refine (nx _ _ h1 c1 (pl_next (hq := h) (v := none) (h1 := h1) (Or.inr (Or.inr (Or.inl rfl))) z0 (by rw [k1]; exact hst) hto hJ hW ?_)).2
      rw [pm_st_2]
      have jd := hJ.1
      have jl := hJ.2.1
      have jn := hJ.2.2.1
      dsimp only at jd jl jn
      rw [hst, gm_outs_2] at jd
      have := gm_outs_nn (wk_st h (mi_f h 14029 - 1).toNat)
      obtain ⟨r1, r2, r3, r4, r5, r6⟩ := hR
      dsimp only at r1 r2 r3 r4 r5 r6
      refine pl_ux g1 ((me_f (c := 14044) g5 hS rfl rfl).trans c4) (by rw [me_f (c := 14034) g5 hS rfl rfl]; exact c3) rfl ?_ ?_
      · unfold px_R gm_len
        dsimp only
        simp only [gm_T_mk, gm_F_mk, gm_D_mk, gm_P_mk]
        refine ⟨gx_T_fr r1 g5 hS rfl, (me_f (c := 14033) g5 hS rfl rfl).trans r2, ?_, e30.trans r4, gx_P_fr g5 hS rfl _ r5, fun x hx x5 => ?_⟩
        · rw [g3, r3]
          exact (gx_wrap (by omega) (by omega)).1
        · rw [k1] at hx
          obtain ⟨y1, y2, y3⟩ := r6 x (by rw [hst]; exact List.mem_cons_of_mem _ hx) x5
          exact ⟨y1, y2, (me_a (k := 160) g5 hS rfl rfl).trans y3⟩
      · have i10 := hI.1.2.2.2.2.2.2.2.2.2.1
        rw [hst, wk_ul_o] at i10
        rw [g4, k1]
        omega
    · intro b1 b2 b3 b4 b5 c1 c2 c3 c4 s
      obtain ⟨hI, gs, hR, hto, hJ⟩ := toI c3 c4
      have hb29 := hI.2.2.2.2.1
      have hp60 := hI.2.2.2.2.2
      have htop := hI.2.2.1
      have hst := wk_stk_pop c2
      have es : mi_a h 165 (mi_f h 14029 - 1).toNat = 3 := by omega
      rw [es] at hst
      rw [hst] at htop
      obtain ⟨w1, w2, w3⟩ := wk_mid htop
      refine ⟨by omega, fun h1 g1 g2 g4 g5 => ?_⟩
      have e30 : mi_f h1 14030 = mi_f h 14030 := me_f (c := 14030) g5 hS rfl rfl
      have e32 : mi_f h1 14032 = mi_f h 14032 := me_f (c := 14032) g5 hS rfl rfl
      have e16 : mi_f h1 14016 = mi_f h 14016 := me_f (c := 14016) g5 hS rfl rfl
      have k1 := stk1 h1 _ c2 g2 g5 rfl
      have hW : wl_H Y h0 0 (ta_I h0) (zt + 1) h1 := Or.inr (wl_rest (ta_T hS0) hI z0 c1 c2 g2 hst (Or.inr (Or.inl rfl)) g1 g5 (by decide) (by
        rw [e30, e32]
        refine wk_middle (wk_SI_Z (Z' := wl_Z h1) _ _ _ _ w3 (fun i hi => ⟨me_a (k := 168) g5 hS rfl rfl, ?_⟩) (by show mi_f h 14016 ≤ mi_f h1 14016; omega)) ?_
        · rw [if_neg (by decide)] at hi
          show mi_a h1 169 i = mi_a h 169 i
          rw [g4, if_neg (by omega)]
        · have w2 : 0 ≤ mi_a h 168 (mi_f h 14030 - 1).toNat ∧ mi_a h 168 (mi_f h 14030 - 1).toNat ≤ mi_f h 14016 := w2
          show 0 ≤ mi_a h1 168 (mi_f h 14030 - 1).toNat ∧ mi_a h1 168 (mi_f h 14030 - 1).toNat ≤ mi_a h1 169 (mi_f h 14030 - 1).toNat ∧ mi_a h1 169 (mi_f h 14030 - 1).toNat ≤ mi_f h1 14016
          rw [g4, if_pos rfl, me_a (k := 168) g5 hS rfl rfl, e16]
          exact ⟨w2.1, w2.2, Int.le_refl _⟩) (by rw [e32]; exact hI.1.2.2.2.2.2.2.2.2.1) (by omega))
      refine (nx _ _ h1 c1 (pl_next (hq := h) (v := none) (h1 := h1) (Or.inr (Or.inr (Or.inr (Or.inl rfl)))) z0 (by rw [k1]; exact hst) hto hJ hW ?_)).2
      rw [pm_st_3]
      obtain ⟨r1, r2, r3, r4, r5, r6⟩ := hR
      dsimp only at r1 r2 r3 r4 r5 r6
      refine pl_ux g1 ((me_f (c := 14044) g5 hS rfl rfl).trans c4) (by rw [me_f (c := 14034) g5 hS rfl rfl]; exact c3) rfl ?_ ?_
      · unfold px_R gm_mid gm_len
        dsimp only
        simp only [gm_T_mk, gm_F_mk, gm_D_mk, gm_P_mk]
        refine ⟨gx_T_fr r1 g5 hS rfl, (me_f (c := 14033) g5 hS rfl rfl).trans r2, (me_f (c := 14031) g5 hS rfl rfl).trans r3, ?_, ?_, fun x hx x5 => ?_⟩
        · rw [e30, r4]
          cases gm_P gs with
          | nil => rfl
          | cons p q => rfl
        · cases hP : gm_P gs with
          | nil => exact trivial
          | cons p q =>
            rw [hP] at r4 r5
            rw [List.length_cons] at r4
            obtain ⟨x1, x2, x3⟩ := r5
            have ei : (mi_f h 14030 - 1).toNat = q.length := by omega
            refine ⟨(me_a (k := 168) g5 hS rfl rfl).trans x1, Or.inr ?_, gx_P_lt (L := q.length) (fun i hi => ⟨me_a (k := 168) g5 hS rfl rfl, ?_⟩) _ (Nat.le_refl _) x3⟩
            · rw [g4, if_pos ei.symm]
              exact r1.1
            · rw [g4, if_neg (by omega)]
        · rw [k1] at hx
          obtain ⟨y1, y2, y3⟩ := r6 x (by rw [hst]; exact List.mem_cons_of_mem _ hx) x5
          exact ⟨y1, y2, (me_a (k := 160) g5 hS rfl rfl).trans y3⟩
      · have i10 := hI.1.2.2.2.2.2.2.2.2.2.1
        rw [hst, wk_ul_c (by decide)] at i10
        rw [e32, k1]
        exact i10.symm
    · intro b1 b2 b3 c1 c2 c3 c4 s
      obtain ⟨hI, gs, hR, hto, hJ⟩ := toI c3 c4
      have hb29 := hI.2.2.2.2.1
      have hp60 := hI.2.2.2.2.2
      have htop := hI.2.2.1
      have hst := wk_stk_pop c2
      have es : mi_a h 165 (mi_f h 14029 - 1).toNat = 4 := by omega
      rw [es] at hst
      rw [hst] at htop
      obtain ⟨w1, w2, w3⟩ := wk_turn htop
      have w2 : 0 ≤ mi_a h 168 (mi_f h 14030 - 1).toNat ∧ mi_a h 168 (mi_f h 14030 - 1).toNat ≤ mi_a h 169 (mi_f h 14030 - 1).toNat ∧ mi_a h 169 (mi_f h 14030 - 1).toNat ≤ mi_f h 14016 := w2
      refine ⟨by omega, fun h1 g1 g2 g3 => ?_⟩
      have e30 : mi_f h1 14030 = mi_f h 14030 := me_f (c := 14030) g3 hS rfl rfl
      have e16 : mi_f h1 14016 = mi_f h 14016 := me_f (c := 14016) g3 hS rfl rfl
      have e168 : mi_a h1 168 (mi_f h 14030 - 1).toNat = mi_a h 168 (mi_f h 14030 - 1).toNat := me_a (k := 168) g3 hS rfl rfl
      have e169 : mi_a h1 169 (mi_f h 14030 - 1).toNat = mi_a h 169 (mi_f h 14030 - 1).toNat := me_a (k := 169) g3 hS rfl rfl
      -- the pair on the top
      obtain ⟨p, q, hP, hp0⟩ : ∃ p q, gm_P gs = p :: q ∧ p.2 ≠ 0 := by
        have j5 := hJ.2.2.2.1
        dsimp only at j5
        rw [hst] at j5
        cases hP : gm_P gs with
        | nil =>
          rw [hP] at j5
          exact absurd j5 gm_fl_40
        | cons p q =>
          rw [hP] at j5
          have j5 : gm_fl ((4, mi_a h 166 (mi_f h 14029 - 1).toNat, mi_a h 167 (mi_f h 14029 - 1).toNat) :: wk_st h (mi_f h 14029 - 1).toNat) (decide (p.2 ≠ 0) :: gm_fg q) := j5
          rw [gm_fl_4] at j5
          exact ⟨p, q, rfl, of_decide_eq_true j5.1⟩
      have hlt : ∀ x ∈ wk_st h (mi_f h 14029 - 1).toNat, x.1 = 5 → x.2.2 < (p.1 : Int) := by
        have j6 := hJ.2.2.2.2.1
        dsimp only at j6
        rw [hst, hP] at j6
        have j6 : pm_al ((4, mi_a h 166 (mi_f h 14029 - 1).toNat, mi_a h 167 (mi_f h 14029 - 1).toNat) :: wk_st h (mi_f h 14029 - 1).toNat) ((p.1 : Int) :: pm_bg q) := j6
        rw [pm_al_4] at j6
        exact j6.1
      have hR' : px_R h (wk_st h (mi_f h 14029 - 1).toNat, gs) := px_R_st hR (fun x hx _ => by rw [hst]; exact List.mem_cons_of_mem _ hx)
      obtain ⟨r1, r2, r3, r4, r5, r6⟩ := id hR
      dsimp only at r1 r2 r3 r4 r5 r6
      have r16 := r1.1
      rw [hP] at r4 r5
      rw [List.length_cons] at r4
      obtain ⟨x1, x2, x3⟩ := r5
      have x2 := x2.resolve_left hp0
      have ei : (mi_f h 14030 - 1).toNat = q.length := by omega
      rw [ei, x1, x2, r16] at w2
      refine ⟨_, (me_swap (d := d + 6) g1 (by omega) (by omega) (by rw [e30, e168, ei, x1]; omega) (by rw [e30, e168, e169, ei, x1, x2]; omega) (by rw [e30, e169, e16, ei, x2]; omega)).and (me_swapp (d := d + 6) g1 (px_R_fr hR' g3 hS rfl rfl rfl rfl rfl) hP (by omega) hp0 (by omega) (by omega) hlt), fun v h' ov hq => ?_⟩
      obtain ⟨⟨rfl, q1, q2, q3⟩, ⟨-, -, -, q4⟩⟩ := hq
      have hF : ab_Fr ([(14029, 14031), (18560, 18561), (20480, 20481)]) h h' := (g3.wide (fun c hc => ab_swr_ok (by decide) hc)).trans (q2.wide (fun c hc => ab_swr_ok (by decide) hc))
      have f29 : mi_f h' 14029 = mi_f h 14029 - 1 := (me_f (c := 14029) q2 g1 rfl rfl).trans g2
      have f16 : mi_f h' 14016 = mi_f h 14016 := me_f (c := 14016) hF hS rfl rfl
      have f32 : mi_f h' 14032 = mi_f h 14032 := me_f (c := 14032) hF hS rfl rfl
      have f30 : mi_f h' 14030 = mi_f h 14030 - 1 := by omega
      have k1 := stk1 h' _ c2 f29 hF rfl
      have hW : wl_H Y h0 0 (ta_I h0) (zt + 1) h' := Or.inr (wl_rest (ta_T hS0) hI z0 c1 c2 f29 hst (Or.inr (Or.inr rfl)) q1 hF (by decide) (by
        rw [f30, f32]
        exact wk_SI_Z _ _ _ _ w3 (fun i _ => ⟨me_a (k := 168) hF hS rfl rfl, me_a (k := 169) hF hS rfl rfl⟩) (by show mi_f h 14016 ≤ mi_f h' 14016; omega)) (by rw [f32]; exact hI.1.2.2.2.2.2.2.2.2.1) (by omega))
      refine nx208 _ _ h' c1 (pl_next (hq := h) (v := none) (h1 := h') (Or.inr (Or.inr (Or.inr (Or.inr (Or.inl rfl))))) z0 (by rw [k1]; exact hst) hto hJ hW ?_)
      rw [pm_st_4]
      refine pl_ux q1 ((me_f (c := 14044) hF hS rfl rfl).trans c4) (by rw [me_f (c := 14034) hF hS rfl rfl]; exact c3) rfl (by rw [k1]; exact q4) ?_
      have i10 := hI.1.2.2.2.2.2.2.2.2.2.1
      rw [hst, wk_ul_c (by decide)] at i10
      rw [f32, k1]
      exact i10.symm
    · intro b1 b2 b3 c1 c2 c3 c4 s
      have hG := toI c3 c4
      have hI := hG.1
      have hL : wk_L (mi_a h) Y := wk_L_g hL0 (wk_gc_fr hI.2.1 hS0 rfl)
      have hb29 := hI.2.2.2.2.1
      refine ⟨by omega, fun h1 g1 g2 g3 => ⟨_, pl_a (d := d) hS0 hL hV0 hW0 hG z0 c1 c2 g1 g2 g3 (by omega) rfl rfl, fun v h' ov hq => ?_⟩⟩
      obtain ⟨rfl, hq⟩ := hq
      exact nx218 _ _ h' c1 hq
    · intro b1 b2 b3 b4 c1 c2 c3 c4 s
      exfalso
      have hI := (toI c3 c4).1
      have htop := hI.2.2.1
      rw [wk_stk_pop c2] at htop
      have hcs := wk_cases htop
      dsimp only at hcs
      omega
/-- from the begin -/
theorem me_walkp {h : sm_H} (hS : ab_Sh sx_sk h) (hL : wk_L (mi_a h) Y) (hx : pm_x Y) (hr : wk_Lrule Y (mi_a h 114 0)) (hV : px_V h) (hW : ∀ u, 0 ≤ u → u < wk_u Y → px_W h u) (htok : mi_a h 152 (mi_f h 14011).toNat = 0) (X : Int64) : me_E (d + 7) 206 0 [some (.inr (.inr 109)), some (.inl (0 : Int)), none, none, none] [] h (pl_End Y h ([(1, mi_a h 114 0, 0), (2, 1, 0)], (X, 0, [(1, 0, 0)], 1, []))) := by
  have oh : mi_in 0 := ⟨by decide, by decide⟩
  refine mt_waA hS oh ?_
  intro h1 g1 f16 f28 f29 f30 f31 f32 f33 f34 f44 g2
  have est : wk_stk h1 = [] := by unfold wk_stk; rw [f29]; rfl
  have e14 : mi_a h1 114 (Int.toNat 0) = mi_a h 114 0 := me_a (k := 114) g2 hS rfl rfl
  have f11 : mi_f h1 14011 = mi_f h 14011 := me_f (c := 14011) g2 hS rfl rfl
  have b11 := me_fb (c := 14011) hS rfl
  have hR1 : px_R h1 (wk_stk h1, (X, 0, [], 0, [])) := by
    unfold px_R
    dsimp only
    simp only [gm_T_mk, gm_F_mk, gm_D_mk, gm_P_mk]
    refine ⟨⟨f16, fun k hk => absurd hk (Nat.not_lt_zero _), fun k j hk => absurd hk (Nat.not_lt_zero _)⟩, f33, f31, f30, trivial, fun x hx => ?_⟩
    rw [est] at hx
    cases hx
  refine ⟨_, (me_enter (d := d + 4) 0 g1 f28 (by decide) (by decide) (by omega) (by omega) (by omega) (by omega) (fun e => absurd e (by decide))).and (me_enterp (d := d + 4) g1 f28 (by omega) (by omega) (by omega) (by rw [est, f32]; rfl) (by omega) (by omega) (by decide) (by decide) hR1 (by rw [gm_D_mk]; decide) (by rw [gm_D_mk]; decide)), fun v h2 ov hq => ?_⟩
  obtain ⟨⟨rfl, q1, q2, q3, q4⟩, qx⟩ := hq
  have hF : ab_Fr wr_WK h h2 := (g2.wide (fun c hc => ab_swr_ok (by decide) hc)).trans (q2.wide (fun c hc => ab_swr_ok (by decide) hc))
  have een : pm_en 0 (mi_a h1) 0 (wk_stk h1) (X, 0, [], 0, []) = some ([(1, mi_a h 114 0, 0), (2, 1, 0)], (X, 0, [(1, 0, 0)], 1, [])) := by
    unfold pm_en gm_c
    rw [est, if_neg (show ¬ (12 : Int) ≤ 0 + wk_ul [] by decide), gm_X_mk, gm_F_mk, gm_T_mk, gm_D_mk, gm_P_mk, if_neg (show ¬ 100 ≤ ([] : List (Int × Int × Int)).length by decide), e14]
    rfl
  rw [een] at qx
  obtain ⟨-, -, -, q5⟩ := qx
  refine mt_waB q1 oh ?_
  intro h3 r1 r2
  have e3 := me_nil r2
  subst e3
  refine pl_loop hS hL hx hV hW oh 40001 0 none none _ (by decide) (by decide) (by decide) (fun v e => by cases e) (fun v e => by cases e) ?_
  rcases q5 with ⟨q5, -⟩ | ⟨q5, q5', c, q6, q7, q8, q9⟩
  · cases q5
  · injection q6 with q6
    subst q6
    dsimp only at q7 q9
    rcases q4 with q4 | ⟨-, p5, p6, p7, p8, p9⟩
    · exfalso; omega
    · obtain ⟨v1, v2, v3, v4⟩ := p9
      have p30 : mi_f h3 14030 = 0 := (me_f (c := 14030) q2 g1 rfl rfl).trans f30
      have p28 : mi_f h3 14028 = 0 := (me_f (c := 14028) q2 g1 rfl rfl).trans f28
      have p33 : mi_f h3 14033 = 0 := q8.2.1
      have p11 : mi_f h3 14011 = mi_f h 14011 := me_f (c := 14011) hF hS rfl rfl
      have ul : wk_ul [(1, mi_a h 114 0, 0), (2, 1, 0)] = 1 := by
        rw [wk_ul_c (by decide)]
        rfl
      have e16 : mi_f h3 14016 = 1 := q8.1.1
      have tk : wk_tok 0 h3 := fun _ => by
        rw [p33, p11, me_a (k := 152) hF hS rfl rfl]
        exact ⟨by decide, b11.1, htok⟩
      have en : wk_n 0 h3 = 1 := by unfold wk_n; rw [if_neg (by decide)]; exact e16
      refine Or.inr ⟨⟨⟨q1, p28, Or.inl rfl, q5, q5', tk, by omega, by omega, by omega, by rw [q7, ul]; omega, by rw [en]; decide⟩, hF, ?_, ?_, by omega, by omega⟩, (X, 0, [(1, 0, 0)], 1, []), by rw [q7]; exact q8, by rw [q7]; rfl, ?_⟩
      · obtain ⟨l1, l2, l3⟩ := hr
        have hd := (hL.2.2.2 _ l1 l2).1
        rw [q7, p30, p6, f32]
        refine wk_pform ⟨l1, l2, ?_, by decide, by omega, by decide, by decide⟩ (wk_pout (Or.inr rfl) (by decide) (by decide) (by decide) ?_)
        · show (1 : Int) + _ - 4 ≤ _
          omega
        · unfold wk_SI
          exact ⟨rfl, rfl, by decide⟩
      · exact pl_T0 q7 en
      · rw [q7]
        unfold pm_I gm_len
        dsimp only
        simp only [gm_T_mk, gm_D_mk, gm_P_mk]
        refine ⟨rfl, by decide, by decide, trivial, trivial, fun x hx x5 => ?_⟩
        rcases List.mem_cons.mp hx with rfl | hx
        · exact absurd x5 (show ¬ (1 : Int) = 5 by decide)
        · rcases List.mem_cons.mp hx with rfl | hx
          · exact absurd x5 (show ¬ (2 : Int) = 5 by decide)
          · cases hx
end PLM
