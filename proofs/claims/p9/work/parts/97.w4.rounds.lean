/-! the reference's study with leads: the rounds -/
def lX (h : sm_H) : Nat → Int64 := fun F => b64 (mi_a h 141 F)
/-- the bit of a use is that of its rule -/
def bt_ok (β : Int → Int64) (hb : sm_H) : Prop := ∀ u : Int, 0 ≤ u → u < mi_f hb 13963 → mi_a hb 119 u.toNat = 9 → β (rv_t (mi_a hb) u) = bitC (mi_a hb 115 (mi_a hb 120 u.toNat).toNat)
theorem rv_t_eq {h h' : sm_H} (e : rv_eq h h') : rv_t (mi_a h') = rv_t (mi_a h) := by
  funext u
  unfold rv_t
  rw [e 119 (by decide), e 120 (by decide), e 115 (by decide), e 114 (by decide)]
theorem ld_b {β : Int → Int64} {hb h : sm_H} {u : Int} (hβ : bt_ok β hb) (e : rv_eq hb h) (u0 : 0 ≤ u) (u1 : u < mi_f hb 13963) : b64 (ld_v (mi_a h) (mi_a h 141) u) = cl_R β (lX h) (rv_p (mi_a hb) u) := by
  have k := hβ u u0 u1
  unfold ld_v cl_R
  rw [rv_t_eq e, e 119 (by decide), e 120 (by decide), e 115 (by decide)]
  show _ = if (if mi_a hb 119 u.toNat = 9 then (1 : Int) else 0) ≠ 0 then β (rv_t (mi_a hb) u) else if 0 ≤ rv_t (mi_a hb) u then lX h (rv_t (mi_a hb) u).toNat else 0
  by_cases c : mi_a hb 119 u.toNat = 9
  · rw [if_pos c, if_pos c, if_pos (show (1 : Int) ≠ 0 from by decide), k c]
    unfold b64 bitC
    rw [Int32.ofInt_toInt]
  · rw [if_neg c, if_neg c, if_neg (show ¬ ((0 : Int) ≠ 0) from fun q => q rfl)]
    by_cases c0 : 0 ≤ rv_t (mi_a hb) u
    · rw [if_pos c0, if_pos c0]
      rfl
    · rw [if_neg c0, if_neg c0]
      rfl
theorem lX_fr {h h' : sm_H} {wr : List (Nat × Nat)} (hF : ab_Fr wr h h') (hS : ab_Sh sx_sk h) (hw : ab_in wr 18048 = false) : lX h' = lX h := by
  funext F
  unfold lX
  rw [me_a (k := 141) hF hS rfl hw]
theorem rl_ok_fr {β : Int → Int64} {P : Int → sp_P} {L : Nat → Int64} {h h' : sm_H} {u : Int} {wr : List (Nat × Nat)} (hF : ab_Fr wr h h') (hS : ab_Sh sx_sk h) (hw : ab_in wr 17792 = false) (k : rl_ok β P L h u) : rl_ok β P L h' u := by
  unfold rl_ok at k ⊢
  rw [me_a (k := 139) hF hS rfl hw]
  exact k
theorem lp_ok_fr {β : Int → Int64} {X : sp_X} {L : Nat → Int64} {h h' : sm_H} {a : Int} {wr : List (Nat × Nat)} (hF : ab_Fr wr h h') (hS : ab_Sh sx_sk h) (e : rv_eq h h') (hw : ab_in wr 17920 = false) (k : lp_ok β X L h a) : lp_ok β X L h' a := by
  unfold lp_ok at k ⊢
  rw [e.l, me_a (k := 140) hF hS rfl hw]
  exact k
section STL
variable {d : Nat} {hb : sm_H} {Y : wk_Y} {X : sp_X} {W : sp_F} {β : Int → Int64} {L : Nat → Int64}
def st_wl (β : Int → Int64) (hb : sm_H) (W : sp_F) (X : sp_X) (L : Nat → Int64) (z : Int) (h : sm_H) : Prop := st_w hb W X z h ∧ lX h = L ∧ ∀ u : Int, 0 ≤ u → u < z → rl_ok β (rv_p (mi_a hb)) L h u
def st_al (β : Int → Int64) (hb : sm_H) (W : sp_F) (X : sp_X) (L : Nat → Int64) (z : Int) (h : sm_H) : Prop := st_a hb W X z h ∧ lX h = L ∧ (∀ u : Int, 0 ≤ u → u < mi_f hb 13963 → rl_ok β (rv_p (mi_a hb)) L h u) ∧ ∀ a : Int, 0 ≤ a → a < z → lp_ok β X L h a
def st_fl (β : Int → Int64) (hb : sm_H) (W : sp_F) (X : sp_X) (L : Nat → Int64) (z : Int) (h : sm_H) : Prop := st_f hb W X z h ∧ (∀ a : Int, 0 ≤ a → a < mi_f hb 13964 → lp_ok β X L h a) ∧ (∀ F : Nat, (F : Int) < z → lX h F = sl_f β X L (GR (mi_a hb) F)) ∧ (∀ F : Nat, z ≤ F → lX h F = L F) ∧ (mi_f h 13999 = 0 → ∀ F : Nat, (F : Int) < z → sl_f β X L (GR (mi_a hb) F) = L F)
variable {Q : Option mi_V → sm_H → Prop} {za : Int} {q3 : Option mi_V}
theorem st137l (hL : sy_L hb Y) (hA : sy_A hb) (hSb : ab_Sh sx_sk hb) (oa : mi_in za) (oa1 : mi_in (za + 1)) (o3 : ∀ v, q3 = some v → mi_ok v) (K : ∀ h zb, mi_in zb → st_fl β hb W X L (mi_f hb 13965) h → me_E (d + 3) 194 74 [some (.inr (.inr 109)), some (.inl (za + 1)), some (.inl zb), q3] [] h Q) : ∀ (N : Nat) (zb : Int) (h : sm_H), 80 - zb < N → 0 ≤ zb → zb ≤ mi_f hb 13965 → st_fl β hb W X L zb h → me_E (d + 3) 194 137 [some (.inr (.inr 109)), some (.inl za), some (.inl zb), q3] [] h Q := by
  intro N
  induction N with
  | zero =>
    intro zb h hN b0 b1
    exfalso
    have := me_fb (c := 13965) hSb rfl
    omega
  | succ N ih =>
    intro zb h hN b0 b1 hI
    obtain ⟨⟨i1, i2, i3, i4, i5, i6⟩, l1, l2, l3, l4⟩ := id hI
    have b80 := me_fb (c := 13965) hSb rfl
    have ob : mi_in zb := ⟨by omega, by omega⟩
    have cn := st_cnt hSb i1
    have e := st_eq hSb i1
    refine mt_stH i1.1 oa ob o3 ?_ ?_
    · intro b c1
      refine ⟨oa1, fun h1 g1 g2 => ?_⟩
      have e0 := me_nil g2
      subst e0
      have : zb = mi_f hb 13965 := by omega
      rw [this] at hI
      exact K h1 zb ob hI
    · intro b c1 h1 g1 g2
      have e0 := me_nil g2
      subst e0
      have hL1 := sy_L_fr hL hSb i1.2.1
      have zlt : zb < mi_f hb 13965 := by omega
      have hA1 : ∀ j : Nat, (j : Int) < mi_a h1 130 zb.toNat → wk_alt (mi_a h1) j (mi_a h1 129 zb.toNat) < mi_f hb 13964 := fun j hj => by
        rw [wk_alt_cg (e 128 (by decide)), e 129 (by decide)]
        rw [e 130 (by decide)] at hj
        exact hA zb.toNat (by omega) j hj
      refine ⟨_, (me_formOfx (d := d + 2) (X := X) (A := mi_f hb 13964) hL1.1 b0 (by rw [hL1.2.2.1]; exact c1) i1.1 hA1 i3).and (me_formOfl (d := d + 2) (β := β) (X := X) (L := L) (A := mi_f hb 13964) hL1.1 b0 (by rw [hL1.2.2.1]; exact c1) i1.1 hA1 l1), fun w h2 oww hq => ?_⟩
      · obtain ⟨⟨rfl, s1, s2, s3, s4, s5, s6⟩, -, -, -, s7, s8⟩ := hq
        rw [e.g] at s3 s4 s5 s6 s7 s8
        have B2 : st_B hb W h2 := ⟨s1, i1.2.1.trans (s2.wide (fun c hc => ab_swr_ok (by decide) hc)), (funext fun i => me_b (k := 138) s2 i1.1 rfl rfl).trans i1.2.2⟩
        have e12 : rv_eq h1 h2 := rv_eq_fr s2 i1.1 rfl
        refine mt_stI s1 oa ob o3 ⟨⟨by omega, by omega⟩, fun h3 g1 g2 => ?_⟩
        have e0 := me_nil g2
        subst e0
        refine ih (zb + 1) h3 (by omega) (by omega) (by omega) ⟨⟨B2, fun u u0 u1 => rp_ok_fr s2 i1.1 rfl (i2 u u0 u1), fun a a0 a1 => ap_ok_fr s2 i1.1 e12 rfl (i3 a a0 a1), fun F hF => ?_, fun F hF => ?_, fun q F hF => ?_⟩, fun a a0 a1 => lp_ok_fr s2 i1.1 e12 rfl (l1 a a0 a1), fun F hF => ?_, fun F hF => ?_, fun q F hF => ?_⟩
        · show mi_a h3 133 F = _ ∧ mx_b h3 136 F = _ ∧ mi_a h3 144 F = _
          rw [s3, s4, s5]
          by_cases c : F = zb.toNat
          · rw [if_pos c, if_pos c, if_pos c, c]
            exact ⟨rfl, rfl, rfl⟩
          · rw [if_neg c, if_neg c, if_neg c]
            exact i4 F (by omega)
        · show mi_a h3 133 F = _ ∧ mx_b h3 136 F = _ ∧ mi_a h3 144 F = _
          have c : F ≠ zb.toNat := by omega
          rw [s3, s4, s5, if_neg c, if_neg c, if_neg c]
          exact i5 F (by omega)
        · obtain ⟨x1, x2, x3, x4⟩ := s6 q
          by_cases c : F = zb.toNat
          · obtain ⟨y1, y2, y3⟩ := i5 F (by omega)
            rw [← c] at x2 x3 x4
            exact ⟨x2.trans y1, x3.trans y2, x4.trans y3⟩
          · exact i6 x1 F (by omega)
        · show b64 (mi_a h3 141 F) = _
          rw [s7]
          by_cases c : F = zb.toNat
          · rw [if_pos c, c]
          · rw [if_neg c]
            exact l2 F (by omega)
        · show b64 (mi_a h3 141 F) = _
          have c : F ≠ zb.toNat := by omega
          rw [s7, if_neg c]
          exact l3 F (by omega)
        · obtain ⟨x1, -⟩ := s6 q
          by_cases c : F = zb.toNat
          · have := s8 q
            rw [← c] at this
            exact this.trans (l3 F (by omega))
          · exact l4 x1 F (by omega)
theorem st116l (hL : sy_L hb Y) (hSb : ab_Sh sx_sk hb) (oa : mi_in za) (o3 : ∀ v, q3 = some v → mi_ok v) (K : ∀ h, st_al β hb W X L (mi_f hb 13964) h → me_E (d + 3) 194 137 [some (.inr (.inr 109)), some (.inl za), some (.inl 0), q3] [] h Q) : ∀ (N : Nat) (zb : Int) (h : sm_H), 80 - zb < N → 0 ≤ zb → zb ≤ mi_f hb 13964 → st_al β hb W X L zb h → me_E (d + 3) 194 116 [some (.inr (.inr 109)), some (.inl za), some (.inl zb), q3] [] h Q := by
  intro N
  induction N with
  | zero =>
    intro zb h hN b0 b1
    exfalso
    have := me_fb (c := 13964) hSb rfl
    omega
  | succ N ih =>
    intro zb h hN b0 b1 hI
    obtain ⟨⟨⟨i1, i2, i3, i4⟩, i5⟩, l1, l2, l3⟩ := id hI
    have b80 := me_fb (c := 13964) hSb rfl
    have ob : mi_in zb := ⟨by omega, by omega⟩
    have cn := st_cnt hSb i1
    have e := st_eq hSb i1
    refine mt_stF i1.1 oa ob o3 ?_ ?_
    · intro b c1 h1 g1 g2
      have e0 := me_nil g2
      subst e0
      have : zb = mi_f hb 13964 := by omega
      rw [this] at hI
      exact K h1 hI
    · intro b c1 h1 g1 g2
      have e0 := me_nil g2
      subst e0
      have hL1 := sy_L_fr hL hSb i1.2.1
      have cu : ∀ u : Int, u < wk_u Y → u < mi_f hb 13963 := fun u u1 => by rw [hL1.2.1, cn.1] at u1; exact u1
      refine ⟨_, (me_alternativex (d := d + 1) (X := X) (U := wk_u Y) i1.1 (wk_L_C hL1.1) b0 (by omega) (hL1.2.2.2.1 zb b0 (by omega)) (fun u u0 u1 => by rw [e.p]; exact i4 u u0 (cu u u1))).and (me_alternativel (d := d + 1) (β := β) (X := X) (L := L) (U := wk_u Y) i1.1 (wk_L_C hL1.1) b0 (by omega) (hL1.2.2.2.1 zb b0 (by omega)) (fun u u0 u1 => by rw [e.p]; exact ⟨i4 u u0 (cu u u1), l2 u u0 (cu u u1)⟩)), fun w h2 oww hq => ?_⟩
      obtain ⟨⟨rfl, s1, s2, s3, s4, s5⟩, -, -, -, s6⟩ := hq
      have B2 : st_B hb W h2 := ⟨s1, i1.2.1.trans (s2.wide (fun c hc => ab_swr_ok (by decide) hc)), (funext fun i => me_b (k := 138) s2 i1.1 rfl rfl).trans i1.2.2⟩
      have e12 : rv_eq h1 h2 := rv_eq_fr s2 i1.1 rfl
      refine mt_stG s1 oa ob o3 ⟨⟨by omega, by omega⟩, fun h3 g1 g2 => ?_⟩
      have e0 := me_nil g2
      subst e0
      refine ih (zb + 1) h3 (by omega) (by omega) (by omega) ⟨⟨⟨B2, (rX_fr s2 i1.1 rfl).trans i2, (me_f (c := 13999) s2 i1.1 rfl rfl).trans i3, fun u u0 u1 => rp_ok_fr s2 i1.1 rfl (i4 u u0 u1)⟩, fun a a0 a1 => ?_⟩, (lX_fr s2 i1.1 rfl).trans l1, fun u u0 u1 => rl_ok_fr s2 i1.1 rfl (l2 u u0 u1), fun a a0 a1 => ?_⟩
      · unfold ap_ok
        rw [s3, s4, s5, e12.l]
        by_cases c : a = zb
        · rw [if_pos (by rw [c]), if_pos (by rw [c]), if_pos (by rw [c]), c]
          exact ⟨rfl, rfl, rfl⟩
        · have c' : a.toNat ≠ zb.toNat := by omega
          rw [if_neg c', if_neg c', if_neg c']
          exact i5 a a0 (by omega)
      · unfold lp_ok
        rw [s6, e12.l]
        by_cases c : a = zb
        · rw [if_pos (by rw [c]), c]
        · have c' : a.toNat ≠ zb.toNat := by omega
          rw [if_neg c']
          exact l3 a a0 (by omega)
theorem st95l (hβ : bt_ok β hb) (hL : sy_L hb Y) (hSb : ab_Sh sx_sk hb) (hH : ∀ F : Nat, (F : Int) < mi_f hb 13965 → X.2.2 F ≤ 1000) (oa : mi_in za) (o3 : ∀ v, q3 = some v → mi_ok v) (K : ∀ h, st_wl β hb W X L (mi_f hb 13963) h → me_E (d + 3) 194 116 [some (.inr (.inr 109)), some (.inl za), some (.inl 0), q3] [] h Q) : ∀ (N : Nat) (zb : Int) (h : sm_H), 60 - zb < N → 0 ≤ zb → zb ≤ mi_f hb 13963 → st_wl β hb W X L zb h → me_E (d + 3) 194 95 [some (.inr (.inr 109)), some (.inl za), some (.inl zb), q3] [] h Q := by
  intro N
  induction N with
  | zero =>
    intro zb h hN b0 b1
    exfalso
    have := me_fb (c := 13963) hSb rfl
    omega
  | succ N ih =>
    intro zb h hN b0 b1 hI
    obtain ⟨⟨i1, i2, i3, i4⟩, l1, l2⟩ := id hI
    have b60 := me_fb (c := 13963) hSb rfl
    have ob : mi_in zb := ⟨by omega, by omega⟩
    have cn := st_cnt hSb i1
    have e := st_eq hSb i1
    refine mt_stD i1.1 oa ob o3 ?_ ?_
    · intro b c1 h1 g1 g2
      have e0 := me_nil g2
      subst e0
      have : zb = mi_f hb 13963 := by omega
      rw [this] at hI
      exact K h1 hI
    · intro b c1 h1 g1 g2
      have e0 := me_nil g2
      subst e0
      have hL1 := sy_L_fr hL hSb i1.2.1
      have hH1 : ∀ F : Nat, (F : Int) < wk_f Y → mi_a h1 144 F ≤ 1000 := fun F hF => by
        rw [hL1.2.2.1, cn.2.2.1] at hF
        have := hH F hF
        rw [← i2] at this
        exact this
      have zlt : zb < mi_f hb 13963 := by omega
      refine ⟨_, (me_weighx (d := d + 2) hL1.1 b0 (by rw [hL1.2.1]; exact c1) hH1 i1.1).and (me_weighl (d := d + 2) hL1.1 b0 (by rw [hL1.2.1]; exact c1) hH1 i1.1), fun w h2 oww hq => ?_⟩
      · obtain ⟨⟨rfl, s1, s2, s3, s4, s5⟩, -, -, -, s6⟩ := hq
        rw [i2, e.p] at s3 s4 s5
        have B2 : st_B hb W h2 := ⟨s1, i1.2.1.trans (s2.wide (fun c hc => ab_swr_ok (by decide) hc)), (funext fun i => me_b (k := 138) s2 i1.1 rfl rfl).trans i1.2.2⟩
        refine mt_stE s1 oa ob o3 ⟨⟨by omega, by omega⟩, fun h3 g1 g2 => ?_⟩
        have e0 := me_nil g2
        subst e0
        refine ih (zb + 1) h3 (by omega) (by omega) (by omega) ⟨⟨B2, (rX_fr s2 i1.1 rfl).trans i2, (me_f (c := 13999) s2 i1.1 rfl rfl).trans i3, fun u u0 u1 => ?_⟩, (lX_fr s2 i1.1 rfl).trans l1, fun u u0 u1 => ?_⟩
        · unfold rp_ok
          rw [s3, s4, s5]
          by_cases c : u = zb
          · rw [if_pos (by rw [c]), if_pos (by rw [c]), if_pos (by rw [c]), c]
            exact ⟨rfl, rfl, rfl⟩
          · have c' : u.toNat ≠ zb.toNat := by omega
            rw [if_neg c', if_neg c', if_neg c']
            exact i4 u u0 (by omega)
        · unfold rl_ok
          rw [s6]
          by_cases c : u = zb
          · rw [if_pos (by rw [c]), c, ← l1]
            exact ld_b hβ e b0 zlt
          · have c' : u.toNat ≠ zb.toNat := by omega
            rw [if_neg c']
            exact l2 u u0 (by omega)
theorem sl_f_eq {n : Nat} {X Z : sp_X} {L M : Nat → Int64} {as : List (List sp_P)} (hv : sp_eq n X Z) (hl : ∀ F : Nat, F < n → L F = M F) (ho : ∀ us ∈ as, sg_ok n us) : sl_f β X L as = sl_f β Z M as := tb_ext (fun b => sl_f_b (β := β) (n := n) (X := X) (Y := Z) hv.v (fun F hF => by rw [hl F hF]) as ho)
/-- the first rounds are through -/
def st_1y (β : Int → Int64) (hb : sm_H) (W : sp_F) (j : Nat) (h : sm_H) : Prop := st_1x hb W j h ∧ (∀ F : Nat, (F : Int) < mi_f hb 13965 → lX h F = lr_k β (GR (mi_a hb)) j F) ∧ (∀ F : Nat, (F : Int) < mi_f hb 13965 → lr_k β (GR (mi_a hb)) (j + 1) F = lr_k β (GR (mi_a hb)) j F) ∧ ∃ X, sp_eq (mi_f hb 13965).toNat X (sr_k (GR (mi_a hb)) j) ∧ ∀ a : Int, 0 ≤ a → a < mi_f hb 13964 → ap_ok X h a
def st_Hl (β : Int → Int64) (hb : sm_H) (W : sp_F) (k : Nat) (h : sm_H) : Prop := st_H hb W k h ∧ (∀ F : Nat, (F : Int) < mi_f hb 13965 → lX h F = lr_k β (GR (mi_a hb)) k F) ∧ ∀ j, k = j + 1 → (mi_f h 13999 = 0 → ∀ F : Nat, (F : Int) < mi_f hb 13965 → lr_k β (GR (mi_a hb)) (j + 1) F = lr_k β (GR (mi_a hb)) j F) ∧ ∃ X, sp_eq (mi_f hb 13965).toNat X (sr_k (GR (mi_a hb)) j) ∧ ∀ a : Int, 0 ≤ a → a < mi_f hb 13964 → ap_ok X h a
theorem st_endl {k : Nat} {h : sm_H} (hL : sy_L hb Y) (hA : sy_A hb) (hSb : ab_Sh sx_sk hb) (hH : st_Hl β hb W k h) (hx : mi_f h 13999 = 0 ∨ 900 ≤ k) : ∃ j, st_1y β hb W j h := by
  obtain ⟨⟨i1, i3, i5, i6⟩, l1, l2⟩ := hH
  have hG := sy_OK hL hA
  have b80 := me_fb (c := 13965) hSb rfl
  cases k with
  | zero =>
    exfalso
    rcases hx with q | q
    · exact i5 rfl q
    · omega
  | succ j =>
    obtain ⟨j1, X, j2, j3⟩ := i6 j rfl
    obtain ⟨m1, Z, m2, m3⟩ := l2 j rfl
    have E : sp_eq (mi_f hb 13965).toNat (sr_k (GR (mi_a hb)) (j + 1)) (sr_k (GR (mi_a hb)) j) := by
      rcases hx with q | q
      · exact j1 q
      · exact sr_k_stop hG (by omega)
    have EL : ∀ F : Nat, (F : Int) < mi_f hb 13965 → lr_k β (GR (mi_a hb)) (j + 1) F = lr_k β (GR (mi_a hb)) j F := by
      rcases hx with q | q
      · exact m1 q
      · exact fun F hF => lr_stop hG (by omega) F (by omega)
    exact ⟨j, ⟨i1, i3.trans E, sr_fix E, fun u u0 u1 => rq_ok_eq j2 (rv_p1 hL u0 (by rw [hL.2.1]; exact u1)) (j3 u u0 u1)⟩, fun F hF => (l1 F hF).trans (EL F hF), EL, Z, m2, m3⟩
theorem st74l (hβ : bt_ok β hb) (hL : sy_L hb Y) (hA : sy_A hb) (hSb : ab_Sh sx_sk hb) (K : ∀ h j q2 q3, (∀ v, q2 = some v → mi_ok v) → (∀ v, q3 = some v → mi_ok v) → st_1y β hb W j h → mi_f h 13999 = 1 → me_E (d + 3) 194 169 [some (.inr (.inr 109)), some (.inl 0), q2, q3] [] h Q) : ∀ (N k : Nat) (q2 q3 : Option mi_V) (h : sm_H), 900 - k < N → k ≤ 900 → (∀ v, q2 = some v → mi_ok v) → (∀ v, q3 = some v → mi_ok v) → st_Hl β hb W k h → me_E (d + 3) 194 74 [some (.inr (.inr 109)), some (.inl (k : Int)), q2, q3] [] h Q := by
  have hG := sy_OK hL hA
  have b80 := me_fb (c := 13965) hSb rfl
  have b64' := me_fb (c := 13964) hSb rfl
  have b63 := me_fb (c := 13963) hSb rfl
  have out : ∀ (h h1 : sm_H) (j : Nat) (q2 q3 : Option mi_V), (∀ v, q2 = some v → mi_ok v) → (∀ v, q3 = some v → mi_ok v) → st_1y β hb W j h → ab_Sh sx_sk h1 → mi_f h1 13999 = 1 → ab_Fr [(13999, 14000)] h h1 → me_E (d + 3) 194 169 [some (.inr (.inr 109)), some (.inl 0), q2, q3] [] h1 Q := by
    intro h h1 j q2 q3 o2 o3 hj s1 s2 s3
    obtain ⟨⟨⟨b1, b2, b3⟩, j2, j3, j4⟩, l1, l2, Z, l3, l4⟩ := hj
    refine K h1 j q2 q3 o2 o3 ⟨⟨⟨s1, b2.trans (s3.wide (fun c hc => ab_swr_ok (by decide) hc)), (funext fun i => me_b (k := 138) s3 b1 rfl rfl).trans b3⟩, by rw [rX_fr s3 b1 rfl]; exact j2, j3, fun u u0 u1 => ?_⟩, fun F hF => by rw [lX_fr s3 b1 rfl]; exact l1 F hF, l2, Z, l3, fun a a0 a1 => ap_ok_fr s3 b1 (rv_eq_fr s3 b1 rfl) rfl (l4 a a0 a1)⟩ s2
    obtain ⟨x1, x2⟩ := j4 u u0 u1
    exact ⟨(me_a (k := 131) s3 b1 rfl rfl).trans x1, (me_b (k := 134) s3 b1 rfl rfl).trans x2⟩
  intro N
  induction N with
  | zero => intro k q2 q3 h hN; exfalso; omega
  | succ N ih =>
    intro k q2 q3 h hN hk o2 o3 hH
    have oa : mi_in (k : Int) := ⟨by omega, by omega⟩
    refine mt_stC hH.1.1.1 oa o2 o3 ?_ ?_ ?_
    · intro c1 h1 s1 s2 s3
      obtain ⟨j, hj⟩ := st_endl hL hA hSb hH (Or.inr (by omega))
      exact out h h1 j q2 q3 o2 o3 hj s1 s2 s3
    · intro b c1 c2 h1 s1 s2 s3
      obtain ⟨j, hj⟩ := st_endl hL hA hSb hH (Or.inl c2)
      exact out h h1 j q2 q3 o2 o3 hj s1 s2 s3
    · intro b c1 c2 h1 s1 s2 s3
      obtain ⟨⟨⟨b1, b2, b3⟩, i3, i5, i6⟩, l1, l2⟩ := hH
      have eX : rX h1 = rX h := rX_fr s3 b1 rfl
      have eL : lX h1 = lX h := lX_fr s3 b1 rfl
      have B1 : st_B hb W h1 := ⟨s1, b2.trans (s3.wide (fun c hc => ab_swr_ok (by decide) hc)), (funext fun i => me_b (k := 138) s3 b1 rfl rfl).trans b3⟩
      refine st95l (W := W) (X := rX h) (L := lX h) hβ hL hSb (fun F hF => ?_) oa o3 (fun h2 w2 => ?_) 61 0 h1 (by decide) (by decide) b63.1 ⟨⟨B1, eX, s2, fun u u0 u1 => by omega⟩, eL, fun u u0 u1 => by omega⟩
      · rw [(i3 F (by omega)).2.2]
        exact sr_k_1000 k F
      · refine st116l (W := W) (X := rX h) (L := lX h) (β := β) hL hSb oa o3 (fun h3 w3 => ?_) 81 0 h2 (by decide) (by decide) b64'.1 ⟨⟨w2.1, fun a a0 a1 => by omega⟩, w2.2.1, w2.2.2, fun a a0 a1 => by omega⟩
        obtain ⟨⟨⟨y1, y2, y3, y4⟩, y5⟩, n1, n2, n3⟩ := w3
        refine st137l (W := W) (X := rX h) (L := lX h) (β := β) hL hA hSb oa ⟨by omega, by omega⟩ o3 (fun h4 zb ob w4 => ?_) 81 0 h3 (by decide) (by decide) b80.1 ⟨⟨y1, y4, y5, fun F hF => by omega, fun F _ => by rw [y2]; exact ⟨rfl, rfl, rfl⟩, fun _ F hF => by omega⟩, n3, fun F hF => by omega, fun F _ => by rw [n1], fun _ F hF => by omega⟩
        obtain ⟨⟨z1, z2, z3, z4, z5, z6⟩, p1, p2, p3, p4⟩ := w4
        have ek : (k : Int) + 1 = ((k + 1 : Nat) : Int) := by omega
        rw [ek]
        have N4 : sp_eq (mi_f hb 13965).toNat (rX h4) (sr_k (GR (mi_a hb)) (k + 1)) := by
          have a : sp_eq (mi_f hb 13965).toNat (rX h4) (sr (GR (mi_a hb)) (rX h)) := fun F hF => z4 F (by omega)
          exact a.trans (sr_eq hG i3)
        have EL : ∀ F : Nat, (F : Int) < mi_f hb 13965 → sl_f β (rX h) (lX h) (GR (mi_a hb) F) = lr_k β (GR (mi_a hb)) (k + 1) F := fun F hF => sl_f_eq (n := (mi_f hb 13965).toNat) i3 (fun F' hF' => l1 F' (by omega)) (fun us hu => (hG F (by omega) us hu).1)
        refine ih (k + 1) _ _ h4 (by omega) (by omega) (me_oi ob) o3 ⟨⟨z1, N4, fun q => by omega, fun j ej => ?_⟩, fun F hF => (p2 F hF).trans (EL F hF), fun j ej => ?_⟩
        · have : j = k := by omega
          subst this
          refine ⟨fun q => ?_, rX h, i3, z2⟩
          have a : sp_eq (mi_f hb 13965).toNat (sr (GR (mi_a hb)) (rX h)) (rX h) := fun F hF => z6 q F (by omega)
          exact ((sr_eq hG i3).symm.trans a).trans i3
        · have : j = k := by omega
          subst this
          exact ⟨fun q F hF => ((EL F hF).symm.trans (p4 q F hF)).trans (l1 F hF), rX h, i3, z3⟩
end STL
