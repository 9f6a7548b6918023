/-! the walk's loop, turn by turn -/
def wl_End (Y : wk_Y) (h0 : sm_H) (μ : Int) (T : Int → sm_H → Prop) (w : Option mi_V) (h' : sm_H) : Prop := w = none ∧ ab_Sh sx_sk h' ∧ ab_Fr wr_WK h0 h' ∧ ((mi_f h' 14044 = 1 ∨ (μ = 0 ∧ 0 ≤ mi_f h' 14034)) ∨ ∃ zt, 0 ≤ zt ∧ zt ≤ 40000 ∧ (wk_stk h' = [] ∨ zt = 40000) ∧ wl_I Y h0 μ T zt h')
/-- stopped, or going on -/
def wl_H (Y : wk_Y) (h0 : sm_H) (μ : Int) (T : Int → sm_H → Prop) (zt : Int) (h : sm_H) : Prop := (ab_Sh sx_sk h ∧ ab_Fr wr_WK h0 h ∧ (mi_f h 14044 = 1 ∨ (μ = 0 ∧ 0 ≤ mi_f h 14034))) ∨ wl_I Y h0 μ T zt h
theorem wk_SI_nn {Y : wk_Y} {Z : wk_P} : ∀ (r : List wk_E) (q : Nat) (p l : Int), wk_SI Y Z r q p l → 0 ≤ l := by
  intro r
  induction r with
  | nil => intro q p l h; unfold wk_SI at h; omega
  | cons e r ih =>
    intro q p l h
    unfold wk_SI at h
    rcases h with h | h | h | h | h | h | h | h | h | h
    · exact ih _ _ _ h.2.2.2.2
    · exact ih _ _ _ h.2.2.2.2
    · exact ih _ _ _ h.2.2.2.2
    · exact ih _ _ _ h.2.2.2
    · exact ih _ _ _ h.2.2.2.2
    · exact ih _ _ _ h.2.2.2.2
    · exact ih _ _ _ h.2.2.2
    · exact ih _ _ _ h.2.2.2
    · exact ih _ _ _ h.2.2.2
    · omega
section WLM
variable {d : Nat} {h0 : sm_H} {Y : wk_Y} {μ zh : Int} {T : Int → sm_H → Prop}
theorem wl_247 {zt : Int} {q3 q4 : Option mi_V} {h : sm_H} (oh : mi_in zh) (ot : mi_in zt) (o3 : ∀ v, q3 = some v → mi_ok v) (o4 : ∀ v, q4 = some v → mi_ok v) (h1 : 0 ≤ zt) (h2 : zt ≤ 40000) (hH : wl_H Y h0 μ T zt h) (he : wl_I Y h0 μ T zt h → mi_f h 14029 ≤ 0 ∨ zt = 40000) : me_E (d + 7) 206 247 [some (.inr (.inr 109)), some (.inl zh), some (.inl zt), q3, q4] [] h (wl_End Y h0 μ T) := by
  have hS : ab_Sh sx_sk h := by
    rcases hH with hH | hH
    · exact hH.1
    · exact hH.1.1
  have fin : wl_End Y h0 μ T none h := by
    rcases hH with ⟨k1, k2, k3⟩ | hI
    · exact ⟨rfl, k1, k2, Or.inl k3⟩
    · refine ⟨rfl, hS, hI.2.1, Or.inr ⟨zt, h1, h2, ?_, hI⟩⟩
      rcases he hI with e | e
      · refine Or.inl ?_
        have := hI.1.2.2.2.2.2.2.1
        have e0 : mi_f h 14029 = 0 := by omega
        unfold wk_stk
        rw [e0]
        rfl
      · exact Or.inr e
  refine mt_waE hS oh ot o3 o4 ?_ ?_ ?_ ?_ ?_
  · intro b c h3 r1 r2
    have e3 := me_nil r2
    subst e3
    exact fin
  · intro b1 b2 c1 c2 h3 r1 r2
    have e3 := me_nil r2
    subst e3
    exact fin
  · intro b1 b2 b3 c1 c2 c3 h3 r1 r2
    have e3 := me_nil r2
    subst e3
    exact fin
  · intro b1 b2 b3 b4 c1 c2 c3 c4
    rcases hH with hH | hI
    · exfalso; omega
    · have e0 : μ = 0 := by have := hI.1.2.1; omega
      have ht := hI.1.2.2.2.2.2.1 e0
      have bt := me_fb (c := 14011) hS rfl
      refine ⟨by omega, fun h3 r1 r2 => ?_⟩
      have e3 := me_nil r2
      subst e3
      exact fin
  · intro b1 b2 b3 b4 c1 c2 c3 c4
    rcases hH with hH | hI
    · exfalso; omega
    · have e0 : μ = 0 := by have := hI.1.2.1; omega
      have ht := hI.1.2.2.2.2.2.1 e0
      have bt := me_fb (c := 14011) hS rfl
      have bf := me_ab (k := 153) (i := (mi_f h 14033).toNat) hS rfl (by decide) (by omega)
      refine ⟨by omega, fun h3 r1 r2 r3 => ?_⟩
      exact ⟨rfl, r1, hI.2.1.trans (r3.wide (fun c hc => ab_swr_ok (by decide) hc)), Or.inl (Or.inr (by rw [r2]; exact ⟨e0, bf.1⟩))⟩
/-- made nodes never become fewer -/
theorem wl_made {h h' : sm_H} (hn : wk_n μ h ≤ wk_n μ h') (hm : μ = 2 → mi_f h' 14016 = mi_f h 14016) : mi_f h 14016 ≤ mi_f h' 14016 := by
  by_cases e : μ = 2
  · rw [hm e]
    exact Int.le_refl _
  · unfold wk_n at hn
    rw [if_neg e, if_neg e] at hn
    exact hn
theorem wl_unit {zt w a : Int} {h h1 h' : sm_H} {r : List wk_E} (hT : wl_T Y h0 μ T) (hL : wk_L (mi_a h) Y) (hI : wl_I Y h0 μ T zt h) (z0 : 0 ≤ zt) (z1 : zt < 40000) (ht : 0 < mi_f h 14029) (g1 : ab_Sh sx_sk h1) (g2 : mi_f h1 14029 = mi_f h 14029 - 1) (g3 : ab_Fr [(14029, 14030)] h h1) (hst : wk_stk h = (0, w, a) :: wk_stk h1) (ha : a = 0 ∨ a = 1) (q1 : ab_Sh sx_sk h') (q2 : ab_Fr wr_W2 h1 h') (q3 : un_R μ w a h1 h') (q4 : mi_f h' 14030 = mi_f h1 14030 + a) (q5 : ∀ i, mi_a h' 168 i = if a = 1 ∧ i = (mi_f h1 14030).toNat then mi_f h1 14016 else mi_a h1 168 i) (q6 : ∀ i, mi_a h' 169 i = mi_a h1 169 i) : wl_I Y h0 μ T (zt + 1) h' := by
  obtain ⟨-, hg, hn, hag, hK2, hV2, hZ, e30, e32, e16, hlen⟩ := wl_pop hI ht g1 g2 g3
  obtain ⟨r1, r2, r3, r4, r5, r6, r7, r8, r9, r10, r11, r12, r13⟩ := q3
  rw [hn] at r5 r6 r12 r13
  rw [hg 122 (by decide)] at r12 r13
  rw [wk_pf_g hg] at r13
  have hF1 : ab_Fr wr_WK h h' := (g3.wide (fun c hc => ab_swr_ok (by decide) hc)).trans (q2.wide (fun c hc => ab_swr_ok (by decide) hc))
  have hag' : wk_ag μ (wk_n μ h) h h' := hag.trans r6 (Int.le_refl _)
  have i3 := hI.1.2.2.1
  have hSI := hI.2.2.1
  rw [hst] at hSI
  have hm : mi_f h 14016 ≤ mi_f h' 14016 := wl_made r5 (fun e => (r7 e).trans e16)
  have b16 := me_fb (c := 14016) hI.1.1 rfl
  -- below the unit
  have base : wk_U Y w ((wk_stk h1).length : Int) (mi_f h 14030) (mi_f h 14032) (1 - a) ∧ wk_SI Y (wl_Z h') (wk_stk h1) 0 (mi_f h 14030 + a) (mi_f h 14032) := by
    rcases ha with rfl | rfl
    · obtain ⟨u1, u2⟩ := wk_unit0 hSI
      refine ⟨u1, ?_⟩
      rw [Int.add_zero]
      refine wk_SI_Z _ _ _ _ u2 (fun i _ => ⟨?_, ?_⟩) hm
      · show mi_a h' 168 i = mi_a h 168 i
        rw [q5, if_neg (fun e => by omega)]
        exact me_a (k := 168) g3 hI.1.1 rfl rfl
      · show mi_a h' 169 i = mi_a h 169 i
        rw [q6]
        exact me_a (k := 169) g3 hI.1.1 rfl rfl
    · obtain ⟨u1, u2⟩ := wk_unit1 hSI
      have hp := u1.2.2.2.1
      refine ⟨u1, wk_open (wk_SI_Z (Z' := wl_Z h') _ _ _ _ u2 (fun i hi => ⟨?_, ?_⟩) hm) ?_⟩
      · show mi_a h' 168 i = mi_a h 168 i
        rw [if_neg (by decide)] at hi
        rw [q5, if_neg (fun e => by omega)]
        exact me_a (k := 168) g3 hI.1.1 rfl rfl
      · show mi_a h' 169 i = mi_a h 169 i
        rw [q6]
        exact me_a (k := 169) g3 hI.1.1 rfl rfl
      · have ei : (mi_f h 14030 + 1 - 1).toNat = (mi_f h1 14030).toNat := by omega
        show 0 ≤ mi_a h' 168 (mi_f h 14030 + 1 - 1).toNat ∧ mi_a h' 168 (mi_f h 14030 + 1 - 1).toNat ≤ mi_f h' 14016
        rw [ei, q5, if_pos ⟨rfl, rfl⟩]
        omega
  obtain ⟨⟨u1, u2, u3, u4, u5, u6, u7⟩, hb⟩ := base
  have hb0 : (0 : Int) ≤ mi_f h 14030 + a := by omega
  have hb1 : mi_f h 14030 + a ≤ 5 * (mi_f h 14032 - 1) + wk_d Y (wk_c Y w) + 1 := by omega
  have hSI' : wk_SI Y (wl_Z h') (wk_stk h') 0 (mi_f h' 14030) (mi_f h' 14032) := by
    rw [q4, e30]
    by_cases hw : mi_a h 122 w.toNat = 1
    · obtain ⟨s1, -⟩ := r12 hw
      rw [r8, s1, wk_ul_c (by decide), wk_ul_o, wk_SI_ul _ _ _ _ hb, Int.zero_add]
      exact wl_A u1 u2 u3 hb0 hb1 u6 u7 hb
    · rw [r8]
      exact wl_B hL u1 u2 u3 hb0 hb1 u6 u7 hb hw (r13 hw) (by omega)
  refine ⟨⟨q1, r1, i3, r2, r3, r4, by omega, wk_SI_nn _ _ _ _ hSI', r9, r8.symm, ?_⟩, hI.2.1.trans hF1, hSI', ?_, ?_⟩
  · have := hI.1.2.2.2.2.2.2.2.2.2.2
    omega
  · by_cases hw : mi_a h 122 w.toNat = 1
    · obtain ⟨s1, s2, s3, s4, s5, s6⟩ := r12 hw
      by_cases e0 : μ = 0
      · subst e0
        rw [if_pos rfl] at s1
        exact hT.2.2.2.1 rfl zt h h' w a (wk_stk h1) z0 z1 hI q1 hF1 hst hw s1 s2 s3 (s6 rfl) hag'
      · rw [if_neg e0] at s1
        refine hT.2.2.1 zt h h' z0 z1 hI q1 hF1 ?_ r5 hag' (fun e => absurd e e0)
        have i11 := hI.1.2.2.2.2.2.2.2.2.2.2
        have e1 : (wk_n μ h').toNat = (wk_n μ h).toNat + 1 := by omega
        unfold wk_pf
        rw [hst]
        dsimp only
        rw [if_pos rfl, if_pos hw, if_pos ⟨s3, s4, s5⟩, s1, e1]
    · refine hT.2.2.1 zt h h' z0 z1 hI q1 hF1 (by rw [hst]; exact r13 hw) r5 hag' (fun _ e rr her => ?_)
      rw [hst] at her
      cases her
      exact ⟨show (0 : Int) ≠ 5 from by decide, fun _ => hw⟩
  · obtain ⟨⟨a1, -, -, a4, a5⟩, -⟩ := hL.2.2.1 w u1 u2
    have := (hL.2.2.2 _ a4 a5).2.1
    omega
end WLM
