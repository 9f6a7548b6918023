/-! the walk's loop: forms, agains, the others -/
section WLN
variable {d : Nat} {h0 : sm_H} {Y : wk_Y} {μ zh : Int} {T : Int → sm_H → Prop}
theorem wl_SIz {h h1 h' : sm_H} {r : List wk_E} {q : Nat} {p l : Int} {wr : List (Nat × Nat)} (hs : wk_SI Y (wl_Z h) r q p l) (hS : ab_Sh sx_sk h) (g3 : ab_Fr [(14029, 14030)] h h1) (hS1 : ab_Sh sx_sk h1) (q2 : ab_Fr wr h1 h') (hw : (ab_in wr 21504 || ab_in wr 21632) = false) (hm : mi_f h 14016 ≤ mi_f h' 14016) : wk_SI Y (wl_Z h') r q p l := by
  simp only [Bool.or_eq_false_iff] at hw
  refine wk_SI_Z _ _ _ _ hs (fun i _ => ⟨?_, ?_⟩) hm
  · show mi_a h' 168 i = mi_a h 168 i
    rw [me_a (k := 168) q2 hS1 rfl hw.1]
    exact me_a (k := 168) g3 hS rfl rfl
  · show mi_a h' 169 i = mi_a h 169 i
    rw [me_a (k := 169) q2 hS1 rfl hw.2]
    exact me_a (k := 169) g3 hS rfl rfl
theorem wl_form {zt f a : Int} {h h1 h' : sm_H} (hT : wl_T Y h0 μ T) (hL : wk_L (mi_a h) Y) (hI : wl_I Y h0 μ T zt h) (z0 : 0 ≤ zt) (z1 : zt < 40000) (ht : 0 < mi_f h 14029) (g1 : ab_Sh sx_sk h1) (g2 : mi_f h1 14029 = mi_f h 14029 - 1) (g3 : ab_Fr [(14029, 14030)] h h1) (hst : wk_stk h = (1, f, a) :: wk_stk h1) (hq : ch_Q μ f h1 none h') : wl_H Y h0 μ T (zt + 1) h' := by
  obtain ⟨-, hg, hn, hag, hK2, hV2, hZ, e30, e32, e16, hlen⟩ := wl_pop hI ht g1 g2 g3
  obtain ⟨-, q1, q2, q3⟩ := hq
  have hF1 : ab_Fr wr_WK h h' := (g3.wide (fun c hc => ab_swr_ok (by decide) hc)).trans (q2.wide (fun c hc => ab_swr_ok (by decide) hc))
  rcases q3 with q3 | ⟨r1, r2, r3, r4, r5, r6, r7, r8, r9, j, hj, r10⟩
  · exact Or.inl ⟨q1, hI.2.1.trans hF1, q3⟩
  · rw [hn] at r5 r6 r10
    rw [hg 130 (by decide)] at hj r10
    rw [hg 129 (by decide), wk_alt_g hg, hg 126 (by decide), wk_it_g hg, hg 126 (by decide), wk_it_g hg] at r10
    have hag' : wk_ag μ (wk_n μ h) h h' := hag.trans r6 (Int.le_refl _)
    have hSI := hI.2.2.1
    rw [hst] at hSI
    have hm : mi_f h 14016 ≤ mi_f h' 14016 := wl_made r5 (fun e => (r7 e).trans e16)
    obtain ⟨f1, f2⟩ := wk_form hSI
    have f2' := wl_SIz f2 hI.1.1 g3 g1 q2 rfl hm
    obtain ⟨d1, d2, d3⟩ := wl_D hL f1 f2' hj
    have i10 := hI.1.2.2.2.2.2.2.2.2.2.1
    have i11 := hI.1.2.2.2.2.2.2.2.2.2.2
    rw [hst, wk_ul_c (by decide)] at i10
    have ep : mi_f h' 14030 = mi_f h 14030 := (me_f (c := 14030) q2 g1 rfl rfl).trans e30
    have hSI' : wk_SI Y (wl_Z h') (wk_stk h') 0 (mi_f h' 14030) (mi_f h' 14032) := by
      rw [ep, r8, e32]
      rcases r10 with ⟨s1, s2, -⟩ | ⟨s1, s2, s3, -⟩
      · rw [s2]; exact d3
      · subst s2
        rw [s3]; exact d2
    have eu : wk_ul (wk_stk h') = mi_f h' 14032 := wk_SI_ul _ _ _ _ hSI'
    refine Or.inr ⟨⟨q1, r1, hI.1.2.2.1, r2, r3, r4, r9, wk_SI_nn _ _ _ _ hSI', by rw [r8, e32]; exact hI.1.2.2.2.2.2.2.2.2.1, eu, by omega⟩, hI.2.1.trans hF1, hSI', ?_, ?_⟩
    rotate_left
    · have e := wk_stk_len r9
      have hp60 := hI.2.2.2.2.2
      rcases r10 with ⟨s1, s2, -⟩ | ⟨s1, s2, s3, -⟩
      · rw [s2, List.length_append, List.length_cons] at e
        omega
      · subst s2
        rw [s3, List.length_append] at e
        have d1' : ((wk_it (mi_a h) 61 (mi_a h 126 (mi_a h 129 f.toNat).toNat)).length : Int) + ((wk_stk h1).length : Int) + 1 ≤ 2999 := d1
        omega
    refine hT.2.2.1 zt h h' z0 z1 hI q1 hF1 ?_ r5 hag' (fun _ e rr her => ?_)
    · unfold wk_pf
      rw [hst]
      dsimp only
      rw [if_neg (by decide), if_pos rfl]
      rcases r10 with ⟨s1, s2, s3, s4, s5⟩ | ⟨s1, s2, s3, s4⟩
      · have e1 : (wk_n μ h').toNat = (wk_n μ h).toNat + 1 := by omega
        rw [if_pos s1, if_pos ⟨s4, by rw [s5]; omega, by rw [s5]; exact hj⟩, s5, s2, e1]
        rfl
      · rw [if_neg s1, s3, s4]
    · rw [hst] at her
      cases her
      exact ⟨show (1 : Int) ≠ 5 from by decide, fun e => absurd (show (1 : Int) = 0 from e) (by decide)⟩
theorem wl_again {zt w a : Int} {h h1 h' : sm_H} (hT : wl_T Y h0 μ T) (hL : wk_L (mi_a h) Y) (hI : wl_I Y h0 μ T zt h) (z0 : 0 ≤ zt) (z1 : zt < 40000) (ht : 0 < mi_f h 14029) (g1 : ab_Sh sx_sk h1) (g2 : mi_f h1 14029 = mi_f h 14029 - 1) (g3 : ab_Fr [(14029, 14030)] h h1) (hst : wk_stk h = (5, w, a) :: wk_stk h1) (hi1 : wk_in μ h1) (hq : ag_Q μ w a h1 none h') : wl_H Y h0 μ T (zt + 1) h' := by
  obtain ⟨-, hg, hn, hag, hK2, hV2, hZ, e30, e32, e16, hlen⟩ := wl_pop hI ht g1 g2 g3
  obtain ⟨-, q1, q2, q3⟩ := hq
  have hF1 : ab_Fr wr_WK h h' := (g3.wide (fun c hc => ab_swr_ok (by decide) hc)).trans (q2.wide (fun c hc => ab_swr_ok (by decide) hc))
  have hSI := hI.2.2.1
  rw [hst] at hSI
  obtain ⟨f1, f2⟩ := wk_again hSI
  have i11 := hI.1.2.2.2.2.2.2.2.2.2.2
  rcases q3 with q3 | ⟨rfl, q4⟩ | ⟨r1, r2, r3, r4, r5, r6, r7, r8, r9, r10, r11, r12, r13, r14⟩
  · exact Or.inl ⟨q1, hI.2.1.trans hF1, q3⟩
  · have hb29 := hI.2.2.2.2.1
    have hb30 := hI.2.2.2.2.2
    refine Or.inr ⟨hi1, hI.2.1.trans hF1, by rw [hZ, e30, e32]; exact f2, ?_, by omega⟩
    by_cases e0 : μ = 0
    · subst e0
      exact hT.2.2.2.2.1 rfl zt h h' w a (wk_stk h') z0 z1 hI q1 hF1 hst rfl (hn 0) hag
    · refine hT.2.2.1 zt h h' z0 z1 hI q1 hF1 ?_ (by rw [hn]; exact Int.le_refl _) hag (fun e => absurd e e0)
      have := q4 e0
      unfold wk_pf
      rw [hst]
      dsimp only
      rw [if_neg (by decide), if_neg (by decide), if_pos rfl, if_neg (by omega), hn]
  · rw [hn] at r6 r7 r14
    rw [wk_sS_g hg] at r11
    rw [wk_sg_g hg] at r14
    have hm : mi_f h 14016 ≤ mi_f h' 14016 := wl_made r6 (fun e => (r8 e).trans e16)
    have f2' := wl_SIz f2 hI.1.1 g3 g1 q2 rfl hm
    have ep : mi_f h' 14030 = mi_f h 14030 := (me_f (c := 14030) q2 g1 rfl rfl).trans e30
    have hSI' : wk_SI Y (wl_Z h') (wk_stk h') 0 (mi_f h' 14030) (mi_f h' 14032) := by
      rw [ep, r9, r11]
      exact wl_C hL f1 f2' (by rw [← r11, ← r9]; exact r10)
    have hag1 : ∀ i : Nat, (i : Int) < wk_n μ h → wk_K μ h1 i = wk_K μ h i ∧ wk_V μ h1 i = wk_V μ h i := hag
    refine Or.inr ⟨⟨q1, r1, hI.1.2.2.1, r2, r3, r4, by omega, wk_SI_nn _ _ _ _ hSI', r10, r9.symm, by omega⟩, hI.2.1.trans hF1, hSI', ?_, ?_⟩
    rotate_left
    · have hp60 := hI.2.2.2.2.2
      obtain ⟨a1, a2, a3, a4, a5, a6, a7⟩ := f1
      obtain ⟨⟨b1, -⟩, -⟩ := hL.2.2.1 w a1 a2
      omega
    by_cases e0 : μ = 0
    · subst e0
      rw [if_pos rfl] at r11 r14
      refine hT.2.2.2.2.2 rfl zt h h' w a (wk_stk h1) z0 z1 hI q1 hF1 hst r11 r14 r6 (fun i hi => ?_)
      obtain ⟨x1, x2⟩ := r7 i hi
      obtain ⟨y1, y2⟩ := hag1 i hi
      refine ⟨x1.trans y1, x2.trans ?_⟩
      rw [y2]
      by_cases e : i = a.toNat
      · rw [if_pos ⟨rfl, e⟩, if_pos e]
      · rw [if_neg (fun z => e z.2), if_neg e]
    · rw [if_neg e0] at r11 r14
      have hag' : wk_ag μ (wk_n μ h) h h' := fun i hi => by
        obtain ⟨x1, x2⟩ := r7 i hi
        obtain ⟨y1, y2⟩ := hag1 i hi
        rw [if_neg (fun z => e0 z.1)] at x2
        exact ⟨x1.trans y1, x2.trans y2⟩
      refine hT.2.2.1 zt h h' z0 z1 hI q1 hF1 ?_ r6 hag' (fun e => absurd e e0)
      unfold wk_pf
      rw [hst]
      dsimp only
      rw [if_neg (by decide), if_neg (by decide), if_pos rfl, if_pos (r5 e0)]
      exact r14
/-- what only takes the top away -/
theorem wl_rest {zt e0 w a : Int} {h h' : sm_H} {r : List wk_E} {wr : List (Nat × Nat)} (hT : wl_T Y h0 μ T) (hI : wl_I Y h0 μ T zt h) (z0 : 0 ≤ zt) (z1 : zt < 40000) (ht : 0 < mi_f h 14029) (g2 : mi_f h' 14029 = mi_f h 14029 - 1) (hst : wk_stk h = (e0, w, a) :: r) (he : e0 = 2 ∨ e0 = 3 ∨ e0 = 4) (q1 : ab_Sh sx_sk h') (q2 : ab_Fr wr h h') (hw : ab_sub_wr wr [(14029, 14033), (18560, 18561), (20480, 20481), (21632, 21633)] = true) (hSI' : wk_SI Y (wl_Z h') r 0 (mi_f h' 14030) (mi_f h' 14032)) (hu : mi_f h' 14032 ≤ 12) (hp : mi_f h' 14030 ≤ 60) : wl_I Y h0 μ T (zt + 1) h' := by
  have i1 := hI.1.1
  have q2 := q2.wide (fun c hc => ab_swr_ok hw hc)
  have hF1 : ab_Fr wr_WK h h' := q2.wide (fun c hc => ab_swr_ok (by decide) hc)
  have est : wk_stk h' = r := by
    rw [wk_stk_pop ht] at hst
    have e := (List.cons.inj hst).2
    rw [← e]
    unfold wk_stk
    rw [g2]
    exact wk_st_eq _ (fun i _ => ⟨me_a (k := 165) q2 i1 rfl rfl, me_a (k := 166) q2 i1 rfl rfl, me_a (k := 167) q2 i1 rfl rfl⟩)
  have hne : wk_ne μ h h' := wk_ne_fr q2 i1 rfl
  have en := wk_ne_n hne
  have i6 := hI.1.2.2.2.2.2.1
  have i11 := hI.1.2.2.2.2.2.2.2.2.2.2
  rw [← est] at hSI'
  refine ⟨⟨q1, ?_, hI.1.2.2.1, ?_, ?_, fun e => ?_, by omega, wk_SI_nn _ _ _ _ hSI', hu, wk_SI_ul _ _ _ _ hSI', by rw [en]; exact i11⟩, hI.2.1.trans hF1, hSI', ?_, by have := hI.2.2.2.2.1; omega, hp⟩
  · rw [me_f (c := 14028) q2 i1 rfl rfl]
    exact hI.1.2.1
  · rw [me_f (c := 14044) q2 i1 rfl rfl]
    exact hI.1.2.2.2.1
  · rw [me_f (c := 14034) q2 i1 rfl rfl]
    exact hI.1.2.2.2.2.1
  · rw [hne.1, me_f (c := 14011) q2 i1 rfl rfl, me_a (k := 152) q2 i1 rfl rfl]
    exact i6 e
  · refine hT.2.2.1 zt h h' z0 z1 hI q1 hF1 ?_ (by rw [en]; exact Int.le_refl _) hne.2.2 (fun _ e rr her => ?_)
    · unfold wk_pf
      rw [hst]
      dsimp only
      rw [if_neg (by omega), if_neg (by omega), if_neg (by omega), est, en]
    · rw [hst] at her
      cases her
      exact ⟨show e0 ≠ 5 from by omega, fun e => by have e : e0 = 0 := e; omega⟩
end WLN
