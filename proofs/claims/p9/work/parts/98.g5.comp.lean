/-! after both have compiled: all that the walks want, and what is kept of it between calls -/
def lt_ok (h : sm_H) : Prop := mi_f h 7698 = mi_f h 13962 ∧ mi_f h 13962 ≤ 20 ∧ ∀ l : Nat, (l : Int) < mi_f h 13962 → mi_a h 75 l = tq_L h l ∧ lit_ok (tq_L h l) ∧ tq_L h l < 33554432 ∧ 0 ≤ (mx_b h 118 l).toInt ∧ 0 ≤ mi_a h 117 l
def r9_k (h : sm_H) (f : Int → Int) (it : Int → Prop) (Y : wk_Y) : Prop := (cg_G f it (mi_a h) Y (gx_k h) h ∧ wk_Lrule Y (mi_a h 114 0) ∧ f (mi_a h 114 0) = 0) ∧ vpp_G (tq_L h) (mi_a h) Y h ∧ (∀ E : pm_E, E.2.2 = (px_E h).2.2 → cs_N E (mi_a h) Y h) ∧ (∃ pf pa, ∀ E : pm_E, E.2.2 = (px_E h).2.2 → pm_Hs (mi_a h) Y E pf pa) ∧ pm_x Y ∧ (∀ u, 0 ≤ u → u < wk_u Y → mi_a h 119 u.toNat = 8 → mi_a h 120 u.toNat < mi_f h 13962) ∧ lt_ok h
def r9_kc : List Nat := [63, 64, 65, 66, 68, 69, 71, 72, 74, 75, 87, 88, 90, 92, 114, 115, 117, 118, 119, 120, 122, 124, 125, 126, 128, 129, 130, 132, 134, 135, 138, 143]
def r9_fc : List Nat := [7698, 13962]
section R9K
variable {f : Int → Int} {it : Int → Prop} {Y : wk_Y} {h h' : sm_H}
theorem pm_Hs_e2 {g : wk_g} {E E' : pm_E} {pf pa : Int → Int → Bool} (e : E'.2.2 = E.2.2) (hH : pm_Hs g Y E pf pa) : pm_Hs g Y E' pf pa := by
  unfold pm_Hs at hH ⊢
  rw [e]
  exact hH
theorem pm_Hs_g {g g' : wk_g} {E : pm_E} {pf pa : Int → Int → Bool} (hg : wk_gc g g') (hH : pm_Hs g Y E pf pa) : pm_Hs g' Y E pf pa := by
  unfold pm_Hs at hH ⊢
  simp only [hg 119 (by decide), hg 120 (by decide), hg 126 (by decide), hg 129 (by decide), hg 130 (by decide), wk_rf_g hg, wk_alt_g hg, wk_it_g hg]
  exact hH
theorem tt_G_g {g g' : wk_g} {t : Int → Int} (hg : wk_gc g g') (hH : tt_G t g Y) : tt_G t g' Y := by
  unfold tt_G at hH ⊢
  simp only [hg 119 (by decide), hg 120 (by decide), hg 122 (by decide), hg 126 (by decide), hg 129 (by decide), hg 130 (by decide), wk_it_g hg]
  exact hH
theorem r9_k_eq (ha : ∀ k, k ∈ r9_kc → mi_a h' k = mi_a h k) (hb : ∀ k, k ∈ r9_kc → mx_b h' k = mx_b h k) (hf : ∀ c, c ∈ r9_fc → mi_f h' c = mi_f h c) (hk : r9_k h f it Y) : r9_k h' f it Y := by
  have hsub : ∀ k, k ∈ wk_gk → k ∈ r9_kc := by decide
  have hg : wk_gc (mi_a h) (mi_a h') := fun k hk i => by rw [ha k (hsub k hk)]
  have hkw : gx_k h' = gx_k h := by
    unfold gx_k
    rw [hb 118 (by decide), hf 13962 (by decide)]
  have hL : tq_L h' = tq_L h := funext fun k => by
    unfold tq_L
    rw [hb 118 (by decide), ha 117 (by decide)]
  have hE : (px_E h').2.2 = (px_E h).2.2 := by
    unfold px_E
    dsimp only
    rw [hb 134 (by decide), ha 132 (by decide), hb 135 (by decide), hb 138 (by decide)]
  obtain ⟨⟨k1, k2, k3⟩, k4, k5, ⟨pf, pa, k6⟩, k7, k8, k9⟩ := hk
  refine ⟨⟨cg_G_eq (fun k hk => ha k ((by decide : ∀ k, k ∈ r8_kc → k ∈ r9_kc) k hk)) (hf 7698 (by decide)) hkw k1, by rw [ha 114 (by decide)]; exact k2, by rw [ha 114 (by decide)]; exact k3⟩, ⟨fun p p0 p1 => ?_, ?_⟩, fun E e => ?_, ⟨pf, pa, fun E e => pm_Hs_g hg (k6 E (e.trans hE))⟩, k7, fun u u0 u1 => ?_, ?_⟩
  · rw [hL, ha 119 (by decide), ha 120 (by decide), ha 69 (by decide), ha 75 (by decide)]
    exact k4.1 p p0 p1
  · rw [ha 92 (by decide)]
    exact tt_G_g hg k4.2
  · have := k5 E (e.trans hE)
    unfold cs_N at this ⊢
    simp only [hb 90 (by decide), hb 88 (by decide), ha 69 (by decide), ha 119 (by decide), ha 120 (by decide), ha 129 (by decide), ha 130 (by decide), wk_alt_g hg]
    exact this
  · rw [ha 119 (by decide), ha 120 (by decide), hf 13962 (by decide)]
    exact k8 u u0 u1
  · unfold lt_ok at k9 ⊢
    rw [hL, ha 75 (by decide), ha 117 (by decide), hb 118 (by decide), hf 7698 (by decide), hf 13962 (by decide)]
    exact k9
/-- how many rules, how many literals; whether the description is good -/
def r9_c (h : sm_H) : Prop := (mi_f h 6543 ≠ 0 ↔ mi_f h 13959 = 2) ∧ (mi_f h 13959 = 2 → ∃ f it Y, r9_k h f it Y) ∧ (0 ≤ mi_f h 13959 ∧ mi_f h 13959 ≤ 2) ∧ (mi_f h 6542 ≠ 0 ↔ mi_f h 13959 ≠ 0) ∧ (mi_f h 13959 ≠ 0 → mi_f h 7680 = mi_f h 13961 ∧ mi_f h 7698 = mi_f h 13962)
/-- both have compiled -/
theorem r9_both {n : Int} {c : Nat → Int} {g1 g2 : wk_g} {h1 h2 : sm_H} {y : Int} (hS1 : ab_Sh sx_sk h1) (hS2 : ab_Sh sx_sk h2) (hF : ab_Fr mr_W h1 h2) (hG1 : cm_G n c g1 h1) (hC1 : cm_5 n c g1 (some (.inl y)) h1) (hco : co_G n c g1 h2) (h0 : rz_0 g2) (hG2 : cm_G n c g2 h1) (hC2 : cm_5 n c g2 (some (.inl y)) h1) (hr : rz_B n c g2 y ∨ ∃ g, rz_D n c g2 g ∧ rz_U g ∧ co_R h1 h2 g y) : r9_c h2 := by
  have e43 : mi_f h2 6543 = mi_f h1 6543 := me_f (c := 6543) hF hS1 rfl rfl
  have e42 : mi_f h2 6542 = mi_f h1 6542 := me_f (c := 6542) hF hS1 rfl rfl
  obtain ⟨y1, ey1, -, a43, hC1⟩ := hC1
  have ey1 : y1 = y := by injection ey1 with q; injection q with q; exact q.symm
  subst ey1
  obtain ⟨y2, ey2, -, -, hC2⟩ := hC2
  have ey2 : y2 = y1 := by injection ey2 with q; injection q with q; exact q.symm
  subst ey2
  rcases hC1 with ⟨a1, a2⟩ | ⟨f, ow, g, hb, k1, k2, -⟩
  · rw [if_neg a2] at a43
    have m42 : mi_f h1 6542 = 0 := by
      rcases hG1 with ⟨q, -⟩ | ⟨-, -, f', ow', g', q1, q2, -⟩
      · exact q
      · exact (rz_xB q1 q2 a1).elim
    rcases hco with ⟨b1, -⟩ | ⟨-, -, g, Y, b2, b3, -⟩
    · exact ⟨⟨fun q => absurd (e43.trans a43) q, fun q => by omega⟩, fun q => by omega, by omega, ⟨fun q => absurd (e42.trans m42) q, fun q => absurd b1 q⟩, fun q => absurd b1 q⟩
    · exact (rz_xB b2 b3 a1).elim
  · have m42 : mi_f h1 6542 = 1 := by
      rcases hG1 with ⟨-, f', q⟩ | ⟨q, -⟩
      · exact (rz_xB k1 k2 q).elim
      · exact q
    obtain ⟨g', d1, d2⟩ : ∃ g, rz_D n c g2 g ∧ rz_U g := by
      rcases hG2 with ⟨q, -⟩ | ⟨-, -, f', ow', g', q1, q2, -⟩
      · omega
      · exact ⟨g', q1, q2⟩
    rcases hC2 with ⟨q, -⟩ | ⟨f, ow, g, hb, k1, k2, k3, k4, k5, k6, k7, k8, k9, ⟨o, k10⟩, k11, k12, k13, k14, k15, k16⟩
    · exact (rz_xB d1 d2 q).elim
    rcases hr with hr | ⟨g'', b1, b2, h3, h4, Y, s3, s4, F4, F34, q3, q4, l3, l4, hz, lz, F7, e59, lk, lr⟩
    · exact (rz_xB d1 d2 hr).elim
    have eg := rz_DD b1 k1
    subst eg
    obtain ⟨bb, hbt⟩ := BT_D h0 b1
    obtain ⟨c1, c2, c3, c4, c5⟩ := CA_fr k11 hS1 F4 (by decide)
    have hT : TW f ow g'' Y h4 := ⟨s4, q4, c3, k3, k4, k5, k6, k2, l4, k7⟩
    have hh := high_same hT k8 c1 c2 s3 F34 q3 l3 hz
    have hl4 := TLW_fr k12 hS1 F4 (by decide)
    have hG := cg_of hT hl4 k13 lk hh
    have hs := sets_same hT k8 k10 c1 c2 s3 F34 q3 l3 hz
    have hQ4 : tc_Q h4 h4 (g'' 0 0) := tc_Q_fr k16 hS1 F4 rfl rfl
    have f0 : f (mi_a h4 114 0) = 0 := by
      rw [rk_g2 q4 (r := 114) (by decide)]
      exact (k4.1 0 (by omega)).2
    have e62 : mi_f h4 13962 = g'' 0 4 := q4.1.2.2.2.2.1.symm
    have e61 : mi_f h4 13961 = g'' 0 3 := q4.1.2.2.2.1.symm
    have eu : wk_u Y = g'' 0 0 := l4.2.1.trans q4.1.1.symm
    have hle : 0 ≤ mi_f h2 13959 ∧ mi_f h2 13959 ≤ 2 := by
      rw [e59]
      split
      · omega
      · omega
    have n59 : mi_f h2 13959 ≠ 0 := by
      rw [e59]
      split
      · decide
      · decide
    have a7 : ∀ k, k ∈ r9_kc → mi_a h2 k = mi_a h4 k := fun k hk => funext fun i => by
      have w1 : ∀ k, k ∈ r9_kc → (mx_isA sx_sk k || mx_isB sx_sk k) = true := by decide +kernel
      have w2 : ∀ k, k ∈ r9_kc → ab_in [(13959, 13960)] (k * 128) = false := by decide
      exact me_a F7 s4 (w1 k hk) (w2 k hk)
    have b7 : ∀ k, k ∈ r9_kc → mx_b h2 k = mx_b h4 k := fun k hk => funext fun i => by
      have w1 : ∀ k, k ∈ r9_kc → (mx_isA sx_sk k || mx_isB sx_sk k) = true := by decide +kernel
      have w2 : ∀ k, k ∈ r9_kc → ab_in [(13959, 13960)] (k * 128) = false := by decide
      exact me_b F7 s4 (w1 k hk) (w2 k hk)
    have f98 : mi_f h2 7698 = mi_f h4 7698 := me_f (c := 7698) F7 s4 rfl rfl
    have f62 : mi_f h2 13962 = mi_f h4 13962 := me_f (c := 13962) F7 s4 rfl rfl
    have f61 : mi_f h2 13961 = mi_f h4 13961 := me_f (c := 13961) F7 s4 rfl rfl
    have f80 : mi_f h2 7680 = mi_f h4 7680 := me_f (c := 7680) F7 s4 rfl rfl
    have lt4 : lt_ok h4 := by
      refine ⟨by rw [hl4.2.1, e62], by rw [e62]; exact k3.1.2.2.2.2.2, fun l hl => ?_⟩
      rw [e62] at hl
      have el : tq_L h4 l = g'' 117 l := (q4.2.2 l).symm
      obtain ⟨z1, -, z3⟩ := lk l (by rw [e62]; exact hl)
      rw [el]
      exact ⟨hl4.2.2 l hl, k14.2.2.2 l hl, k13.2 l hl, z1, z3⟩
    refine ⟨?_, fun q2 => ?_, hle, ⟨fun _ => n59, fun _ => by rw [e42, m42]; decide⟩, fun _ => ⟨by rw [f80, f61, e61]; exact c4.1.2, by rw [f98, f62]; exact lt4.1⟩⟩
    · rw [e43, a43, e59]
      by_cases q : y2 = 0
      · rw [if_pos q, if_pos q]
        exact ⟨fun _ => rfl, fun _ => by decide⟩
      · rw [if_neg q, if_neg q]
        exact ⟨fun q => absurd rfl q, fun q => absurd q (by decide)⟩
    · have y0 : y2 = 0 := by
        by_cases q : y2 = 0
        · exact q
        · rw [e59, if_neg q] at q2
          exact absurd q2 (by decide)
      subst y0
      have pl := j_plo q4 k6 l4 k9
      have no : ∀ x, ¬ j_8 h4 (mi_f h4 13965) x := by
        intro x hx
        rcases lz with ⟨-, z⟩ | ⟨z, -⟩
        · exact z x (Or.inr hx)
        · have := j_pos pl (fun x hx => by
            obtain ⟨F, hF, k⟩ := hx
            obtain ⟨a, ha, e⟩ := k8l_in _ _ k
            obtain ⟨jj, hjj, rfl⟩ := (ra_mem _ _).mp ha
            have := (pl.2.2 F hF jj (by omega)).1
            omega) 0 z
          exact absurd this (by decide)
      obtain ⟨pf, pa, hH⟩ := hs_of (B := fun _ => true) (E1 := fun _ => 0) (E2 := fun _ => 0) hT hs no
      rw [px_B_t] at hH
      refine ⟨f, _, Y, r9_k_eq (h := h4) a7 b7 (fun c hc => ?_) ⟨⟨hG, lr, f0⟩, vpp_of hT hl4 k14 hG hbt hQ4, fun E e => cs_of hT hs k14 e, ⟨pf, pa, fun E e => pm_Hs_e2 (E := ((fun _ => 0), (fun _ => 0), (px_E h4).2.2)) e hH⟩, pmx_of hT k15, fun u u0 u1 c8 => ?_, lt4⟩⟩
      · simp only [r9_fc, List.mem_cons, List.not_mem_nil, or_false] at hc
        rcases hc with rfl | rfl
        · exact f98
        · exact f62
      · rw [rk_g2 q4 (r := 119) (by decide)] at c8
        rw [rk_g2 q4 (r := 120) (by decide), e62]
        exact ((k14.2.2.1 u.toNat (by omega)).2 c8).2
end R9K
