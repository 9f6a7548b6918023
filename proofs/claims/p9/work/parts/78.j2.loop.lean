/-! the walk's loop -/
def wr_W2 : List (Nat × Nat) := (14030, 14031) :: (21504, 21505) :: wr_W1
def wr_WK : List (Nat × Nat) := [(14016, 14017), (14028, 14038), (14044, 14048), (18560, 18561), (20224, 20481), (20864, 20865), (21120, 21761)]
def uu_Q (μ zu zo : Int) (h : sm_H) (w : Option mi_V) (h' : sm_H) : Prop := w = none ∧ ab_Sh sx_sk h' ∧ ab_Fr wr_W2 h h' ∧ ((mi_f h' 14044 = 1 ∨ (μ = 0 ∧ 0 ≤ mi_f h' 14034)) ∨ (un_R μ zu zo h h' ∧ mi_f h' 14030 = mi_f h 14030 + zo ∧ (∀ i, mi_a h' 168 i = if zo = 1 ∧ i = (mi_f h 14030).toNat then mi_f h 14016 else mi_a h 168 i) ∧ ∀ i, mi_a h' 169 i = mi_a h 169 i))
section UUU
variable {d : Nat} {h : sm_H} {zu zo μ : Int}
theorem me_unit (hi : wk_in μ h) (hu : wk_us h zu) (ht : mi_f h 14029 ≤ 2985) (hz : zo = 0 ∨ zo = 1) (hp : zo = 1 → 0 ≤ mi_f h 14030 ∧ mi_f h 14030 < 64) (h2 : μ = 2 → ∃ s', wk_pf (mi_a h) (wk_K 2 h) (wk_V 2 h) ((0, zu, zo) :: wk_stk h, (wk_n 2 h).toNat) = some s' ∧ s'.2 ≤ 100) : me_E (d + 6) 210 0 [some (.inr (.inr 109)), some (.inl zu), some (.inl zo), none, none] [] h (uu_Q μ zu zo h) := by
  have i1 := hi.1
  have hu0 := hu.1
  have hu1 := hu.2.1
  have oo : mi_in zo := ⟨by omega, by omega⟩
  have ou : mi_in zu := ⟨by omega, by omega⟩
  refine mt_unA i1 ou oo ?_ ?_
  · intro c h1 g1 g2
    have e1 := me_nil g2
    subst e1
    refine (un24 hi hu ht oo h2).imp (fun w h' hq => ?_)
    obtain ⟨q1, q2, q3, q4⟩ := hq
    refine ⟨q1, q2, q3.wide (fun c hc => ab_swr_ok (by decide) hc), ?_⟩
    rcases q4 with q4 | q4
    · exact Or.inl q4
    · refine Or.inr ⟨q4, by rw [me_f (c := 14030) q3 i1 rfl rfl, c, Int.add_zero], fun i => ?_, fun i => me_a (k := 169) q3 i1 rfl rfl⟩
      rw [if_neg (fun e => by omega)]
      exact me_a (k := 168) q3 i1 rfl rfl
  · intro b1 b2 c
    have z1 : zo = 1 := by clear h2; omega
    have hp := hp z1
    refine ⟨by clear h2; omega, fun h1 g1 g2 g3 g4 => ?_⟩
    have est : wk_stk h1 = wk_stk h := wk_stk_fr g4 i1 rfl
    have e29 : mi_f h1 14029 = mi_f h 14029 := me_f (c := 14029) g4 i1 rfl rfl
    have e16 : mi_f h1 14016 = mi_f h 14016 := me_f (c := 14016) g4 i1 rfl rfl
    have e33 : mi_f h1 14033 = mi_f h 14033 := me_f (c := 14033) g4 i1 rfl rfl
    have hg : wk_gc (mi_a h) (mi_a h1) := wk_gc_fr g4 i1 rfl
    have hi1 : wk_in μ h1 := wk_in_fr hi g1 g4 rfl (by rw [e29]; exact hi.2.2.2.2.2.2.1) (by rw [est]; exact hi.2.2.2.2.2.2.2.2.2.1)
    have en : ∀ ν, wk_n ν h1 = wk_n ν h := fun ν => by unfold wk_n; rw [e33, e16]
    have hag : wk_ag μ (wk_n μ h) h h1 := wk_ag_fr g4 i1 rfl
    refine (un24 (d := d) hi1 (wk_us_g hg hu) (by rw [e29]; exact ht) oo (fun e => ?_)).imp (fun w h' hq => ?_)
    · obtain ⟨s', x1, x2⟩ := h2 e
      refine ⟨s', ?_, x2⟩
      rw [wk_pf_g hg, (wk_KV2 g4 i1 rfl).1, (wk_KV2 g4 i1 rfl).2, est, en]
      exact x1
    · obtain ⟨q1, q2, q3, q4⟩ := hq
      refine ⟨q1, q2, (g4.wide (fun c hc => ab_swr_ok (by decide) hc)).trans (q3.wide (fun c hc => ab_swr_ok (by decide) hc)), ?_⟩
      rcases q4 with q4 | q4
      · exact Or.inl q4
      · obtain ⟨r1, r2, r3, r4, r5, r6, r7, r8, r9, r10, r11, r12, r13⟩ := q4
        rw [en] at r5 r6 r12 r13
        rw [est] at r12 r13
        rw [hg 122 (by decide)] at r12 r13
        rw [wk_pf_g hg] at r13
        rw [e29] at r10 r11
        refine Or.inr ⟨⟨r1, r2, r3, r4, r5, hag.trans r6 (Int.le_refl _), fun e => (r7 e).trans e16, r8, r9, r10, r11, r12, r13⟩, by rw [me_f (c := 14030) q3 g1 rfl rfl, g2, z1], fun i => ?_, fun i => (me_a (k := 169) q3 g1 rfl rfl).trans (me_a (k := 169) g4 i1 rfl rfl)⟩
        rw [me_a (k := 168) q3 g1 rfl rfl, g3]
        by_cases ei : i = (mi_f h 14030).toNat
        · rw [if_pos ei, if_pos ⟨z1, ei⟩]
        · rw [if_neg ei, if_neg (fun e => ei e.2)]
end UUU
def wl_Z (h : sm_H) : wk_P := (fun i => mi_a h 168 i, fun i => mi_a h 169 i, mi_f h 14016)
def wl_I (Y : wk_Y) (h0 : sm_H) (μ : Int) (T : Int → sm_H → Prop) (zt : Int) (h : sm_H) : Prop := wk_in μ h ∧ ab_Fr wr_WK h0 h ∧ wk_SI Y (wl_Z h) (wk_stk h) 0 (mi_f h 14030) (mi_f h 14032) ∧ T zt h ∧ mi_f h 14029 ≤ 2999 ∧ mi_f h 14030 ≤ 60
/-- what is asked of the trace -/
def wl_T (Y : wk_Y) (h0 : sm_H) (μ : Int) (T : Int → sm_H → Prop) : Prop :=
  (μ = 2 → ∀ zt h, wl_I Y h0 μ T zt h → wk_stk h ≠ [] → 0 ≤ zt → zt < 40000 → ∃ s', wk_pf (mi_a h) (wk_K 2 h) (wk_V 2 h) (wk_stk h, (wk_n 2 h).toNat) = some s' ∧ s'.2 ≤ 100) ∧
  (μ = 0 → ∀ zt h w a r, wl_I Y h0 μ T zt h → 0 ≤ zt → zt < 40000 → wk_stk h = (5, w, a) :: r → 0 ≤ a ∧ a < 100 ∧ wk_V 0 h a.toNat ≤ 1000000 ∧ 0 ≤ wk_V 0 h a.toNat) ∧
  (∀ zt h h', 0 ≤ zt → zt < 40000 → wl_I Y h0 μ T zt h → ab_Sh sx_sk h' → ab_Fr wr_WK h h' → wk_pf (mi_a h) (wk_K μ h') (wk_V μ h') (wk_stk h, (wk_n μ h).toNat) = some (wk_stk h', (wk_n μ h').toNat) → wk_n μ h ≤ wk_n μ h' → wk_ag μ (wk_n μ h) h h' → (μ = 0 → ∀ e r, wk_stk h = e :: r → e.1 ≠ 5 ∧ (e.1 = 0 → mi_a h 122 e.2.1.toNat ≠ 1)) → T (zt + 1) h') ∧
  (μ = 0 → ∀ zt h h' w a r, 0 ≤ zt → zt < 40000 → wl_I Y h0 μ T zt h → ab_Sh sx_sk h' → ab_Fr wr_WK h h' → wk_stk h = (0, w, a) :: r → mi_a h 122 w.toNat = 1 → wk_stk h' = (5, w, wk_n 0 h) :: (2, 0, 0) :: r → wk_n 0 h' = wk_n 0 h + 1 → wk_K 0 h' (wk_n 0 h).toNat = 5 → wk_V 0 h' (wk_n 0 h).toNat = 0 → wk_ag 0 (wk_n 0 h) h h' → T (zt + 1) h') ∧
  (μ = 0 → ∀ zt h h' w a r, 0 ≤ zt → zt < 40000 → wl_I Y h0 μ T zt h → ab_Sh sx_sk h' → ab_Fr wr_WK h h' → wk_stk h = (5, w, a) :: r → wk_stk h' = r → wk_n 0 h' = wk_n 0 h → wk_ag 0 (wk_n 0 h) h h' → T (zt + 1) h') ∧
  (μ = 0 → ∀ zt h h' w a r, 0 ≤ zt → zt < 40000 → wl_I Y h0 μ T zt h → ab_Sh sx_sk h' → ab_Fr wr_WK h h' → wk_stk h = (5, w, a) :: r → wk_stk h' = wk_sS (mi_a h) w ((5, w, a) :: r) → wk_sg (mi_a h) (wk_K 0 h') w ((5, w, a) :: r) (wk_n 0 h).toNat = some (wk_stk h', (wk_n 0 h').toNat) → wk_n 0 h ≤ wk_n 0 h' → (∀ i : Nat, (i : Int) < wk_n 0 h → wk_K 0 h' i = wk_K 0 h i ∧ wk_V 0 h' i = if i = a.toNat then wk_V 0 h i + 1 else wk_V 0 h i) → T (zt + 1) h')
theorem wk_stk_pop {h : sm_H} (h0 : 0 < mi_f h 14029) : wk_stk h = (mi_a h 165 (mi_f h 14029 - 1).toNat, mi_a h 166 (mi_f h 14029 - 1).toNat, mi_a h 167 (mi_f h 14029 - 1).toNat) :: wk_st h (mi_f h 14029 - 1).toNat := by
  unfold wk_stk
  have e : (mi_f h 14029).toNat = (mi_f h 14029 - 1).toNat + 1 := by omega
  rw [e]
  rfl
section WLL
variable {d : Nat} {h0 h h1 : sm_H} {Y : wk_Y} {μ zt : Int} {T : Int → sm_H → Prop}
/-- the top is taken -/
theorem wl_pop (hI : wl_I Y h0 μ T zt h) (ht : 0 < mi_f h 14029) (g1 : ab_Sh sx_sk h1) (g2 : mi_f h1 14029 = mi_f h 14029 - 1) (g3 : ab_Fr [(14029, 14030)] h h1) : wk_stk h = (mi_a h 165 (mi_f h 14029 - 1).toNat, mi_a h 166 (mi_f h 14029 - 1).toNat, mi_a h 167 (mi_f h 14029 - 1).toNat) :: wk_stk h1 ∧ wk_gc (mi_a h) (mi_a h1) ∧ (∀ ν, wk_n ν h1 = wk_n ν h) ∧ wk_ag μ (wk_n μ h) h h1 ∧ wk_K 2 h1 = wk_K 2 h ∧ wk_V 2 h1 = wk_V 2 h ∧ wl_Z h1 = wl_Z h ∧ mi_f h1 14030 = mi_f h 14030 ∧ mi_f h1 14032 = mi_f h 14032 ∧ mi_f h1 14016 = mi_f h 14016 ∧ ((wk_stk h1).length : Int) = mi_f h1 14029 := by
  have i1 := hI.1.1
  have e16 : mi_f h1 14016 = mi_f h 14016 := me_f (c := 14016) g3 i1 rfl rfl
  have e33 : mi_f h1 14033 = mi_f h 14033 := me_f (c := 14033) g3 i1 rfl rfl
  refine ⟨?_, wk_gc_fr g3 i1 rfl, fun ν => by unfold wk_n; rw [e33, e16], wk_ag_fr g3 i1 rfl, (wk_KV2 g3 i1 rfl).1, (wk_KV2 g3 i1 rfl).2, ?_, me_f (c := 14030) g3 i1 rfl rfl, me_f (c := 14032) g3 i1 rfl rfl, e16, wk_stk_len (by omega)⟩
  · rw [wk_stk_pop ht]
    refine congrArg _ ?_
    unfold wk_stk
    rw [g2]
    exact (wk_st_eq _ (fun i _ => ⟨me_a (k := 165) g3 i1 rfl rfl, me_a (k := 166) g3 i1 rfl rfl, me_a (k := 167) g3 i1 rfl rfl⟩)).symm
  · unfold wl_Z
    rw [e16]
    have ea : (fun i => mi_a h1 168 i) = fun i => mi_a h 168 i := funext fun i => me_a (k := 168) g3 i1 rfl rfl
    have eb : (fun i => mi_a h1 169 i) = fun i => mi_a h 169 i := funext fun i => me_a (k := 169) g3 i1 rfl rfl
    rw [ea, eb]
theorem wl_in1 (hI : wl_I Y h0 μ T zt h) (ht : 0 < mi_f h 14029) (g1 : ab_Sh sx_sk h1) (g2 : mi_f h1 14029 = mi_f h 14029 - 1) (g3 : ab_Fr [(14029, 14030)] h h1) (hd : mi_a h 165 (mi_f h 14029 - 1).toNat ≠ 2) : wk_in μ h1 := by
  obtain ⟨e1, -⟩ := wl_pop hI ht g1 g2 g3
  refine wk_in_fr hI.1 g1 g3 rfl (by omega) ?_
  have := hI.1.2.2.2.2.2.2.2.2.2.1
  rw [e1, wk_ul_c hd] at this
  exact this
theorem wl_us {g : wk_g} (hL : wk_L g Y) (hg : wk_gc g (mi_a h)) {w : Int} (h0 : 0 ≤ w) (h1 : w < wk_u Y) : wk_us h w := by
  obtain ⟨-, -, -, a6, -, a8⟩ := hL.2.2.1 w h0 h1
  have := hL.1
  unfold wk_us
  rw [hg 119 (by decide), hg 120 (by decide), hg 115 (by decide)]
  refine ⟨h0, by omega, fun h9 => ?_, a8⟩
  obtain ⟨b1, b2, b3, b4, -⟩ := a6 h9
  exact ⟨b1, b2, b3, b4⟩
theorem wk_L_g {g g' : wk_g} (hL : wk_L g Y) (hg : wk_gc g g') : wk_L g' Y := by
  refine ⟨hL.1, hL.2.1, fun u h0 h1 => ?_, fun f h0 h1 => ?_⟩
  · have := hL.2.2.1 u h0 h1
    unfold wk_Lunit at this ⊢
    rw [hg 124 (by decide), hg 125 (by decide), hg 119 (by decide), hg 120 (by decide), hg 115 (by decide), wk_rf_g hg, hg 124 (by decide)]
    exact this
  · have := hL.2.2.2 f h0 h1
    unfold wk_Lform at this ⊢
    simp only [hg 130 (by decide), hg 129 (by decide), wk_alt_g hg, hg 126 (by decide)]
    exact this
end WLL
