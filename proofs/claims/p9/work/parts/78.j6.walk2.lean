/-! the walk, from its begin -/
section WLQ
variable {d : Nat} {h : sm_H} {Y : wk_Y} {zh : Int} {T : Int → sm_H → Prop}
theorem me_walk (hS : ab_Sh sx_sk h) (hz : zh = 0 ∨ zh = 1 ∨ zh = 2) (hL : wk_L (mi_a h) Y) (hr : wk_Lrule Y (mi_a h 114 0)) (htok : zh = 0 → mi_a h 152 (mi_f h 14011).toNat = 0) (hT : wl_T Y h zh T) (hT0 : ∀ h', ab_Sh sx_sk h' → ab_Fr wr_WK h h' → wk_stk h' = [(1, mi_a h 114 0, 0), (2, 1, 0)] → wk_n zh h' = 1 → (zh ≠ 2 → wk_K zh h' 0 = 1 ∧ wk_V zh h' 0 = 0) → T 0 h') : me_E (d + 7) 206 0 [some (.inr (.inr 109)), some (.inl zh), none, none, none] [] h (wl_End Y h zh T) := by
  have oh : mi_in zh := ⟨by omega, by omega⟩
  have b11 := me_fb (c := 14011) hS rfl
  refine mt_waA hS oh ?_
  intro h1 g1 f16 f28 f29 f30 f31 f32 f33 f34 f44 g2
  have e11 : mi_f h1 14011 = mi_f h 14011 := me_f (c := 14011) g2 hS rfl rfl
  have est : wk_stk h1 = [] := by unfold wk_stk; rw [f29]; rfl
  have en : wk_n zh h1 = 0 := by
    unfold wk_n
    split
    · exact f33
    · exact f16
  refine ⟨_, me_enter (d := d + 4) zh g1 f28 (by decide) (by decide) (by omega) (by omega) (by omega) (by omega) (fun _ => by omega), fun v h2 ov hq => ?_⟩
  obtain ⟨rfl, q1, q2, q3, q4⟩ := hq
  have hF : ab_Fr wr_WK h h2 := (g2.wide (fun c hc => ab_swr_ok (by decide) hc)).trans (q2.wide (fun c hc => ab_swr_ok (by decide) hc))
  refine mt_waB q1 oh ?_
  intro h3 r1 r2
  have e3 := me_nil r2
  subst e3
  refine wl_loop hT hL hS oh 40001 0 none none _ (by decide) (by decide) (by decide) (fun v e => by cases e) (fun v e => by cases e) ?_
  rcases q4 with q4 | ⟨q4, q5, q6, q7, q8, q9⟩
  · exact Or.inl ⟨q1, hF, Or.inl q4⟩
  · refine Or.inr ?_
    obtain ⟨v1, v2, v3, v4⟩ := q9
    rw [est] at q8
    have e114 : mi_a h1 114 (Int.toNat 0) = mi_a h 114 0 := me_a (k := 114) g2 hS rfl rfl
    rw [e114] at q8
    have p30 : mi_f h3 14030 = 0 := (me_f (c := 14030) q2 g1 rfl rfl).trans f30
    have p28 : mi_f h3 14028 = zh := (me_f (c := 14028) q2 g1 rfl rfl).trans f28
    have p11 : mi_f h3 14011 = mi_f h 14011 := me_f (c := 14011) hF hS rfl rfl
    have p152 : ∀ i, mi_a h3 152 i = mi_a h 152 i := fun i => me_a (k := 152) hF hS rfl rfl
    have ul : wk_ul [(1, mi_a h 114 0, 0), (2, 1, 0)] = 1 := by
      rw [wk_ul_c (by decide)]
      rfl
    refine ⟨⟨q1, p28, hz, q4, by omega, fun e => ?_, by omega, by omega, by omega, by rw [q8, ul]; omega, by omega⟩, hF, ?_, ?_, by omega, by omega⟩
    · obtain ⟨-, -, x⟩ := v3 (by omega)
      rw [x, f33, p11, p152]
      exact ⟨by decide, b11.1, htok e⟩
    · obtain ⟨l1, l2, l3⟩ := hr
      have hd := (hL.2.2.2 _ l1 l2).1
      rw [q8, p30, q6, f32]
      refine wk_pform ⟨l1, l2, ?_, by decide, by omega, by decide, by decide⟩ (wk_pout (Or.inr rfl) (by decide) (by decide) (by decide) ?_)
      · show (1 : Int) + _ - 4 ≤ _
        omega
      · unfold wk_SI
        exact ⟨rfl, rfl, by decide⟩
    · refine hT0 _ q1 hF q8 (by omega) (fun e => ?_)
      obtain ⟨x1, x2, -⟩ := v3 e
      rw [en] at x1 x2
      exact ⟨x1, x2⟩
end WLQ
