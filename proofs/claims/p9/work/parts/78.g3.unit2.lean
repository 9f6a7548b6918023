/-! unit, the rest -/
section UNJ
variable {h : sm_H} {d : Nat} {zu zo μ : Int}
theorem un208 {zn : Int} {h1 : sm_H} (hi : wk_in μ h) (hu : wk_us h zu) (ht : mi_f h 14029 ≤ 2985) (hw : mi_a h 122 zu.toNat = 2) (oo : mi_in zo) (hn0 : 0 ≤ zn) (hn1 : zn ≤ 1000000) (hz2 : μ = 2 → zn = wk_V 2 h (wk_n 2 h).toNat ∧ wk_K 2 h (wk_n 2 h).toNat = 6) (hl2 : μ = 2 → wk_n 2 h ≤ 100) (h2 : μ = 2 → 0 < zn → ∃ s', wk_sg (mi_a h) (wk_K 2 h) zu ((2, 0, 0) :: wk_stk h) ((wk_n 2 h).toNat + 1) = some s' ∧ s'.2 ≤ 100) (g1 : ab_Sh sx_sk h1) (g2 : ab_Fr [(14047, 14048)] h h1) : me_E (d + 6) 210 208 [some (.inr (.inr 109)), some (.inl zu), some (.inl zo), none, none] [.inl zn] h1 (un_Q μ zu zo h) := by
  have hi' := hi
  obtain ⟨i1, i2, i3, i4, i5, i6, i7, i8, i9, i10, i11⟩ := hi'
  have hu0 := hu.1
  have hu1 := hu.2.1
  have ok : mi_in zu := ⟨by omega, by omega⟩
  have on : mi_in zn := ⟨by omega, by omega⟩
  have w1 : ¬ mi_a h 122 zu.toNat = 1 := by omega
  refine mt_unH g1 ok oo on ?_
  intro h2' p1 p2
  have e2 := me_nil p2
  subst e2
  refine ⟨_, me_comes μ g1 ⟨by decide, by decide⟩ ((me_f (c := 14028) g2 i1 rfl rfl).trans i2) (fun e => ?_), ?_⟩
  · have := hl2 e
    unfold wk_n at this
    rw [if_pos rfl] at this
    rw [me_f (c := 14033) g2 i1 rfl rfl]
    clear h2
    omega
  · intro w h3 hw3 hq
    obtain ⟨q1, q2, q3⟩ := hq
    obtain ⟨⟨z, rfl⟩, n29, n32, n34, n28, nst, ngc, nF, ntok, nmk, nn⟩ := un_node hi on g1 g2 q1 q2 hz2 q3
    refine mt_unI q1 ok oo on (hw3 _ rfl) ?_ ?_ ?_
    · intro b1 c1
      refine ⟨by clear h2; omega, fun h4 r1 r2 r3 a5 a6 a7 r4 => ?_⟩
      have hF : ab_Fr wr_W1 h h4 := nF.trans (r4.wide (fun c hc => ab_swr_ok (by decide) hc))
      refine ⟨rfl, r1, hF, ?_⟩
      have e44 : mi_f h4 14044 = mi_f h3 14044 := me_f (c := 14044) r4 q1 rfl rfl
      rcases nn with ⟨-, nn⟩ | ⟨m1, m2, m3, m4, m5, m6⟩
      · exact Or.inl (Or.inl (by rw [e44]; exact nn))
      · have est := wk_push1 (by omega) r2 a5 a6 a7
        rw [nst] at est
        have hne : wk_ne μ h3 h4 := wk_ne_fr r4 q1 rfl
        have en : wk_n μ h4 = wk_n μ h3 := wk_ne_n hne
        have hlt : ((wk_n μ h).toNat : Int) < wk_n μ h3 := by clear h2; omega
        obtain ⟨y1, y2⟩ := hne.2.2 _ hlt
        have e32 : mi_f h4 14032 = mi_f h3 14032 := me_f (c := 14032) r4 q1 rfl rfl
        refine Or.inr ⟨by rw [me_f (c := 14028) r4 q1 rfl rfl, n28]; exact i2, by rw [e44]; exact m1, by rw [me_f (c := 14034) r4 q1 rfl rfl, n34]; exact i5, fun e => ?_, by clear h2; omega, m3.trans hne.2.2 (by clear h2; omega), fun e => hne.2.1.trans (nmk e), ?_, by clear h2; omega, by clear h2; omega, by clear h2; omega, fun e => absurd e w1, fun _ => ?_⟩
        · rw [hne.1, me_f (c := 14011) r4 q1 rfl rfl, me_a (k := 152) r4 q1 rfl rfl]
          exact ntok e
        · rw [est, wk_ul_o]
          clear h2
          omega
        · have e1 : (wk_n μ h4).toNat = (wk_n μ h).toNat + 1 := by clear h2; omega
          have k6 : wk_K μ h4 (wk_n μ h).toNat = 6 := y1.trans m4
          have kv : wk_V μ h4 (wk_n μ h).toNat = zn := y2.trans m5
          unfold wk_pf
          dsimp only
          rw [if_pos rfl, if_neg w1, if_pos hw, if_pos ⟨k6, by rw [kv]; exact hn0, by rw [kv]; exact hn1⟩, if_neg (by rw [kv]; clear h2; omega), est, e1]
    · intro b1 b2 c1 c2
      refine ⟨by clear h2; omega, fun h4 r1 r2 r3 a5 a6 a7 r4 => ?_⟩
      have hF : ab_Fr wr_W1 h h4 := nF.trans (r4.wide (fun c hc => ab_swr_ok (by decide) hc))
      refine ⟨rfl, r1, hF, Or.inl (Or.inl ?_)⟩
      rw [me_f (c := 14044) r4 q1 rfl rfl]
      clear h2
      omega
    · intro b1 b2 c1 c2
      refine ⟨by clear h2; omega, fun h4 r1 r2 r3 a5 a6 a7 r4 => ?_⟩
      rcases nn with ⟨-, nn⟩ | ⟨m1, m2, m3, m4, m5, m6⟩
      · exfalso
        clear h2
        omega
      · have hF : ab_Fr wr_W1 h h4 := nF.trans (r4.wide (fun c hc => ab_swr_ok (by decide) hc))
        have est := wk_push1 (by omega) r2 a5 a6 a7
        rw [nst] at est
        have hne : wk_ne μ h3 h4 := wk_ne_fr r4 q1 rfl
        have en : wk_n μ h4 = wk_n μ h + 1 := by rw [wk_ne_n hne]; exact m2
        have hg : wk_gc (mi_a h) (mi_a h4) := ngc.trans (wk_gc_fr r4 q1 rfl)
        have e32 : mi_f h4 14032 = mi_f h 14032 := (me_f (c := 14032) r4 q1 rfl rfl).trans n32
        have hi4 : wk_in μ h4 := by
          refine ⟨r1, by rw [me_f (c := 14028) r4 q1 rfl rfl, n28]; exact i2, i3, by rw [me_f (c := 14044) r4 q1 rfl rfl]; exact m1, by rw [me_f (c := 14034) r4 q1 rfl rfl, n34]; exact i5, fun e => ?_, by clear h2; omega, by clear h2; omega, by clear h2; omega, ?_, by clear h2; omega⟩
          · rw [hne.1, me_f (c := 14011) r4 q1 rfl rfl, me_a (k := 152) r4 q1 rfl rfl]
            exact ntok e
          · rw [est, wk_ul_o]
            clear h2
            omega
        have hag4 : wk_ag μ (wk_n μ h) h h4 := m3.trans hne.2.2 (by clear h2; omega)
        refine ⟨_, me_single (d := d) hi4 (wk_us_g hg hu) (by clear h2; omega) (fun e => ?_), ?_⟩
        · obtain ⟨s', x1, x2⟩ := h2 e c1
          refine ⟨s', ?_, x2⟩
          subst e
          have e5 : (wk_n 2 h4).toNat = (wk_n 2 h).toNat + 1 := by clear h2; omega
          rw [wk_sg_g hg, (wk_KV2 hF i1 rfl).1, est, e5]
          exact x1
        · intro w h5 hw5 hq5
          obtain ⟨rfl, t1, t2, t3⟩ := hq5
          refine mt_unJ t1 ok oo on ?_
          intro h6 u1 u2
          have e6 := me_nil u2
          subst e6
          refine ⟨rfl, t1, hF.trans t2, ?_⟩
          rcases t3 with t3 | ⟨⟨o1, o2, o3, o4, o5, o6, o7⟩, s1, s2, s3, s4, s5, s6⟩
          · exact Or.inl t3
          · have hlt : ((wk_n μ h).toNat : Int) < wk_n μ h4 := by clear h2; omega
            have hlt3 : ((wk_n μ h).toNat : Int) < wk_n μ h3 := by clear h2; omega
            obtain ⟨y1, y2⟩ := o6 _ hlt
            obtain ⟨y3, y4⟩ := hne.2.2 _ hlt3
            have k6 : wk_K μ h6 (wk_n μ h).toNat = 6 := y1.trans (y3.trans m4)
            have kv : wk_V μ h6 (wk_n μ h).toNat = zn := y2.trans (y4.trans m5)
            refine Or.inr ⟨o1, o2, o3, o4, by clear h2; omega, hag4.trans o6 (by clear h2; omega), fun e => (o7 e).trans (hne.2.1.trans (nmk e)), ?_, s2, by clear h2; omega, by clear h2; omega, fun e => absurd e w1, fun _ => ?_⟩
            · rw [s3, wk_ul_sS, s1, hi4.2.2.2.2.2.2.2.2.2.1]
            · have e5 : (wk_n μ h4).toNat = (wk_n μ h).toNat + 1 := by clear h2; omega
              rw [wk_sg_g hg, est, e5] at s6
              unfold wk_pf
              dsimp only
              rw [if_pos rfl, if_neg w1, if_pos hw, if_pos ⟨k6, by rw [kv]; exact hn0, by rw [kv]; exact hn1⟩, if_pos (by rw [kv]; exact c1)]
              exact s6
/-- from where pairs have been looked at -/
theorem un24 (hi : wk_in μ h) (hu : wk_us h zu) (ht : mi_f h 14029 ≤ 2985) (oo : mi_in zo) (h2 : μ = 2 → ∃ s', wk_pf (mi_a h) (wk_K 2 h) (wk_V 2 h) ((0, zu, zo) :: wk_stk h, (wk_n 2 h).toNat) = some s' ∧ s'.2 ≤ 100) : me_E (d + 6) 210 24 [some (.inr (.inr 109)), some (.inl zu), some (.inl zo), none, none] [] h (un_Q μ zu zo h) := by
  have hi' := hi
  obtain ⟨i1, i2, i3, i4, i5, i6, i7, i8, i9, i10, i11⟩ := hi'
  have hu0 := hu.1
  have hu1 := hu.2.1
  have ok : mi_in zu := ⟨by omega, by omega⟩
  have en2 : wk_n 2 h = mi_f h 14033 := by unfold wk_n; rw [if_pos rfl]
  have eV2 : ∀ k, wk_V 2 h k = (mx_b h 162 k).toInt := fun k => by unfold wk_V; rw [if_pos rfl]
  -- what the replay says, by the way of repeating
  have r1 : μ = 2 → mi_a h 122 zu.toNat = 1 → wk_K 2 h (wk_n 2 h).toNat = 5 ∧ 0 ≤ wk_V 2 h (wk_n 2 h).toNat ∧ wk_V 2 h (wk_n 2 h).toNat ≤ 1000000 ∧ (wk_n 2 h).toNat < 100 := fun e ew => by
    obtain ⟨s', x1, x2⟩ := h2 e
    unfold wk_pf at x1
    dsimp only at x1
    rw [if_pos rfl, if_pos ew] at x1
    split at x1
    · next hk => cases x1; exact ⟨hk.1, hk.2.1, hk.2.2, x2⟩
    · cases x1
  have r2 : μ = 2 → mi_a h 122 zu.toNat = 2 → (wk_K 2 h (wk_n 2 h).toNat = 6 ∧ 0 ≤ wk_V 2 h (wk_n 2 h).toNat ∧ wk_V 2 h (wk_n 2 h).toNat ≤ 1000000 ∧ (wk_n 2 h).toNat < 100) ∧ (0 < wk_V 2 h (wk_n 2 h).toNat → ∃ s', wk_sg (mi_a h) (wk_K 2 h) zu ((2, 0, 0) :: wk_stk h) ((wk_n 2 h).toNat + 1) = some s' ∧ s'.2 ≤ 100) := fun e ew => by
    obtain ⟨s', x1, x2⟩ := h2 e
    unfold wk_pf at x1
    dsimp only at x1
    rw [if_pos rfl, if_neg (by omega), if_pos ew] at x1
    split at x1
    · next hk =>
      split at x1
      · next hv =>
        refine ⟨⟨hk.1, hk.2.1, hk.2.2, ?_⟩, fun _ => ⟨s', x1, x2⟩⟩
        have := wk_sg_mono x1
        omega
      · next hv =>
        cases x1
        exact ⟨⟨hk.1, hk.2.1, hk.2.2, x2⟩, fun z => absurd z hv⟩
    · cases x1
  have r0 : μ = 2 → mi_a h 122 zu.toNat ≠ 1 → mi_a h 122 zu.toNat ≠ 2 → ∃ s', wk_sg (mi_a h) (wk_K 2 h) zu (wk_stk h) (wk_n 2 h).toNat = some s' ∧ s'.2 ≤ 100 := fun e e1 e2 => by
    obtain ⟨s', x1, x2⟩ := h2 e
    unfold wk_pf at x1
    dsimp only at x1
    rw [if_pos rfl, if_neg e1, if_neg e2] at x1
    exact ⟨s', x1, x2⟩
  clear h2
  have conv : ∀ k, 0 ≤ (mx_b h 162 k).toInt → (mx_b h 162 k).toInt ≤ 1000000 → (mx_b h 162 k).toInt32.toInt = (mx_b h 162 k).toInt := fun k k0 k1 => by
    rw [Int64.toInt_toInt32]
    exact Int.bmod_eq_of_le (by omega) (by omega)
  have Fnil : ∀ {h1 : sm_H}, ab_Fr [] h h1 → ab_Fr [(14047, 14048)] h h1 := fun g => g.wide (fun c hc => by cases hc)
  refine mt_unB i1 ok oo ?_ ?_ ?_ ?_ ?_ ?_ ?_ ?_ ?_
  · intro c1 c2
    refine ⟨by omega, fun h1 g1 g2 => ?_⟩
    have e3 := me_nil g2
    subst e3
    refine ⟨_, me_single (d := d) hi hu (by omega) (fun e => r0 e c1 c2), ?_⟩
    intro w h3 hw3 hq
    obtain ⟨rfl, t1, t2, t3⟩ := hq
    refine mt_unK t1 ok oo ?_
    intro h6 u1 u2
    have e6 := me_nil u2
    subst e6
    refine ⟨rfl, t1, t2, ?_⟩
    rcases t3 with t3 | ⟨⟨o1, o2, o3, o4, o5, o6, o7⟩, s1, s2, s3, s4, s5, s6⟩
    · exact Or.inl t3
    · refine Or.inr ⟨o1, o2, o3, o4, o5, o6, o7, ?_, s2, s4, by omega, fun e => absurd e c1, fun _ => ?_⟩
      · rw [s3, wk_ul_sS, s1, i10]
      · unfold wk_pf
        dsimp only
        rw [if_pos rfl, if_neg c1, if_neg c2]
        exact s6
  · intro b c1 c2 c3 c4
    have eμ : μ = 0 := by clear r0 r1 r2; omega
    have hh := i6 eμ
    have bt := me_fb (c := 14011) i1 rfl
    refine ⟨by omega, fun h1 g1 g2 => ?_⟩
    have e3 := me_nil g2
    subst e3
    refine ⟨_, me_has i1 (by omega) (by omega), ?_⟩
    intro w h3 hw3 hq
    obtain ⟨q1, rfl, z, rfl, z1, z2⟩ := hq
    refine mt_unG q1 ok oo (hw3 _ rfl) ?_ ?_
    · intro c5 h4 g4 g5
      exact un208 hi hu ht c2 oo (by decide) (by decide) (fun e => by omega) (fun e => by omega) (fun e => by omega) g4 (Fnil g5)
    · intro c5 h4 g4 g5
      exact un208 hi hu ht c2 oo (by decide) (by decide) (fun e => by omega) (fun e => by omega) (fun e => by omega) g4 (Fnil g5)
  · intro b1 b2 c1 c2 c3 c4
    have eμ : μ = 2 := by omega
    obtain ⟨⟨k1, k2, k3, k4⟩, k5⟩ := r2 eμ c2
    rw [eμ] at i11
    rw [en2] at k4 i11
    rw [eV2, en2] at k2 k3
    have ev := conv _ k2 k3
    refine ⟨by omega, fun h1 g1 g2 => ?_⟩
    rw [ev]
    refine un208 hi hu ht c2 oo k2 k3 (fun _ => ⟨by rw [eV2, en2], k1⟩) (fun _ => by rw [en2]; omega) (fun _ hp => k5 (by rw [eV2, en2]; exact hp)) g1 (Fnil g2)
  · intro b1 b2 c1 c2 c3 c4
    refine ⟨by omega, fun h1 g1 g2 => ?_⟩
    have e3 := me_nil g2
    subst e3
    refine ⟨_, me_draw g1 (by decide) (by decide), ?_⟩
    intro w h3 hw3 hq
    obtain ⟨q1, q2, z, rfl, z1, z2⟩ := hq
    refine mt_unF q1 ok oo (hw3 _ rfl) ?_
    intro h4 g4 g5
    exact un208 hi hu ht c2 oo z1 (by omega) (fun e => by omega) (fun e => by omega) (fun e => by omega) g4 (q2.trans (g5.wide (fun c hc => by cases hc)))
  · intro b1 b2 c1 c2 c3 c4
    refine ⟨by omega, fun h1 g1 g2 => ?_⟩
    exact un208 hi hu ht c2 oo (by decide) (by decide) (fun e => by omega) (fun e => by omega) (fun e => by omega) g1 (Fnil g2)
  · intro b1 c1 c2 c3
    refine ⟨by omega, fun h1 g1 g2 => ?_⟩
    exact un83 hi hu0 hu1 ht c1 oo (by decide) (by decide) (fun _ => rfl) (fun e => by omega) (fun e => by omega) g1 (Fnil g2)
  · intro b1 b2 c1 c2 c3
    have eμ : μ = 2 := by omega
    obtain ⟨k1, k2, k3, k4⟩ := r1 eμ c1
    rw [eμ] at i11
    rw [en2] at k4 i11
    rw [eV2, en2] at k2 k3
    have ev := conv _ k2 k3
    refine ⟨by omega, fun h1 g1 g2 => ?_⟩
    rw [ev]
    exact un83 hi hu0 hu1 ht c1 oo k2 k3 (fun e => by omega) (fun _ => ⟨by rw [eV2, en2], k1⟩) (fun _ => by rw [en2]; omega) g1 (Fnil g2)
  · intro b1 b2 c1 c2 c3
    refine ⟨by omega, fun h1 g1 g2 => ?_⟩
    have e3 := me_nil g2
    subst e3
    refine ⟨_, me_draw g1 (by decide) (by decide), ?_⟩
    intro w h3 hw3 hq
    obtain ⟨q1, q2, z, rfl, z1, z2⟩ := hq
    refine mt_unC q1 ok oo (hw3 _ rfl) ?_
    intro h4 g4 g5
    exact un83 hi hu0 hu1 ht c1 oo z1 (by omega) (fun e => by omega) (fun e => by omega) (fun e => by omega) g4 (q2.trans (g5.wide (fun c hc => by cases hc)))
  · intro b1 b2 c1 c2 c3
    refine ⟨by omega, fun h1 g1 g2 => ?_⟩
    exact un83 hi hu0 hu1 ht c1 oo (by decide) (by decide) (fun e => rfl) (fun e => by omega) (fun e => by omega) g1 (Fnil g2)
end UNJ
