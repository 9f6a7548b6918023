/-! choose -/
def wr_ro : List (Nat × Nat) := [(14029, 14030), (18560, 18561), (21120, 21121), (21248, 21249), (21376, 21377)]
def ch_Q (μ zf : Int) (h : sm_H) (w : Option mi_V) (h' : sm_H) : Prop := w = none ∧ ab_Sh sx_sk h' ∧ ab_Fr wr_W1 h h' ∧ ((mi_f h' 14044 = 1 ∨ (μ = 0 ∧ 0 ≤ mi_f h' 14034)) ∨ (mi_f h' 14028 = μ ∧ mi_f h' 14044 = 0 ∧ mi_f h' 14034 < 0 ∧ wk_tok μ h' ∧ wk_n μ h ≤ wk_n μ h' ∧ wk_ag μ (wk_n μ h) h h' ∧ (μ = 2 → mi_f h' 14016 = mi_f h 14016) ∧ mi_f h' 14032 = mi_f h 14032 ∧ 0 ≤ mi_f h' 14029 ∧ ∃ j : Nat, (j : Int) < mi_a h 130 zf.toNat ∧
  ((1 < mi_a h 130 zf.toNat ∧ wk_stk h' = wk_it (mi_a h) 61 (mi_a h 126 (wk_alt (mi_a h) j (mi_a h 129 zf.toNat)).toNat) ++ (2, 0, 0) :: wk_stk h ∧ wk_n μ h' = wk_n μ h + 1 ∧ wk_K μ h' (wk_n μ h).toNat = 4 ∧ wk_V μ h' (wk_n μ h).toNat = (j : Int)) ∨
   (¬ 1 < mi_a h 130 zf.toNat ∧ j = 0 ∧ wk_stk h' = wk_it (mi_a h) 61 (mi_a h 126 (mi_a h 129 zf.toNat).toNat) ++ wk_stk h ∧ wk_n μ h' = wk_n μ h))))
section CHP
variable {d : Nat} {h : sm_H} {zf μ U : Int}
theorem ch146 {zn zc : Int} {zj : Option mi_V} (hS : ab_Sh sx_sk h) (of : mi_in zf) (on : mi_in zn) (oj : ∀ v, zj = some v → mi_ok v) (hC : wk_C (mi_a h) U) (hc0 : 0 ≤ zc) (hc1 : zc < 80) (hu : mi_a h 126 zc.toNat < 0 ∨ mi_a h 126 zc.toNat < U) (t0 : 0 ≤ mi_f h 14029) (hlen : ((wk_it (mi_a h) 61 (mi_a h 126 zc.toNat)).length : Int) + mi_f h 14029 ≤ 2999) : me_E (d + 6) 223 146 [some (.inr (.inr 109)), some (.inl zf), some (.inl zn), some (.inl zc), zj, none] [] h (fun w h' => w = none ∧ ab_Sh sx_sk h' ∧ ab_Fr wr_ro h h' ∧ 0 ≤ mi_f h' 14029 ∧ wk_stk h' = wk_it (mi_a h) 61 (mi_a h 126 zc.toNat) ++ wk_stk h) := by
  have oc : mi_in zc := ⟨by omega, by omega⟩
  have eit := wk_en_row hC 61 (mi_a h 126 zc.toNat) (-1) hu (fun z => absurd z (by decide))
  have hU := hC.1
  refine mt_chG hS of on oc oj ?_
  intro h1 g1 g2
  have e1 := me_nil g2
  subst e1
  refine ⟨_, me_line (d := d + 5) hS hC hc0 hc1 hu, ?_⟩
  intro w h2 hw hq
  obtain ⟨q1, q2, rfl, q4, q5⟩ := hq
  generalize hL : wk_row (mi_a h1) 61 (mi_a h1 126 zc.toNat) = L at *
  have ol : mi_in (L.length : Int) := ⟨by omega, by omega⟩
  refine mt_chH q1 of on oc ol oj ?_
  refine ⟨by omega, fun h3 r1 r2 => ?_⟩
  have e3 := me_nil r2
  subst e3
  have est : wk_stk h3 = wk_stk h1 := wk_stk_fr q2 hS rfl
  have e29 : mi_f h3 14029 = mi_f h1 14029 := me_f (c := 14029) q2 hS rfl rfl
  have hsl := wk_stk_len t0
  have hT : (wk_en (mi_a h1) (-1) L).length + (wk_stk h3).length ≤ 2999 := by rw [eit, est]; omega
  refine (ch155 (mi_a h1) L (wk_stk h3) of on oc hT (by omega) (fun k x hk => by have := q5 k x hk; omega) L.length none h3 (Nat.le_refl _) (fun v hv => by cases hv) q1 (fun i => me_a (k := 124) q2 hS rfl rfl) (fun k x hk => (q5 k x hk).1) (by omega) (by rw [List.drop_length]; rfl)).imp (fun w h' hq => ?_)
  obtain ⟨p1, p2, p3, p4, p5⟩ := hq
  refine ⟨p1, p2, (q2.wide (fun c hc => ab_swr_ok (by decide) hc)).trans (p3.wide (fun c hc => ab_swr_ok (by decide) hc)), p4, ?_⟩
  rw [p5, eit, est]
theorem ch127 {Q : Option mi_V → sm_H → Prop} (hS : ab_Sh sx_sk h) (of : mi_in zf) (hf0 : 0 ≤ zf) (hf1 : zf < 80) (hf : wk_fa (mi_a h) zf) {j : Nat} (hj : (j : Int) < mi_a h 130 zf.toNat) (kk : ∀ zj : Int, mi_in zj → me_E (d + 6) 223 146 [some (.inr (.inr 109)), some (.inl zf), some (.inl (j : Int)), some (.inl (wk_alt (mi_a h) j (mi_a h 129 zf.toNat))), some (.inl zj), none] [] h Q) : ∀ (N k : Nat), j - k < N → k ≤ j → me_E (d + 6) 223 127 [some (.inr (.inr 109)), some (.inl zf), some (.inl (j : Int)), some (.inl (wk_alt (mi_a h) k (mi_a h 129 zf.toNat))), some (.inl (k : Int)), none] [] h Q := by
  have b130 := me_ab (k := 130) (i := zf.toNat) hS rfl (by decide) (by omega)
  intro N
  induction N with
  | zero => intro k h1 h2; omega
  | succ N ih =>
    intro k h1 h2
    have hk := hf.2.2 k (by omega)
    have es := wk_alt_succ (mi_a h) k (mi_a h 129 zf.toNat)
    have oj : mi_in (j : Int) := ⟨by omega, by omega⟩
    have ok : mi_in (k : Int) := ⟨by omega, by omega⟩
    refine mt_chF hS of oj ⟨by omega, by omega⟩ ok ?_ ?_
    · intro c h3 r1 r2
      have e3 := me_nil r2
      subst e3
      have e : k = j := by omega
      subst e
      exact kk _ ok
    · intro c
      refine ⟨by omega, fun h3 r1 r2 => ?_⟩
      have e3 := me_nil r2
      subst e3
      have := ih (k + 1) (by omega) (by omega)
      rw [es] at this
      exact this
theorem me_choose (hi : wk_in μ h) (hf0 : 0 ≤ zf) (hf1 : zf < 80) (hf : wk_fa (mi_a h) zf) (hC : wk_C (mi_a h) U) (hfi : ∀ j : Nat, (j : Int) < mi_a h 130 zf.toNat → mi_a h 126 (wk_alt (mi_a h) j (mi_a h 129 zf.toNat)).toNat < 0 ∨ mi_a h 126 (wk_alt (mi_a h) j (mi_a h 129 zf.toNat)).toNat < U) (hlen : ∀ j : Nat, (j : Int) < mi_a h 130 zf.toNat → ((wk_it (mi_a h) 61 (mi_a h 126 (wk_alt (mi_a h) j (mi_a h 129 zf.toNat)).toNat)).length : Int) + mi_f h 14029 + 1 ≤ 2999) (h2 : μ = 2 → 1 < mi_a h 130 zf.toNat → wk_K 2 h (wk_n 2 h).toNat = 4 ∧ 0 ≤ wk_V 2 h (wk_n 2 h).toNat ∧ wk_V 2 h (wk_n 2 h).toNat < mi_a h 130 zf.toNat ∧ wk_n 2 h < 100) : me_E (d + 6) 223 0 [some (.inr (.inr 109)), some (.inl zf), none, none, none, none] [] h (ch_Q μ zf h) := by
  have hi' := hi
  obtain ⟨i1, i2, i3, i4, i5, i6, i7, i8, i9, i10, i11⟩ := hi'
  have of : mi_in zf := ⟨by omega, by omega⟩
  have b130 := me_ab (k := 130) (i := zf.toNat) i1 rfl (by decide) (by omega)
  have en2 : wk_n 2 h = mi_f h 14033 := by unfold wk_n; rw [if_pos rfl]
  have eV2 : ∀ k, wk_V 2 h k = (mx_b h 162 k).toInt := fun k => by unfold wk_V; rw [if_pos rfl]
  -- behind the choice
  have go80 : ∀ (zz : Int) (h1 : sm_H), 1 < mi_a h 130 zf.toNat → mi_in zz → zz < mi_a h 130 zf.toNat → (zz < 0 → μ = 0) → (μ = 2 → zz = wk_V 2 h (wk_n 2 h).toNat) → ab_Sh sx_sk h1 → ab_Fr [(14047, 14048)] h h1 → me_E (d + 6) 223 80 [some (.inr (.inr 109)), some (.inl zf), some (.inl (0 : Int)), some (.inl (mi_a h 129 zf.toNat)), none, none] [.inl zz] h1 (ch_Q μ zf h) := by
    intro zz h1 hc1 oz hz1 hz2 hz3 g1 g2
    have f33 : mi_f h1 14033 = mi_f h 14033 := me_f (c := 14033) g2 i1 rfl rfl
    refine mt_chD g1 of ⟨by decide, by decide⟩ (mi_inT _) oz ?_ ?_
    · intro c h2' r1 r2
      have e2 := me_nil r2
      subst e2
      refine mt_chD2 g1 of oz (mi_inT _) ?_
      intro h3 s1 s2
      have e3 := me_nil s2
      subst e3
      refine ⟨_, me_comes (d := d + 5) μ g1 ⟨by decide, by decide⟩ ((me_f (c := 14028) g2 i1 rfl rfl).trans i2) (fun e => ?_), ?_⟩
      · have := (h2 e hc1).2.2.2
        rw [en2] at this
        rw [f33]
        omega
      · intro w h4 hw hq
        obtain ⟨q1, q2, q3⟩ := hq
        obtain ⟨⟨z, rfl⟩, n29, n32, n34, n28, nst, ngc, nF, ntok, nmk, nn⟩ := un_node hi oz g1 g2 q1 q2 (fun e => ⟨hz3 e, (h2 e hc1).1⟩) q3
        obtain ⟨j, rfl⟩ : ∃ j : Nat, zz = (j : Int) := ⟨zz.toNat, by omega⟩
        have hlj := hlen j hz1
        refine mt_chE q1 of oz (mi_inT _) (hw _ rfl) ?_
        intro b1
        refine ⟨by clear h2 hlen hfi; omega, fun h5 t1 t2 t3 a5 a6 a7 t4 => ?_⟩
        have est := wk_push1 (by omega) t2 a5 a6 a7
        rw [nst] at est
        have hg : wk_gc (mi_a h) (mi_a h5) := ngc.trans (wk_gc_fr t4 q1 rfl)
        have hne : wk_ne μ h4 h5 := wk_ne_fr t4 q1 rfl
        have hC5 : wk_C (mi_a h5) U := by
          refine ⟨hC.1, fun u u0 u1 => ?_⟩
          rw [hg 124 (by decide), hg 125 (by decide), hg 124 (by decide)]
          exact hC.2 u u0 u1
        have hf5 : wk_fa (mi_a h5) zf := by
          unfold wk_fa
          rw [hg 130 (by decide), hg 129 (by decide), wk_alt_g hg]
          refine ⟨hf.1, hf.2.1, fun j hj => ?_⟩
          rw [wk_alt_g hg]
          exact hf.2.2 j hj
        have ea : wk_alt (mi_a h5) j (mi_a h5 129 zf.toNat) = wk_alt (mi_a h) j (mi_a h 129 zf.toNat) := by rw [wk_alt_g hg, hg 129 (by decide)]
        have haj := hf.2.2 j hz1
        have hfj := hfi j hz1
        generalize hA : wk_alt (mi_a h) j (mi_a h 129 zf.toNat) = A at ea haj hfj hlj
        have := ch127 (d := d) (Q := ch_Q μ zf h) t1 of hf0 hf1 hf5 (j := j) (by rw [hg 130 (by decide)]; exact hz1) (fun zj ozj => by
          rw [ea]
          refine (ch146 (U := U) t1 of oz (fun v hv => by cases hv; exact ozj) hC5 haj.1 haj.2 (by rw [hg 126 (by decide)]; exact hfj) (by clear h2 hlen hfi; omega) (by rw [wk_it_g hg, hg 126 (by decide)]; clear h2 hlen hfi; omega)).imp (fun w h' hq => ?_)
          obtain ⟨p1, p2, p3, p4, p5⟩ := hq
          have F5 : ab_Fr wr_W1 h h5 := nF.trans (t4.wide (fun c hc => ab_swr_ok (by decide) hc))
          refine ⟨p1, p2, F5.trans (p3.wide (fun c hc => ab_swr_ok (by decide) hc)), ?_⟩
          have e44 : mi_f h' 14044 = mi_f h4 14044 := (me_f (c := 14044) p3 t1 rfl rfl).trans (me_f (c := 14044) t4 q1 rfl rfl)
          rcases nn with ⟨-, nn⟩ | ⟨m1, m2, m3, m4, m5, m6⟩
          · exact Or.inl (Or.inl (by rw [e44]; exact nn))
          · have hne2 : wk_ne μ h5 h' := wk_ne_fr p3 t1 rfl
            have en5 : wk_n μ h5 = wk_n μ h4 := wk_ne_n hne
            have en' : wk_n μ h' = wk_n μ h5 := wk_ne_n hne2
            have hlt : ((wk_n μ h).toNat : Int) < wk_n μ h4 := by clear h2 hlen hfi; omega
            have hlt5 : ((wk_n μ h).toNat : Int) < wk_n μ h5 := by clear h2 hlen hfi; omega
            obtain ⟨y1, y2⟩ := hne.2.2 _ hlt
            obtain ⟨y3, y4⟩ := hne2.2.2 _ hlt5
            refine Or.inr ⟨by rw [me_f (c := 14028) p3 t1 rfl rfl, me_f (c := 14028) t4 q1 rfl rfl, n28]; exact i2, by rw [e44]; exact m1, by rw [me_f (c := 14034) p3 t1 rfl rfl, me_f (c := 14034) t4 q1 rfl rfl, n34]; exact i5, fun e => ?_, by clear h2 hlen hfi; omega, (m3.trans hne.2.2 (by clear h2 hlen hfi; omega)).trans hne2.2.2 (by clear h2 hlen hfi; omega), fun e => hne2.2.1.trans (hne.2.1.trans (nmk e)), by rw [me_f (c := 14032) p3 t1 rfl rfl, me_f (c := 14032) t4 q1 rfl rfl, n32], p4, j, hz1, Or.inl ⟨hc1, ?_, by clear h2 hlen hfi; omega, y3.trans (y1.trans m4), y4.trans (y2.trans m5)⟩⟩
            · rw [hne2.1, hne.1, me_f (c := 14011) p3 t1 rfl rfl, me_f (c := 14011) t4 q1 rfl rfl, me_a (k := 152) p3 t1 rfl rfl, me_a (k := 152) t4 q1 rfl rfl]
              exact ntok e
            · rw [p5, wk_it_g hg, hg 126 (by decide), est, hA]) (j + 1) 0 (by clear h2 hlen hfi; omega) (Nat.zero_le _)
        rw [hg 129 (by decide)] at this
        exact this
    · intro b c
      have eμ := hz2 c
      have hh := i6 eμ
      have bt := me_fb (c := 14011) i1 rfl
      have bf := me_ab (k := 153) (i := (mi_f h1 14033).toNat) g1 rfl (by decide) (by rw [f33]; clear h2 hlen hfi; omega)
      refine ⟨by rw [f33]; clear h2 hlen hfi; omega, fun h2' r1 r2 r3 => ?_⟩
      exact ⟨rfl, r1, (g2.wide (fun c hc => ab_swr_ok (by decide) hc)).trans (r3.wide (fun c hc => ab_swr_ok (by decide) hc)), Or.inl (Or.inr (by rw [r2]; exact ⟨eμ, bf.1⟩))⟩
  have Fnil : ∀ {h1 : sm_H}, ab_Fr [] h h1 → ab_Fr [(14047, 14048)] h h1 := fun g => g.wide (fun c hc => by cases hc)
  refine mt_chA i1 of ?_ ?_ ?_ ?_ ?_
  · intro c1
    have h1c : (1 : Int) ≤ mi_a h 130 zf.toNat := hf.1
    have h0l : ((0 : Nat) : Int) < mi_a h 130 zf.toNat := by clear h2 hlen hfi; omega
    have hl0 := hlen 0 h0l
    have ha0 := hf.2.2 0 h0l
    have hf0' := hfi 0 h0l
    refine ⟨by clear h2 hlen hfi; omega, fun h1 g1 g2 => ?_⟩
    have e1 := me_nil g2
    subst e1
    refine (ch146 (U := U) g1 of ⟨by decide, by decide⟩ (fun v hv => by cases hv) hC ha0.1 ha0.2 hf0' i7 (by
      clear h2 hlen hfi
      omega)).imp (fun w h' hq => ?_)
    obtain ⟨p1, p2, p3, p4, p5⟩ := hq
    have hne2 : wk_ne μ h1 h' := wk_ne_fr p3 g1 rfl
    have en' : wk_n μ h' = wk_n μ h1 := wk_ne_n hne2
    refine ⟨p1, p2, p3.wide (fun c hc => ab_swr_ok (by decide) hc), Or.inr ⟨(me_f (c := 14028) p3 g1 rfl rfl).trans i2, (me_f (c := 14044) p3 g1 rfl rfl).trans i4, by rw [me_f (c := 14034) p3 g1 rfl rfl]; exact i5, fun e => ?_, by clear h2 hlen hfi; omega, hne2.2.2, fun _ => hne2.2.1, me_f (c := 14032) p3 g1 rfl rfl, p4, 0, h0l, Or.inr ⟨by clear h2 hlen hfi; omega, rfl, p5, en'⟩⟩⟩
    rw [hne2.1, me_f (c := 14011) p3 g1 rfl rfl, me_a (k := 152) p3 g1 rfl rfl]
    exact i6 e
  · intro b1 b2 c1 c2 c3 c4
    refine ⟨by clear h2 hlen hfi; omega, fun h1 g1 g2 => ?_⟩
    have e1 := me_nil g2
    subst e1
    refine ⟨_, me_draw (d := d + 5) g1 (by clear h2 hlen hfi; omega) (by clear h2 hlen hfi; omega), ?_⟩
    intro w h3 hw hq
    obtain ⟨q1, q2, z, rfl, z1, z2⟩ := hq
    exact go80 z h3 c1 (hw _ rfl) z2 (fun e => by clear h2 hlen hfi; omega) (fun e => by clear h2 hlen hfi; omega) q1 q2
  · intro b1 b2 c1 c2 c3 c4
    refine ⟨by clear h2 hlen hfi; omega, fun h1 g1 g2 => ?_⟩
    have e1 := me_nil g2
    subst e1
    refine ⟨_, me_lowest (d := d + 5) g1 hf0 hf1 hf, ?_⟩
    intro w h3 hw hq
    obtain ⟨rfl, z, rfl, z1, z2⟩ := hq
    refine mt_chC g1 of ⟨by decide, by decide⟩ (mi_inT _) (hw _ rfl) ?_
    intro h4 g3 g4
    exact go80 z h4 c1 (hw _ rfl) z2 (fun e => by clear h2 hlen hfi; omega) (fun e => by clear h2 hlen hfi; omega) g3 (Fnil g4)
  · intro b1 b2 c1 c2 c3
    have eμ : μ = 2 := by clear h2 hlen hfi; omega
    obtain ⟨k1, k2, k3, k4⟩ := h2 eμ c1
    rw [eμ] at i11
    rw [en2] at k4 i11
    rw [eV2, en2] at k2 k3
    have ev : (mx_b h 162 (mi_f h 14033).toNat).toInt32.toInt = (mx_b h 162 (mi_f h 14033).toNat).toInt := by
      rw [Int64.toInt_toInt32]
      exact Int.bmod_eq_of_le (by clear h2 hlen hfi; omega) (by clear h2 hlen hfi; omega)
    refine ⟨by clear h2 hlen hfi; omega, fun h1 g1 g2 => ?_⟩
    rw [ev]
    exact go80 _ h1 c1 ⟨by clear h2 hlen hfi; omega, by clear h2 hlen hfi; omega⟩ k3 (fun e => by clear h2 hlen hfi; omega) (fun e => by rw [eV2, en2]) g1 (Fnil g2)
  · intro b1 c1 c2
    have eμ : μ = 0 := by clear h2 hlen hfi; omega
    have hh := i6 eμ
    have bt := me_fb (c := 14011) i1 rfl
    refine ⟨by clear h2 hlen hfi; omega, fun h1 g1 g2 => ?_⟩
    have e1 := me_nil g2
    subst e1
    refine ⟨_, me_directed (d := d + 4) g1 (by clear h2 hlen hfi; omega) (by clear h2 hlen hfi; omega) hf0 hf1 hf, ?_⟩
    intro w h3 hw hq
    obtain ⟨rfl, z, rfl, z1, z2⟩ := hq
    refine mt_chB g1 of ⟨by decide, by decide⟩ (mi_inT _) (hw _ rfl) ?_
    intro h4 g3 g4
    exact go80 z h4 c1 (hw _ rfl) z2 (fun e => eμ) (fun e => by clear h2 hlen hfi; omega) g3 (Fnil g4)
end CHP
