/-! unit -/
/-- what a unit leaves, but for pairs -/
def un_R (μ zu zo : Int) (h h' : sm_H) : Prop := mi_f h' 14028 = μ ∧ mi_f h' 14044 = 0 ∧ mi_f h' 14034 < 0 ∧ wk_tok μ h' ∧ wk_n μ h ≤ wk_n μ h' ∧ wk_ag μ (wk_n μ h) h h' ∧ (μ = 2 → mi_f h' 14016 = mi_f h 14016) ∧ mi_f h' 14032 = wk_ul (wk_stk h') ∧ mi_f h' 14032 ≤ 12 ∧ mi_f h 14029 ≤ mi_f h' 14029 ∧ mi_f h' 14029 ≤ mi_f h 14029 + 3 ∧
  (mi_a h 122 zu.toNat = 1 → wk_stk h' = (5, zu, if μ = 0 then wk_n μ h else wk_V μ h' (wk_n μ h).toNat) :: (2, 0, 0) :: wk_stk h ∧ wk_n μ h' = wk_n μ h + 1 ∧ wk_K μ h' (wk_n μ h).toNat = 5 ∧ 0 ≤ wk_V μ h' (wk_n μ h).toNat ∧ wk_V μ h' (wk_n μ h).toNat ≤ 1000000 ∧ (μ = 0 → wk_V μ h' (wk_n μ h).toNat = 0)) ∧
  (mi_a h 122 zu.toNat ≠ 1 → wk_pf (mi_a h) (wk_K μ h') (wk_V μ h') ((0, zu, zo) :: wk_stk h, (wk_n μ h).toNat) = some (wk_stk h', (wk_n μ h').toNat))
def un_Q (μ zu zo : Int) (h : sm_H) (w : Option mi_V) (h' : sm_H) : Prop := w = none ∧ ab_Sh sx_sk h' ∧ ab_Fr wr_W1 h h' ∧ ((mi_f h' 14044 = 1 ∨ (μ = 0 ∧ 0 ≤ mi_f h' 14034)) ∨ un_R μ zu zo h h')
section UNI
variable {h : sm_H} {d : Nat} {zu zo μ : Int}
/-- behind comes: what the node is -/
theorem un_node {kd zn : Int} {h1 h2 : sm_H} {w : Option mi_V} (hi : wk_in μ h) (hn : mi_in zn) (g1 : ab_Sh sx_sk h1) (g2 : ab_Fr [(14047, 14048)] h h1) (q1 : ab_Sh sx_sk h2) (q2 : ab_Fr [(14016, 14017), (14033, 14034), (14044, 14045), (20224, 20225), (20352, 20353), (20480, 20481), (20864, 20865)] h1 h2) (hz2 : μ = 2 → zn = wk_V 2 h (wk_n 2 h).toNat ∧ wk_K 2 h (wk_n 2 h).toNat = kd)
    (q3 : (μ ≠ 2 ∧ mi_f h2 14044 = 1 ∧ w = some (.inl 0) ∧ mi_f h2 14033 = mi_f h1 14033 ∧ mi_f h2 14016 = mi_f h1 14016) ∨ ((μ = 2 → mi_f h2 14044 = mi_f h1 14044) ∧ (μ ≠ 2 → mi_f h2 14044 = 0) ∧ wk_ev μ kd ((Int32.ofInt zn).toInt64).toInt h1 h2 ∧ w = some (.inl (wk_n μ h1)))) :
    (∃ z, w = some (.inl z)) ∧ mi_f h2 14029 = mi_f h 14029 ∧ mi_f h2 14032 = mi_f h 14032 ∧ mi_f h2 14034 = mi_f h 14034 ∧ mi_f h2 14028 = mi_f h 14028 ∧ wk_stk h2 = wk_stk h ∧ wk_gc (mi_a h) (mi_a h2) ∧ ab_Fr wr_W1 h h2 ∧ wk_tok μ h2 ∧ (μ = 2 → mi_f h2 14016 = mi_f h 14016) ∧ (μ ≠ 2 ∧ mi_f h2 14044 = 1 ∨ (mi_f h2 14044 = 0 ∧ wk_n μ h2 = wk_n μ h + 1 ∧ wk_ag μ (wk_n μ h) h h2 ∧ wk_K μ h2 (wk_n μ h).toNat = kd ∧ wk_V μ h2 (wk_n μ h).toNat = zn ∧ w = some (.inl (wk_n μ h)))) := by
  obtain ⟨i1, i2, i3, i4, i5, i6, i7, i8, i9, i10, i11⟩ := hi
  have ez : ((Int32.ofInt zn).toInt64).toInt = zn := by rw [Int32.toInt_toInt64, mi_ti hn]
  have f33 : mi_f h1 14033 = mi_f h 14033 := me_f (c := 14033) g2 i1 rfl rfl
  have f16 : mi_f h1 14016 = mi_f h 14016 := me_f (c := 14016) g2 i1 rfl rfl
  have nA : wk_n μ h1 = wk_n μ h := by unfold wk_n; rw [f33, f16]
  have hF : ab_Fr wr_W1 h h2 := (g2.wide (fun c hc => ab_swr_ok (by decide) hc)).trans (q2.wide (fun c hc => ab_swr_ok (by decide) hc))
  have e33 : μ = 0 → mi_f h2 14033 = mi_f h 14033 := fun e => by
    rcases q3 with q3 | q3
    · rw [q3.2.2.2.1, f33]
    · rw [(q3.2.2.1.2.2.1 (by omega)).2.2, f33]
  refine ⟨?_, (me_f (c := 14029) q2 g1 rfl rfl).trans (me_f (c := 14029) g2 i1 rfl rfl), (me_f (c := 14032) q2 g1 rfl rfl).trans (me_f (c := 14032) g2 i1 rfl rfl), (me_f (c := 14034) q2 g1 rfl rfl).trans (me_f (c := 14034) g2 i1 rfl rfl), (me_f (c := 14028) q2 g1 rfl rfl).trans (me_f (c := 14028) g2 i1 rfl rfl), (wk_stk_fr q2 g1 rfl).trans (wk_stk_fr g2 i1 rfl), (wk_gc_fr g2 i1 rfl).trans (wk_gc_fr q2 g1 rfl), hF, fun e => ?_, fun e => ?_, ?_⟩
  · rcases q3 with q3 | q3
    · exact ⟨_, q3.2.2.1⟩
    · exact ⟨_, q3.2.2.2⟩
  · rw [e33 e, me_f (c := 14011) hF i1 rfl rfl, me_a (k := 152) hF i1 rfl rfl]
    exact i6 e
  · rcases q3 with q3 | q3
    · exact absurd e q3.1
    · rw [q3.2.2.1.2.2.2 e, f16]
  · rcases q3 with q3 | ⟨p1, p2, p3, p4⟩
    · exact Or.inl ⟨q3.1, q3.2.1⟩
    · obtain ⟨x1, x2, x3, -⟩ := p3
      rw [nA] at x1 x2 x3 p4
      have agA : wk_ag μ (wk_n μ h) h h1 := wk_ag_fr g2 i1 rfl
      refine Or.inr ⟨?_, x1, agA.trans x2 (Int.le_refl _), ?_, ?_, p4⟩
      · by_cases e : μ = 2
        · rw [p1 e, me_f (c := 14044) g2 i1 rfl rfl]
          exact i4
        · exact p2 e
      · by_cases e : μ = 2
        · subst e
          rw [wk_K2 hF i1]
          exact (hz2 rfl).2
        · exact (x3 e).1
      · by_cases e : μ = 2
        · subst e
          rw [(wk_KV2 hF i1 rfl).2]
          exact (hz2 rfl).1.symm
        · rw [(x3 e).2.1, ez]
theorem un83 {zn : Int} {h1 : sm_H} (hi : wk_in μ h) (hu0 : 0 ≤ zu) (hu1 : zu < 60) (ht : mi_f h 14029 ≤ 2985) (hw : mi_a h 122 zu.toNat = 1) (oo : mi_in zo) (hn0 : 0 ≤ zn) (hn1 : zn ≤ 1000000) (hz0 : μ = 0 → zn = 0) (hz2 : μ = 2 → zn = wk_V 2 h (wk_n 2 h).toNat ∧ wk_K 2 h (wk_n 2 h).toNat = 5) (hl2 : μ = 2 → wk_n 2 h ≤ 100) (g1 : ab_Sh sx_sk h1) (g2 : ab_Fr [(14047, 14048)] h h1) : me_E (d + 6) 210 83 [some (.inr (.inr 109)), some (.inl zu), some (.inl zo), none, none] [.inl zn] h1 (un_Q μ zu zo h) := by
  have hi' := hi
  obtain ⟨i1, i2, i3, i4, i5, i6, i7, i8, i9, i10, i11⟩ := hi'
  have ok : mi_in zu := ⟨by omega, by omega⟩
  have on : mi_in zn := ⟨by omega, by omega⟩
  refine mt_unD g1 ok oo on ?_
  intro h2 p1 p2
  have e2 := me_nil p2
  subst e2
  refine ⟨_, me_comes μ g1 ⟨by decide, by decide⟩ ((me_f (c := 14028) g2 i1 rfl rfl).trans i2) (fun e => ?_), ?_⟩
  · have := hl2 e
    unfold wk_n at this
    rw [if_pos rfl] at this
    rw [me_f (c := 14033) g2 i1 rfl rfl]
    omega
  · intro w h3 hw3 hq
    obtain ⟨q1, q2, q3⟩ := hq
    obtain ⟨⟨z, rfl⟩, n29, n32, n34, n28, nst, ngc, nF, ntok, nmk, nn⟩ := un_node hi on g1 g2 q1 q2 hz2 q3
    have fin : ∀ {a : Int} {h4 : sm_H}, (a = if μ = 0 then z else zn) → ab_Sh sx_sk h4 → mi_f h4 14029 = mi_f h3 14029 + 1 + 1 → (∀ i, mi_a h4 165 i = if i = Int.toNat (mi_f h3 14029 + 1) then 5 else if i = Int.toNat (mi_f h3 14029) then 2 else mi_a h3 165 i) → (∀ i, mi_a h4 166 i = if i = Int.toNat (mi_f h3 14029 + 1) then zu else if i = Int.toNat (mi_f h3 14029) then 0 else mi_a h3 166 i) → (∀ i, mi_a h4 167 i = if i = Int.toNat (mi_f h3 14029 + 1) then a else if i = Int.toNat (mi_f h3 14029) then 0 else mi_a h3 167 i) → ab_Fr [(14029, 14030), (14031, 14032), (21120, 21121), (21248, 21249), (21376, 21377)] h3 h4 → un_Q μ zu zo h none h4 := by
      intro a h4 ea r1 r2 a5 a6 a7 r3
      have hF : ab_Fr wr_W1 h h4 := nF.trans (r3.wide (fun c hc => ab_swr_ok (by decide) hc))
      refine ⟨rfl, r1, hF, ?_⟩
      have e44 : mi_f h4 14044 = mi_f h3 14044 := me_f (c := 14044) r3 q1 rfl rfl
      rcases nn with ⟨-, nn⟩ | ⟨m1, m2, m3, m4, m5, m6⟩
      · exact Or.inl (Or.inl (by rw [e44]; exact nn))
      · have est := wk_push2 (by omega) r2 a5 a6 a7
        rw [nst] at est
        have hne : wk_ne μ h3 h4 := wk_ne_fr r3 q1 rfl
        have en : wk_n μ h4 = wk_n μ h3 := wk_ne_n hne
        have hlt : ((wk_n μ h).toNat : Int) < wk_n μ h3 := by omega
        obtain ⟨y1, y2⟩ := hne.2.2 _ hlt
        have e32 : mi_f h4 14032 = mi_f h3 14032 := me_f (c := 14032) r3 q1 rfl rfl
        refine Or.inr ⟨by rw [me_f (c := 14028) r3 q1 rfl rfl, n28]; exact i2, by rw [e44]; exact m1, by rw [me_f (c := 14034) r3 q1 rfl rfl, n34]; exact i5, fun e => ?_, by omega, m3.trans hne.2.2 (by omega), fun e => hne.2.1.trans (nmk e), ?_, by omega, by omega, by omega, fun _ => ?_, fun e => absurd hw e⟩
        · rw [hne.1, me_f (c := 14011) r3 q1 rfl rfl, me_a (k := 152) r3 q1 rfl rfl]
          exact ntok e
        · rw [est, wk_ul_c (by decide), wk_ul_o]
          omega
        · rw [y1, y2, m4, m5]
          refine ⟨?_, by omega, rfl, hn0, hn1, hz0⟩
          rw [est, ea]
          cases m6
          rfl
    refine mt_unE q1 ok oo on (hw3 _ rfl) ?_ ?_
    · intro b1 b2 c1
      refine ⟨by omega, fun h4 r1 r2 r3 a5 a6 a7 r4 => fin ?_ r1 r2 a5 a6 a7 r4⟩
      rw [if_neg (by omega)]
    · intro b1 b2 c1
      refine ⟨by omega, fun h4 r1 r2 r3 a5 a6 a7 r4 => fin ?_ r1 r2 a5 a6 a7 r4⟩
      rw [if_pos (by omega)]
end UNI
