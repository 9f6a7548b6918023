/-! match, grown -/
section MAT
variable {h : sm_H} {d : Nat} {zu : Int}
/-- a token is matched: what is said of it -/
def wk_tok (μ : Int) (h : sm_H) : Prop := μ = 0 → 0 ≤ mi_f h 14033 ∧ mi_f h 14033 ≤ mi_f h 14011 ∧ mi_a h 152 (mi_f h 14011).toNat = 0
/-- nodes of a number, of a name, of a literal -/
def wk_leaf (μ : Int) (s : Int) (h h' : sm_H) : Prop := (s = 1 ∧ wk_n μ h' = wk_n μ h + 1 ∧ wk_ag μ (wk_n μ h) h h' ∧ (μ ≠ 2 → wk_K μ h' (wk_n μ h).toNat = 2)) ∨ (s = 2 ∧ wk_n μ h' = wk_n μ h + 1 ∧ wk_ag μ (wk_n μ h) h h' ∧ (μ ≠ 2 → wk_K μ h' (wk_n μ h).toNat = 3)) ∨ (s = 8 ∧ wk_n μ h' = wk_n μ h ∧ wk_ag μ (wk_n μ h) h h')
def wr_L : List (Nat × Nat) := [(14016, 14017), (14033, 14035), (14037, 14038), (14044, 14048), (20224, 20481), (20864, 20865), (21760, 21761)]
theorem me_match (hS : ab_Sh sx_sk h) (hm : mi_f h 14028 = 0) (hu0 : 0 ≤ zu) (hu1 : zu < 60) (hs : mi_a h 119 zu.toNat = 1 ∨ mi_a h 119 zu.toNat = 2 ∨ mi_a h 119 zu.toNat = 8) (hl : mi_a h 119 zu.toNat = 8 → 0 ≤ mi_a h 120 zu.toNat ∧ mi_a h 120 zu.toNat < 20) (ht : wk_tok 0 h) (hp : mi_f h 14044 = 0) (hw : mi_f h 14034 < 0) : me_E (d + 1) 214 0 [some (.inr (.inr 109)), some (.inl zu), none] [] h (fun w h' => w = none ∧ ab_Sh sx_sk h' ∧ ab_Fr wr_L h h' ∧ ((mi_f h' 14044 = 1 ∨ 0 ≤ mi_f h' 14034) ∨ (mi_f h' 14044 = 0 ∧ mi_f h' 14034 < 0 ∧ wk_tok 0 h' ∧ wk_leaf 0 (mi_a h 119 zu.toNat) h h'))) := by
  have ok : mi_in zu := ⟨by omega, by omega⟩
  obtain ⟨n0, n1, n2⟩ := ht rfl
  have b11 := me_fb (c := 14011) hS rfl
  have hidx : (mi_f h 14033).toNat < 161 := by omega
  have bk := me_ab (k := 152) (i := (mi_f h 14033).toNat) hS rfl (by decide) hidx
  have bf := me_ab (k := 153) (i := (mi_f h 14033).toNat) hS rfl (by decide) hidx
  have hne : mi_a h 152 (mi_f h 14033).toNat ≠ 0 → mi_f h 14033 < mi_f h 14011 := by
    intro e
    rcases Int.lt_or_eq_of_le n1 with e1 | e1
    · exact e1
    · rw [← e1] at n2
      exact absurd n2 e
  have bad : ∀ h1, ab_Sh sx_sk h1 → mi_f h1 14034 = mi_a h 153 (Int.toNat (mi_f h 14033)) → ab_Fr [(14034, 14035)] h h1 → ((none : Option mi_V) = none ∧ ab_Sh sx_sk h1 ∧ ab_Fr wr_L h h1 ∧ ((mi_f h1 14044 = 1 ∨ 0 ≤ mi_f h1 14034) ∨ (mi_f h1 14044 = 0 ∧ mi_f h1 14034 < 0 ∧ wk_tok 0 h1 ∧ wk_leaf 0 (mi_a h 119 zu.toNat) h h1))) := fun h1 g1 g2 g3 => ⟨rfl, g1, g3.wide (fun c hc => ab_swr_ok (by decide) hc), Or.inl (Or.inr (by rw [g2]; exact bf.1))⟩
  have tokf : ∀ h2 : sm_H, mi_f h2 14033 = mi_f h 14033 + 1 → mi_f h2 14011 = mi_f h 14011 → (∀ i, mi_a h2 152 i = mi_a h 152 i) → mi_f h 14033 < mi_f h 14011 → wk_tok 0 h2 := fun h2 e1 e2 e3 e4 _ => by
    rw [e1, e2, e3]
    exact ⟨by omega, by omega, n2⟩
  have node : ∀ (kd : Int) (h1 h2 h3 : sm_H) (w : Option mi_V), mi_f h 14033 < mi_f h 14011 → (mi_a h 119 zu.toNat = 1 ∧ kd = 2 ∨ mi_a h 119 zu.toNat = 2 ∧ kd = 3) → ab_Sh sx_sk h1 → ab_Fr [] h h1 → ab_Sh sx_sk h2 → ab_Fr [(14016, 14017), (14033, 14034), (14044, 14045), (20224, 20225), (20352, 20353), (20480, 20481), (20864, 20865)] h1 h2 → (∃ v : Int, ((0 : Int) ≠ 2 ∧ mi_f h2 14044 = 1 ∧ w = some (.inl 0) ∧ mi_f h2 14033 = mi_f h1 14033 ∧ mi_f h2 14016 = mi_f h1 14016) ∨ (((0 : Int) = 2 → mi_f h2 14044 = mi_f h1 14044) ∧ ((0 : Int) ≠ 2 → mi_f h2 14044 = 0) ∧ wk_ev 0 kd v h1 h2 ∧ w = some (.inl (wk_n 0 h1)))) → ab_Sh sx_sk h3 → mi_f h3 14033 = mi_f h2 14033 + 1 → ab_Fr [(14033, 14034)] h2 h3 → ((none : Option mi_V) = none ∧ ab_Sh sx_sk h3 ∧ ab_Fr wr_L h h3 ∧ ((mi_f h3 14044 = 1 ∨ 0 ≤ mi_f h3 14034) ∨ (mi_f h3 14044 = 0 ∧ mi_f h3 14034 < 0 ∧ wk_tok 0 h3 ∧ wk_leaf 0 (mi_a h 119 zu.toNat) h h3))) := by
    intro kd h1 h2 h3 w hlt hk g1 g2 q1 q2 q3 r1 r2 r3
    have hF : ab_Fr wr_L h h3 := ((g2.wide (fun c hc => by cases hc)).trans (q2.wide (fun c hc => ab_swr_ok (by decide) hc))).trans (r3.wide (fun c hc => ab_swr_ok (by decide) hc))
    have e34 : mi_f h3 14034 = mi_f h 14034 := ((me_f (c := 14034) r3 q1 rfl rfl).trans (me_f (c := 14034) q2 g1 rfl rfl)).trans (me_f (c := 14034) g2 hS rfl rfl)
    have e44 : mi_f h3 14044 = mi_f h2 14044 := me_f (c := 14044) r3 q1 rfl rfl
    have f33 : mi_f h1 14033 = mi_f h 14033 := me_f (c := 14033) g2 hS rfl rfl
    have f16 : mi_f h1 14016 = mi_f h 14016 := me_f (c := 14016) g2 hS rfl rfl
    have f11 : mi_f h3 14011 = mi_f h 14011 := ((me_f (c := 14011) r3 q1 rfl rfl).trans (me_f (c := 14011) q2 g1 rfl rfl)).trans (me_f (c := 14011) g2 hS rfl rfl)
    have f152 : ∀ i, mi_a h3 152 i = mi_a h 152 i := fun i => ((me_a (k := 152) r3 q1 rfl rfl).trans (me_a (k := 152) q2 g1 rfl rfl)).trans (me_a (k := 152) g2 hS rfl rfl)
    refine ⟨rfl, r1, hF, ?_⟩
    obtain ⟨v, q3⟩ := q3
    rcases q3 with q3 | q3
    · exact Or.inl (Or.inl (by rw [e44]; exact q3.2.1))
    · obtain ⟨-, p2, p3, -⟩ := q3
      obtain ⟨x1, x2, x3, -⟩ := p3
      obtain ⟨y1, y2, y3⟩ := x3 (by decide)
      have nA : wk_n 0 h1 = wk_n 0 h := by unfold wk_n; rw [f33, f16]
      have nC : wk_n 0 h3 = wk_n 0 h2 := by
        unfold wk_n
        rw [if_neg (by decide), if_neg (by decide)]
        exact me_f (c := 14016) r3 q1 rfl rfl
      have agA : wk_ag 0 (wk_n 0 h) h h1 := wk_ag_fr g2 hS rfl
      have agC : wk_ag 0 (wk_n 0 h2) h2 h3 := wk_ag_fr r3 q1 rfl
      rw [nA] at x1 x2 y1
      have hn0 : 0 ≤ wk_n 0 h := by
        unfold wk_n
        rw [if_neg (by decide)]
        exact (me_fb (c := 14016) hS rfl).1
      have hag : wk_ag 0 (wk_n 0 h) h h3 := (agA.trans x2 (Int.le_refl _)).trans agC (by omega)
      have hlt2 : ((wk_n 0 h).toNat : Int) < wk_n 0 h2 := by omega
      obtain ⟨z1, -⟩ := agC _ hlt2
      refine Or.inr ⟨by rw [e44]; exact p2 (by decide), by rw [e34]; exact hw, tokf h3 (by omega) f11 f152 hlt, ?_⟩
      rcases hk with ⟨k1, k2⟩ | ⟨k1, k2⟩
      · exact Or.inl ⟨k1, by rw [nC]; exact x1, hag, fun _ => by rw [z1, y1, k2]⟩
      · exact Or.inr (Or.inl ⟨k1, by rw [nC]; exact x1, hag, fun _ => by rw [z1, y1, k2]⟩)
  refine mt_maA hS ok ?_ ?_ ?_ ?_ ?_ ?_ ?_ ?_
  · intro b c1 c2 c3 c4
    exfalso; omega
  · intro b c1 c2 c3 c4
    have hlt := hne (by omega)
    refine ⟨by omega, fun h1 g1 g2 => ⟨_, me_comes (d := d) 0 g1 ⟨by decide, by decide⟩ ((me_f (c := 14028) g2 hS rfl rfl).trans hm) (fun e => absurd e (by decide)), ?_⟩⟩
    intro w h2 hwk hq
    obtain ⟨q1, q2, q3⟩ := hq
    have hz : ∃ z, w = some (.inl z) := by
      rcases q3 with q3 | q3
      · exact ⟨_, q3.2.2.1⟩
      · exact ⟨_, q3.2.2.2⟩
    obtain ⟨z, rfl⟩ := hz
    have e33 : mi_f h2 14033 = mi_f h 14033 := by
      rcases q3 with q3 | q3
      · exact q3.2.2.2.1.trans (me_f (c := 14033) g2 hS rfl rfl)
      · exact (q3.2.2.1.2.2.1 (by decide)).2.2.trans (me_f (c := 14033) g2 hS rfl rfl)
    refine mt_maC q1 ok (mi_inT _ : mi_in (mi_a h 119 zu.toNat)) (hwk _ rfl) ?_
    intro b2
    exact ⟨by omega, fun h3 r1 r2 r3 => node 3 h1 h2 h3 _ hlt (Or.inr ⟨c4, rfl⟩) g1 g2 q1 q2 ⟨_, q3⟩ r1 r2 r3⟩
  · intro b c1 c2 c3
    have hlt := hne (by omega)
    refine ⟨by omega, fun h1 g1 g2 => ⟨_, me_comes (d := d) 0 g1 ⟨by decide, by decide⟩ ((me_f (c := 14028) g2 hS rfl rfl).trans hm) (fun e => absurd e (by decide)), ?_⟩⟩
    intro w h2 hwk hq
    obtain ⟨q1, q2, q3⟩ := hq
    have hz : ∃ z, w = some (.inl z) := by
      rcases q3 with q3 | q3
      · exact ⟨_, q3.2.2.1⟩
      · exact ⟨_, q3.2.2.2⟩
    obtain ⟨z, rfl⟩ := hz
    have e33 : mi_f h2 14033 = mi_f h 14033 := by
      rcases q3 with q3 | q3
      · exact q3.2.2.2.1.trans (me_f (c := 14033) g2 hS rfl rfl)
      · exact (q3.2.2.1.2.2.1 (by decide)).2.2.trans (me_f (c := 14033) g2 hS rfl rfl)
    have e119 : mi_a h2 119 zu.toNat = mi_a h 119 zu.toNat := (me_a (k := 119) q2 g1 rfl rfl).trans (me_a (k := 119) g2 hS rfl rfl)
    refine mt_maB q1 ok (mi_inT _ : mi_in (mi_a h 119 zu.toNat)) (hwk _ rfl) ?_ ?_
    · intro b2 c4
      exact ⟨by omega, fun h3 r1 r2 r3 => node 2 h1 h2 h3 _ hlt (Or.inl ⟨c3, rfl⟩) g1 g2 q1 q2 ⟨_, q3⟩ r1 r2 r3⟩
    · intro b2 c4
      exfalso; omega
  · intro b c1 c2
    exact ⟨by omega, fun h1 g1 g2 g3 => bad h1 g1 g2 g3⟩
  · intro b c1 c2 c3 c4
    have hl := hl c1
    have hlt := hne (by omega)
    refine ⟨by omega, fun h1 g1 g2 g3 => ⟨rfl, g1, g3.wide (fun c hc => ab_swr_ok (by decide) hc), Or.inr ⟨(me_f (c := 14044) g3 hS rfl rfl).trans hp, by rw [me_f (c := 14034) g3 hS rfl rfl]; exact hw, tokf h1 g2 (me_f (c := 14011) g3 hS rfl rfl) (fun i => me_a (k := 152) g3 hS rfl rfl) hlt, Or.inr (Or.inr ⟨c1, ?_, wk_ag_fr g3 hS rfl⟩)⟩⟩⟩
    unfold wk_n
    rw [if_neg (by decide), if_neg (by decide)]
    exact me_f (c := 14016) g3 hS rfl rfl
  · intro b c1 c2 c3 c4
    exfalso; omega
  · intro b c1 c2 c3
    exfalso; omega
  · intro b c1 c2
    have hl := hl c1
    exact ⟨by omega, fun h1 g1 g2 g3 => bad h1 g1 g2 g3⟩
end MAT
