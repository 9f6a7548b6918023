/-! the reference's weigh and alternative, exactly -/
def rv_t (g : wk_g) (u : Int) : Int := if g 119 u.toNat = 10 then g 120 u.toNat else if g 119 u.toNat = 9 then g 114 (g 115 (g 120 u.toNat).toNat).toNat else -1
def rv_p (g : wk_g) (u : Int) : sp_P := (rv_t g u, if g 119 u.toNat = 9 then 1 else 0, if 0 < g 122 u.toNat then (if g 122 u.toNat = 1 then 1 else 2) else 0, pb_v (g 119 u.toNat), pb_s (g 119 u.toNat) (g 120 u.toNat))
def rX (h : sm_H) : sp_X := (mi_a h 133, mx_b h 136, mi_a h 144)
/-- a part's height, repeated or not -/
def rh_p (X : sp_X) (p : sp_P) : Int := if 0 ≤ p.1 then X.2.2 p.1.toNat + p.2.1 else 0
theorem rh_sp {X : sp_X} {p : sp_P} : sp_h X p = if p.2.2.1 ≠ 0 then 0 else rh_p X p := rfl
/-- the reference's rows are the same -/
def rv_eq (h h' : sm_H) : Prop := ∀ r, r ∈ [114, 115, 119, 120, 122, 124, 125, 126, 128, 129, 130] → mi_a h' r = mi_a h r
theorem rv_eq_fr {h h' : sm_H} {wr : List (Nat × Nat)} (hF : ab_Fr wr h h') (hS : ab_Sh sx_sk h) (hw : [114, 115, 119, 120, 122, 124, 125, 126, 128, 129, 130].any (fun r => ab_in wr (r * 128)) = false) : rv_eq h h' := fun r hr => funext fun i => by
  have n := List.any_eq_false.mp hw r hr
  have all : [114, 115, 119, 120, 122, 124, 125, 126, 128, 129, 130].all (fun r => mx_isA sx_sk r || mx_isB sx_sk r) = true := by decide
  exact me_a hF hS (List.all_eq_true.mp all r hr) (by simpa using n)
theorem rv_eq.trans {h h1 h2 : sm_H} (e : rv_eq h h1) (a : rv_eq h1 h2) : rv_eq h h2 := fun r hr => (a r hr).trans (e r hr)
theorem rv_eq.p {h h' : sm_H} (e : rv_eq h h') : rv_p (mi_a h') = rv_p (mi_a h) := by
  funext u
  unfold rv_p rv_t
  rw [e 114 (by decide), e 115 (by decide), e 119 (by decide), e 120 (by decide), e 122 (by decide)]
def wg_W : List (Nat × Nat) := [(16768, 16769), (17152, 17153), (17792, 17793), (18176, 18177)]
def wg_R (h0 : sm_H) (zu : Int) (h : sm_H) (w : Option mi_V) (h' : sm_H) : Prop := w = none ∧ ab_Sh sx_sk h' ∧ ab_Fr wg_W h h' ∧ (∀ i, mi_a h' 131 i = if i = zu.toNat then sp_v (rX h0) (rv_p (mi_a h0) zu) else mi_a h 131 i) ∧ (∀ i, mx_b h' 134 i = if i = zu.toNat then sp_s (rX h0) (rv_p (mi_a h0) zu) else mx_b h 134 i) ∧ ∀ i, mi_a h' 142 i = if i = zu.toNat then rh_p (rX h0) (rv_p (mi_a h0) zu) else mi_a h 142 i
section WGX
variable {d : Nat} {h : sm_H} {zu : Int}
theorem wgx {zf : Int} (hS : ab_Sh sx_sk h) (ef : zf = rv_t (mi_a h) zu) (hP : wg_P zu (mi_a h 119 zu.toNat) zf h) : me_E d 195 49 [some (.inr (.inr 109)), some (.inl zu), some (.inl (mi_a h 119 zu.toNat)), some (.inl zf)] [] h (wg_R h zu h) := by
  obtain ⟨p1, p2, p3, p4, p5⟩ := hP
  have ou : mi_in zu := ⟨by omega, by omega⟩
  have os : mi_in (mi_a h 119 zu.toNat) := mi_inT _
  have of : mi_in zf := by
    rw [ef]
    unfold rv_t
    split
    · exact mi_inT _
    · split
      · exact mi_inT _
      · exact ⟨by decide, by decide⟩
  have P1 : (rv_p (mi_a h) zu).1 = zf := ef.symm
  /- the height -/
  have t181 : ∀ h3, ab_Sh sx_sk h3 → ab_Fr [(16768, 16769), (17152, 17153), (17792, 17793)] h h3 → (∀ i, mi_a h3 131 i = if i = zu.toNat then sp_v (rX h) (rv_p (mi_a h) zu) else mi_a h 131 i) → (∀ i, mx_b h3 134 i = if i = zu.toNat then sp_s (rX h) (rv_p (mi_a h) zu) else mx_b h 134 i) → me_E d 195 181 [some (.inr (.inr 109)), some (.inl zu), some (.inl (mi_a h 119 zu.toNat)), some (.inl zf)] [] h3 (wg_R h zu h) := by
    intro h3 s1 s2 s3 s4
    have e144 : mi_a h3 144 zf.toNat = mi_a h 144 zf.toNat := me_a (k := 144) s2 hS rfl rfl
    have fin : ∀ (z : Int) (h4 : sm_H), z = rh_p (rX h) (rv_p (mi_a h) zu) → ab_Sh sx_sk h4 → (∀ i, mi_a h4 142 i = if i = zu.toNat then z else mi_a h3 142 i) → ab_Fr [(18176, 18177)] h3 h4 → wg_R h zu h none h4 := by
      intro z h4 ez t1 t2 t3
      refine ⟨rfl, t1, (s2.wide (fun c hc => ab_swr_ok (by decide) hc)).trans (t3.wide (fun c hc => ab_swr_ok (by decide) hc)), fun i => (me_a (k := 131) t3 s1 rfl rfl).trans (s3 i), fun i => (me_b (k := 134) t3 s1 rfl rfl).trans (s4 i), fun i => ?_⟩
      rw [t2 i, me_a (k := 142) s2 hS rfl rfl, ez]
    refine mt_wgE s1 ou os of ?_ ?_ ?_
    · intro c1 c2
      refine ⟨by omega, fun h4 t1 t2 t3 => fin _ h4 ?_ t1 t2 t3⟩
      unfold rh_p
      rw [if_neg (c := 0 ≤ (rv_p (mi_a h) zu).1) (by rw [P1]; omega)]
    · intro c1 c2
      have := p3 c2
      refine ⟨by omega, fun h4 t1 t2 t3 => fin _ h4 ?_ t1 t2 t3⟩
      unfold rh_p
      rw [if_pos (c := 0 ≤ (rv_p (mi_a h) zu).1) (by rw [P1]; exact c2), P1, e144]
      show _ = mi_a h 144 zf.toNat + (if mi_a h 119 zu.toNat = 9 then 1 else 0)
      rw [if_neg c1]
      omega
    · intro c1
      have q := p4 c1
      have q3 := p3 q.1
      have b := mi_inT (mx_a h3 144 (Int.toNat zf))
      have b1 : -2147483648 ≤ mi_a h3 144 (Int.toNat zf) := b.1
      rw [e144] at b1 ⊢
      refine ⟨by omega, fun h4 t1 t2 t3 => fin _ h4 ?_ t1 t2 t3⟩
      unfold rh_p
      rw [if_pos (c := 0 ≤ (rv_p (mi_a h) zu).1) (by rw [P1]; exact q.1), P1]
      show _ = mi_a h 144 zf.toNat + (if mi_a h 119 zu.toNat = 9 then 1 else 0)
      rw [if_pos c1]
  have t139 : ∀ h2, ab_Sh sx_sk h2 → ab_Fr [(16768, 16769), (17152, 17153)] h h2 → (∀ i, mi_a h2 131 i = if i = zu.toNat then sp_v (rX h) (rv_p (mi_a h) zu) else mi_a h 131 i) → (∀ i, mx_b h2 134 i = if i = zu.toNat then sp_s (rX h) (rv_p (mi_a h) zu) else mx_b h 134 i) → me_E d 195 139 [some (.inr (.inr 109)), some (.inl zu), some (.inl (mi_a h 119 zu.toNat)), some (.inl zf)] [] h2 (wg_R h zu h) := by
    intro h2 s1 s2 s3 s4
    have e120 : mi_a h2 120 zu.toNat = mi_a h 120 zu.toNat := me_a (k := 120) s2 hS rfl rfl
    have nx : ∀ h3, ab_Sh sx_sk h3 → ab_Fr [(17792, 17793)] h2 h3 → me_E d 195 181 [some (.inr (.inr 109)), some (.inl zu), some (.inl (mi_a h 119 zu.toNat)), some (.inl zf)] [] h3 (wg_R h zu h) := fun h3 t1 t3 => t181 h3 t1 ((s2.wide (fun c hc => ab_swr_ok (by decide) hc)).trans (t3.wide (fun c hc => ab_swr_ok (by decide) hc))) (fun i => (me_a (k := 131) t3 s1 rfl rfl).trans (s3 i)) (fun i => (me_b (k := 134) t3 s1 rfl rfl).trans (s4 i))
    refine mt_wgD s1 ou os of ?_ ?_ ?_
    · intro c1 c2
      exact ⟨by omega, fun h3 t1 t2 t3 => nx h3 t1 t3⟩
    · intro c1 c2
      have := p3 c2
      exact ⟨by omega, fun h3 t1 t2 t3 => nx h3 t1 t3⟩
    · intro c1
      have q := p4 c1
      rw [e120]
      exact ⟨by omega, fun h3 t1 t2 t3 => nx h3 t1 t3⟩
  have t84 : ∀ h1, ab_Sh sx_sk h1 → ab_Fr [(16768, 16769)] h h1 → (∀ i, mi_a h1 131 i = if i = zu.toNat then sp_v (rX h) (rv_p (mi_a h) zu) else mi_a h 131 i) → me_E d 195 84 [some (.inr (.inr 109)), some (.inl zu), some (.inl (mi_a h 119 zu.toNat)), some (.inl zf)] [] h1 (wg_R h zu h) := by
    intro h1 s1 s2 s3
    have e120 : mi_a h1 120 zu.toNat = mi_a h 120 zu.toNat := me_a (k := 120) s2 hS rfl rfl
    have e136 : mx_b h1 136 zf.toNat = mx_b h 136 zf.toNat := me_b (k := 136) s2 hS rfl rfl
    have nx : ∀ (z : Int64) (h2 : sm_H), z = sp_s (rX h) (rv_p (mi_a h) zu) → ab_Sh sx_sk h2 → (∀ i, mx_b h2 134 i = if i = zu.toNat then z else mx_b h1 134 i) → ab_Fr [(17152, 17153)] h1 h2 → me_E d 195 139 [some (.inr (.inr 109)), some (.inl zu), some (.inl (mi_a h 119 zu.toNat)), some (.inl zf)] [] h2 (wg_R h zu h) := fun z h2 ez t1 t2 t3 => t139 h2 t1 ((s2.wide (fun c hc => ab_swr_ok (by decide) hc)).trans (t3.wide (fun c hc => ab_swr_ok (by decide) hc))) (fun i => (me_a (k := 131) t3 s1 rfl rfl).trans (s3 i)) (fun i => by rw [t2 i, me_b (k := 134) s2 hS rfl rfl, ez])
    have neg : zf < 0 → sp_s (rX h) (rv_p (mi_a h) zu) = pb_s (mi_a h 119 zu.toNat) (mi_a h 120 zu.toNat) := fun c => by
      unfold sp_s
      rw [if_neg (c := 0 ≤ (rv_p (mi_a h) zu).1) (by rw [P1]; omega)]
      all_goals rfl
    refine mt_wgC s1 ou os of ?_ ?_ ?_ ?_ ?_
    · intro c1 c2
      refine ⟨by omega, fun h2 t1 t2 t3 => nx _ h2 ?_ t1 t2 t3⟩
      rw [neg c1, c2]
      all_goals rfl
    · intro c1 c2 c3 c4
      refine ⟨by omega, fun h2 t1 t2 t3 => nx _ h2 ?_ t1 t2 t3⟩
      rw [neg c1]
      unfold pb_s
      rw [if_neg c2, if_neg c3, if_neg c4]
    · intro c1 c2 c3 c4
      have := p5 c4
      rw [e120]
      refine ⟨by omega, fun h2 t1 t2 t3 => nx _ h2 ?_ t1 t2 t3⟩
      rw [neg c1]
      unfold pb_s
      rw [if_neg c2, if_neg c3, if_pos c4]
      all_goals rfl
    · intro c1 c2 c3
      refine ⟨by omega, fun h2 t1 t2 t3 => nx _ h2 ?_ t1 t2 t3⟩
      rw [neg c1, c3]
      all_goals rfl
    · intro c1
      have := p3 c1
      refine ⟨by omega, fun h2 t1 t2 t3 => nx _ h2 ?_ t1 t2 t3⟩
      unfold sp_s
      rw [if_pos (c := 0 ≤ (rv_p (mi_a h) zu).1) (by rw [P1]; exact c1), P1, e136]
      all_goals rfl
  have neg : zf < 0 → sp_v (rX h) (rv_p (mi_a h) zu) = pb_v (mi_a h 119 zu.toNat) := fun c => by
    unfold sp_v
    rw [if_neg (c := 0 ≤ (rv_p (mi_a h) zu).1) (by rw [P1]; omega)]
    all_goals rfl
  refine mt_wgB hS ou os of ?_ ?_ ?_ ?_
  · intro c1 c2
    refine ⟨by omega, fun h1 t1 t2 t3 => t84 h1 t1 t3 (fun i => ?_)⟩
    rw [t2 i, neg c1]
    unfold pb_v
    rw [if_neg (c := 3 ≤ mi_a h 119 zu.toNat ∧ mi_a h 119 zu.toNat ≤ 7) (by omega)]
    all_goals rfl
  · intro c1 c2 c3
    refine ⟨by omega, fun h1 t1 t2 t3 => t84 h1 t1 t3 (fun i => ?_)⟩
    rw [t2 i, neg c1]
    unfold pb_v
    rw [if_neg (c := 3 ≤ mi_a h 119 zu.toNat ∧ mi_a h 119 zu.toNat ≤ 7) (by omega)]
    all_goals rfl
  · intro c1 c2 c3
    refine ⟨by omega, fun h1 t1 t2 t3 => t84 h1 t1 t3 (fun i => ?_)⟩
    rw [t2 i, neg c1]
    unfold pb_v
    rw [if_pos (c := 3 ≤ mi_a h 119 zu.toNat ∧ mi_a h 119 zu.toNat ≤ 7) (by omega)]
    all_goals rfl
  · intro c1
    have := p3 c1
    have b := me_ab (k := 133) (i := zf.toNat) hS rfl (by decide) (by omega)
    refine ⟨by omega, fun h1 t1 t2 t3 => t84 h1 t1 t3 (fun i => ?_)⟩
    rw [t2 i]
    unfold sp_v
    rw [if_pos (c := 0 ≤ (rv_p (mi_a h) zu).1) (by rw [P1]; exact c1), P1]
    all_goals rfl
theorem me_weighx {Y : wk_Y} (hL : wk_L (mi_a h) Y) (hu0 : 0 ≤ zu) (hu1 : zu < wk_u Y) (hH : ∀ f : Nat, (f : Int) < wk_f Y → mi_a h 144 f ≤ 1000) (hS : ab_Sh sx_sk h) : me_E d 195 0 [some (.inr (.inr 109)), some (.inl zu), none, none] [] h (wg_R h zu h) := by
  obtain ⟨-, -, -, a6, a7, a8⟩ := hL.2.2.1 zu hu0 hu1
  have h60 := hL.1
  have h80 := hL.2.1
  refine mt_wgA hS ⟨by omega, by omega⟩ ?_ ?_ ?_
  · intro c1 c2
    refine ⟨by omega, fun h1 g1 g2 => ?_⟩
    have e := me_nil g2
    subst e
    exact wgx g1 (by unfold rv_t; rw [if_neg c1, if_neg c2]) ⟨hu0, by omega, fun z => absurd z (by decide), fun z => absurd z c2, a8⟩
  · intro c1 c2
    obtain ⟨b1, b2, b3, b4, b5, b6, -⟩ := a6 c2
    refine ⟨by omega, fun h1 g1 g2 => ?_⟩
    have e := me_nil g2
    subst e
    have b5 : 0 ≤ mi_a h1 114 (mi_a h1 115 (mi_a h1 120 zu.toNat).toNat).toNat := b5
    have b6 : mi_a h1 114 (mi_a h1 115 (mi_a h1 120 zu.toNat).toNat).toNat < wk_f Y := b6
    exact wgx g1 (by unfold rv_t; rw [if_neg c1, if_pos c2]) ⟨hu0, by omega, fun z => ⟨by omega, hH _ (by omega)⟩, fun z => ⟨b5, b1, b2⟩, fun z => by omega⟩
  · intro c1
    obtain ⟨b1, b2, -⟩ := a7 c1
    refine ⟨by omega, fun h1 g1 g2 => ?_⟩
    have e := me_nil g2
    subst e
    exact wgx g1 (by unfold rv_t; rw [if_pos c1]) ⟨hu0, by omega, fun z => ⟨by omega, hH _ (by omega)⟩, fun z => by omega, fun z => by omega⟩
theorem me_isVoidx (hS : ab_Sh sx_sk h) (u0 : 0 ≤ zu) (u1 : zu < 60) : me_E d 198 0 [some (.inr (.inr 109)), some (.inl zu)] [] h (fun w h' => h' = h ∧ ∃ z, w = some (.inl z) ∧ (z = 0 ∨ z = 1) ∧ (z = 1 ↔ (0 < mi_a h 122 zu.toNat ∨ mi_a h 131 zu.toNat ≠ 0))) := by
  refine mt_ivA hS ⟨by omega, by omega⟩ ?_ ?_ ?_
  · intro c1
    exact ⟨by omega, fun h1 g1 g2 => ⟨me_nil g2, 1, rfl, Or.inr rfl, ⟨fun _ => Or.inl c1, fun _ => rfl⟩⟩⟩
  · intro c1 c2
    exact ⟨by omega, fun h1 g1 g2 => ⟨me_nil g2, 0, rfl, Or.inl rfl, ⟨fun q => absurd q (by decide), fun q => (q.elim (fun q => by omega) (fun q => absurd c2 q))⟩⟩⟩
  · intro c1 c2
    exact ⟨by omega, fun h1 g1 g2 => ⟨me_nil g2, 1, rfl, Or.inr rfl, ⟨fun _ => Or.inr c2, fun _ => rfl⟩⟩⟩
end WGX
