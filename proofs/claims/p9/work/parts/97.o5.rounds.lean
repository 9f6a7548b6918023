/-! the reference's study, exactly: the rounds are through -/
theorem sr_eq {n : Nat} {G : sg_G} {X Z : sp_X} (hG : sg_OK n G) (h : sp_eq n X Z) : sp_eq n (sr G X) (sr G Z) := fun F hF => h.fs (hG F hF)
theorem sr_k_1000 {G : sg_G} : ∀ (k F : Nat), (sr_k G k).2.2 F ≤ 1000 := by
  intro k F
  cases k with
  | zero => exact Int.le_refl _
  | succ k => exact sf_h_1000 _ _
/-- a part's void and starts -/
def rq_ok (P : Int → sp_P) (X : sp_X) (h : sm_H) (u : Int) : Prop := mi_a h 131 u.toNat = sp_v X (P u) ∧ mx_b h 134 u.toNat = sp_s X (P u)
theorem rv_p1 {hb : sm_H} {Y : wk_Y} (hL : sy_L hb Y) {u : Int} (u0 : 0 ≤ u) (u1 : u < wk_u Y) : (rv_p (mi_a hb) u).1 < ((mi_f hb 13965).toNat : Int) := by
  obtain ⟨-, -, -, a6, a7, a8⟩ := hL.1.2.2.1 u u0 u1
  have fb := hL.2.2.1
  show rv_t (mi_a hb) u < _
  unfold rv_t
  by_cases c10 : mi_a hb 119 u.toNat = 10
  · rw [if_pos c10]
    have := (a7 c10).2.1
    omega
  · rw [if_neg c10]
    by_cases c9 : mi_a hb 119 u.toNat = 9
    · rw [if_pos c9]
      obtain ⟨-, -, -, -, -, b6, -⟩ := a6 c9
      have b6 : mi_a hb 114 (mi_a hb 115 (mi_a hb 120 u.toNat).toNat).toNat < wk_f Y := b6
      omega
    · rw [if_neg c9]
      omega
theorem rq_ok_eq {X Z : sp_X} {P : Int → sp_P} {h : sm_H} {u : Int} {n : Nat} (e : sp_eq n X Z) (hp : (P u).1 < n) (k : rp_ok P X h u) : rq_ok P Z h u := by
  have e1 : sp_v X (P u) = sp_v Z (P u) := by
    unfold sp_v
    by_cases c : 0 ≤ (P u).1
    · rw [if_pos c, if_pos c]; exact (e _ (by omega)).1
    · rw [if_neg c, if_neg c]
  have e2 : sp_s X (P u) = sp_s Z (P u) := by
    unfold sp_s
    by_cases c : 0 ≤ (P u).1
    · rw [if_pos c, if_pos c]; exact (e _ (by omega)).2.1
    · rw [if_neg c, if_neg c]
  exact ⟨k.1.trans e1, k.2.1.trans e2⟩
/-- the first rounds are through -/
def st_1x (hb : sm_H) (W : sp_F) (j : Nat) (h : sm_H) : Prop := st_B hb W h ∧ sp_eq (mi_f hb 13965).toNat (rX h) (sr_k (GR (mi_a hb)) j) ∧ sp_fix (mi_f hb 13965).toNat (GR (mi_a hb)) (sr_k (GR (mi_a hb)) j) ∧ ∀ u : Int, 0 ≤ u → u < mi_f hb 13963 → rq_ok (rv_p (mi_a hb)) (sr_k (GR (mi_a hb)) j) h u
def st_H (hb : sm_H) (W : sp_F) (k : Nat) (h : sm_H) : Prop := st_B hb W h ∧ sp_eq (mi_f hb 13965).toNat (rX h) (sr_k (GR (mi_a hb)) k) ∧ (k = 0 → mi_f h 13999 ≠ 0) ∧ ∀ j, k = j + 1 → (mi_f h 13999 = 0 → sp_eq (mi_f hb 13965).toNat (sr_k (GR (mi_a hb)) (j + 1)) (sr_k (GR (mi_a hb)) j)) ∧ ∃ X, sp_eq (mi_f hb 13965).toNat X (sr_k (GR (mi_a hb)) j) ∧ ∀ u : Int, 0 ≤ u → u < mi_f hb 13963 → rp_ok (rv_p (mi_a hb)) X h u
section STY
variable {d : Nat} {hb : sm_H} {Y : wk_Y} {W : sp_F} {Q : Option mi_V → sm_H → Prop}
theorem st_end {k : Nat} {h : sm_H} (hL : sy_L hb Y) (hA : sy_A hb) (hSb : ab_Sh sx_sk hb) (hH : st_H hb W k h) (hx : mi_f h 13999 = 0 ∨ 900 ≤ k) : ∃ j, st_1x hb W j h := by
  obtain ⟨i1, i3, i5, i6⟩ := hH
  have hG := sy_OK hL hA
  have b80 := me_fb (c := 13965) hSb rfl
  cases k with
  | zero =>
    exfalso
    rcases hx with q | q
    · exact i5 rfl q
    · omega
  | succ j =>
    obtain ⟨j1, X, j2, j3⟩ := i6 j rfl
    have E : sp_eq (mi_f hb 13965).toNat (sr_k (GR (mi_a hb)) (j + 1)) (sr_k (GR (mi_a hb)) j) := by
      rcases hx with q | q
      · exact j1 q
      · exact sr_k_stop hG (by omega)
    exact ⟨j, i1, i3.trans E, sr_fix E, fun u u0 u1 => rq_ok_eq j2 (rv_p1 hL u0 (by rw [hL.2.1]; exact u1)) (j3 u u0 u1)⟩
theorem st74 (hL : sy_L hb Y) (hA : sy_A hb) (hSb : ab_Sh sx_sk hb) (K : ∀ h j q2 q3, (∀ v, q2 = some v → mi_ok v) → (∀ v, q3 = some v → mi_ok v) → st_1x hb W j h → mi_f h 13999 = 1 → me_E (d + 3) 194 169 [some (.inr (.inr 109)), some (.inl 0), q2, q3] [] h Q) : ∀ (N k : Nat) (q2 q3 : Option mi_V) (h : sm_H), 900 - k < N → k ≤ 900 → (∀ v, q2 = some v → mi_ok v) → (∀ v, q3 = some v → mi_ok v) → st_H hb W k h → me_E (d + 3) 194 74 [some (.inr (.inr 109)), some (.inl (k : Int)), q2, q3] [] h Q := by
  have hG := sy_OK hL hA
  have b80 := me_fb (c := 13965) hSb rfl
  have b64 := me_fb (c := 13964) hSb rfl
  have b63 := me_fb (c := 13963) hSb rfl
  have out : ∀ (h h1 : sm_H) (j : Nat) (q2 q3 : Option mi_V), (∀ v, q2 = some v → mi_ok v) → (∀ v, q3 = some v → mi_ok v) → st_1x hb W j h → ab_Sh sx_sk h1 → mi_f h1 13999 = 1 → ab_Fr [(13999, 14000)] h h1 → me_E (d + 3) 194 169 [some (.inr (.inr 109)), some (.inl 0), q2, q3] [] h1 Q := by
    intro h h1 j q2 q3 o2 o3 hj s1 s2 s3
    obtain ⟨⟨b1, b2, b3⟩, j2, j3, j4⟩ := hj
    refine K h1 j q2 q3 o2 o3 ⟨⟨s1, b2.trans (s3.wide (fun c hc => ab_swr_ok (by decide) hc)), (funext fun i => me_b (k := 138) s3 b1 rfl rfl).trans b3⟩, by rw [rX_fr s3 b1 rfl]; exact j2, j3, fun u u0 u1 => ?_⟩ s2
    obtain ⟨x1, x2⟩ := j4 u u0 u1
    exact ⟨(me_a (k := 131) s3 b1 rfl rfl).trans x1, (me_b (k := 134) s3 b1 rfl rfl).trans x2⟩
  intro N
  induction N with
  | zero => intro k q2 q3 h hN; exfalso; omega
  | succ N ih =>
    intro k q2 q3 h hN hk o2 o3 hH
    have oa : mi_in (k : Int) := ⟨by omega, by omega⟩
    refine mt_stC hH.1.1 oa o2 o3 ?_ ?_ ?_
    · intro c1 h1 s1 s2 s3
      obtain ⟨j, hj⟩ := st_end hL hA hSb hH (Or.inr (by omega))
      exact out h h1 j q2 q3 o2 o3 hj s1 s2 s3
    · intro b c1 c2 h1 s1 s2 s3
      obtain ⟨j, hj⟩ := st_end hL hA hSb hH (Or.inl c2)
      exact out h h1 j q2 q3 o2 o3 hj s1 s2 s3
    · intro b c1 c2 h1 s1 s2 s3
      obtain ⟨⟨b1, b2, b3⟩, i3, i5, i6⟩ := hH
      have eX : rX h1 = rX h := rX_fr s3 b1 rfl
      have B1 : st_B hb W h1 := ⟨s1, b2.trans (s3.wide (fun c hc => ab_swr_ok (by decide) hc)), (funext fun i => me_b (k := 138) s3 b1 rfl rfl).trans b3⟩
      refine st95 (W := W) (X := rX h) hL hSb (fun F hF => ?_) oa o3 (fun h2 w2 => ?_) 61 0 h1 (by decide) (by decide) b63.1 ⟨B1, eX, s2, fun u u0 u1 => by omega⟩
      · rw [(i3 F (by omega)).2.2]
        exact sr_k_1000 k F
      · refine st116 (W := W) (X := rX h) hL hSb oa o3 (fun h3 w3 => ?_) 81 0 h2 (by decide) (by decide) b64.1 ⟨w2, fun a a0 a1 => by omega⟩
        obtain ⟨⟨y1, y2, y3, y4⟩, y5⟩ := w3
        refine st137 (W := W) (X := rX h) hL hA hSb oa ⟨by omega, by omega⟩ o3 (fun h4 zb ob w4 => ?_) 81 0 h3 (by decide) (by decide) b80.1 ⟨y1, y4, y5, fun F hF => by omega, fun F _ => by rw [y2]; exact ⟨rfl, rfl, rfl⟩, fun _ F hF => by omega⟩
        obtain ⟨z1, z2, z3, z4, z5, z6⟩ := w4
        have ek : (k : Int) + 1 = ((k + 1 : Nat) : Int) := by omega
        rw [ek]
        have N4 : sp_eq (mi_f hb 13965).toNat (rX h4) (sr_k (GR (mi_a hb)) (k + 1)) := by
          have a : sp_eq (mi_f hb 13965).toNat (rX h4) (sr (GR (mi_a hb)) (rX h)) := fun F hF => z4 F (by omega)
          exact a.trans (sr_eq hG i3)
        refine ih (k + 1) _ _ h4 (by omega) (by omega) (me_oi ob) o3 ⟨z1, N4, fun q => by omega, fun j ej => ?_⟩
        have : j = k := by omega
        subst this
        refine ⟨fun q => ?_, rX h, i3, z2⟩
        have a : sp_eq (mi_f hb 13965).toNat (sr (GR (mi_a hb)) (rX h)) (rX h) := fun F hF => z6 q F (by omega)
        exact ((sr_eq hG i3).symm.trans a).trans i3
end STY
