/-! directed, lowest; the items are put on the stack -/
def wk_fa (g : wk_g) (f : Int) : Prop := 1 ≤ g 130 f.toNat ∧ wk_alt g (g 130 f.toNat).toNat (g 129 f.toNat) < 0 ∧ ∀ j : Nat, (j : Int) < g 130 f.toNat → 0 ≤ wk_alt g j (g 129 f.toNat) ∧ wk_alt g j (g 129 f.toNat) < 80
theorem wk_alt_succ (g : wk_g) : ∀ (n : Nat) (a : Int), wk_alt g (n + 1) a = g 128 (wk_alt g n a).toNat := by
  intro n
  induction n with
  | zero => intro a; rfl
  | succ n ih => intro a; exact ih (g 128 a.toNat)
section DIR
variable {d : Nat} {h : sm_H} {zf : Int}
theorem wk_fa_at {g : wk_g} {f : Int} (hf : wk_fa g f) {j : Nat} (hj : (j : Int) ≤ g 130 f.toNat) : (wk_alt g j (g 129 f.toNat) < 0 ∧ (j : Int) = g 130 f.toNat) ∨ (0 ≤ wk_alt g j (g 129 f.toNat) ∧ wk_alt g j (g 129 f.toNat) < 80 ∧ (j : Int) < g 130 f.toNat) := by
  rcases Int.lt_or_eq_of_le hj with e | e
  · exact Or.inr ⟨(hf.2.2 j e).1, (hf.2.2 j e).2, e⟩
  · refine Or.inl ⟨?_, e⟩
    have := hf.2.1
    rw [← e] at this
    simpa using this
theorem me_diB (hS : ab_Sh sx_sk h) (hn0 : 0 ≤ mi_f h 14033) (hn1 : mi_f h 14033 ≤ 160) (hf0 : 0 ≤ zf) (hf1 : zf < 80) (hf : wk_fa (mi_a h) zf) : ∀ (N : Nat) (j : Nat), (mi_a h 130 zf.toNat) - j < N → (j : Int) ≤ mi_a h 130 zf.toNat → me_E (d + 1) 224 9 [some (.inr (.inr 109)), some (.inl zf), some (.inl (j : Int)), some (.inl (wk_alt (mi_a h) j (mi_a h 129 zf.toNat)))] [] h (fun w h' => h' = h ∧ ∃ z, w = some (.inl z) ∧ -1 ≤ z ∧ z < mi_a h 130 zf.toNat) := by
  have of : mi_in zf := ⟨by omega, by omega⟩
  have b130 := me_ab (k := 130) (i := zf.toNat) hS rfl (by decide) (by omega)
  intro N
  induction N with
  | zero => intro j h1 h2; omega
  | succ N ih =>
    intro j h1 h2
    have hc := wk_fa_at hf h2
    have es := wk_alt_succ (mi_a h) j (mi_a h 129 zf.toNat)
    generalize ha : wk_alt (mi_a h) j (mi_a h 129 zf.toNat) = a at hc es ⊢
    have oj : mi_in (j : Int) := ⟨by omega, by omega⟩
    have oa : mi_in a := by
      rw [← ha]
      cases j with
      | zero => exact mi_inT _
      | succ j => rw [wk_alt_succ]; exact mi_inT _
    have go : ∀ w h2, (∀ x, w = some x → mi_ok x) → (ab_Sh sx_sk h2 ∧ h2 = h ∧ ∃ z, w = some (.inl z) ∧ 0 ≤ z ∧ z ≤ 1) → 0 ≤ a → a < 80 → (j : Int) < mi_a h 130 zf.toNat → me_E (d + 1) 224 23 [some (.inr (.inr 109)), some (.inl zf), some (.inl (j : Int)), some (.inl a)] (mi_back w []) h2 (fun w h' => h' = h ∧ ∃ z, w = some (.inl z) ∧ -1 ≤ z ∧ z < mi_a h 130 zf.toNat) := by
      intro w h2 hw hq a0 a1 jl
      obtain ⟨q1, rfl, z, rfl, z1, z2⟩ := hq
      refine mt_diC q1 of oj oa (hw _ rfl) ?_ ?_
      · intro c
        refine ⟨by omega, fun h3 r1 r2 => ?_⟩
        have e3 := me_nil r2
        subst e3
        have := ih (j + 1) (by omega) (by omega)
        rw [es] at this
        exact this
      · intro c h3 r1 r2
        exact ⟨me_nil r2, (j : Int), rfl, by omega, jl⟩
    refine mt_diB hS of oj oa ?_ ?_ ?_
    · intro c h3 r1 r2
      exact ⟨me_nil r2, -1, rfl, by decide, by omega⟩
    · intro c1 c2
      refine ⟨by omega, fun h3 r1 r2 => ?_⟩
      have e3 := me_nil r2
      subst e3
      exact ⟨_, me_has hS hn0 hn1, fun w h2 hw hq => go w h2 hw hq (by omega) (by omega) (by omega)⟩
    · intro c1 c2
      refine ⟨by omega, fun h3 r1 r2 => ?_⟩
      have e3 := me_nil r2
      subst e3
      exact ⟨_, me_has hS hn0 hn1, fun w h2 hw hq => go w h2 hw hq (by omega) (by omega) (by omega)⟩
theorem me_directed (hS : ab_Sh sx_sk h) (hn0 : 0 ≤ mi_f h 14033) (hn1 : mi_f h 14033 ≤ 160) (hf0 : 0 ≤ zf) (hf1 : zf < 80) (hf : wk_fa (mi_a h) zf) : me_E (d + 1) 224 0 [some (.inr (.inr 109)), some (.inl zf), none, none] [] h (fun w h' => h' = h ∧ ∃ z, w = some (.inl z) ∧ -1 ≤ z ∧ z < mi_a h 130 zf.toNat) := by
  refine mt_diA hS ⟨by omega, by omega⟩ ?_
  refine ⟨by omega, fun h3 r1 r2 => ?_⟩
  have e3 := me_nil r2
  subst e3
  have b130 := me_ab (k := 130) (i := zf.toNat) hS rfl (by decide) (by omega)
  exact me_diB hS hn0 hn1 hf0 hf1 hf 10 0 (by omega) (by have := hf.1; omega)
theorem me_loB (hS : ab_Sh sx_sk h) (hf0 : 0 ≤ zf) (hf1 : zf < 80) (hf : wk_fa (mi_a h) zf) : ∀ (N : Nat) (j : Nat) (zb zh : Int), (mi_a h 130 zf.toNat) - j < N → (j : Int) ≤ mi_a h 130 zf.toNat → 0 ≤ zb → zb < mi_a h 130 zf.toNat → mi_in zh → me_E d 225 17 [some (.inr (.inr 109)), some (.inl zf), some (.inl (j : Int)), some (.inl zb), some (.inl zh), some (.inl (wk_alt (mi_a h) j (mi_a h 129 zf.toNat)))] [] h (fun w h' => h' = h ∧ ∃ z, w = some (.inl z) ∧ 0 ≤ z ∧ z < mi_a h 130 zf.toNat) := by
  have of : mi_in zf := ⟨by omega, by omega⟩
  have b130 := me_ab (k := 130) (i := zf.toNat) hS rfl (by decide) (by omega)
  intro N
  induction N with
  | zero => intro j zb zh h1 h2; omega
  | succ N ih =>
    intro j zb zh h1 h2 h3 h4 oh
    have hc := wk_fa_at hf h2
    have es := wk_alt_succ (mi_a h) j (mi_a h 129 zf.toNat)
    generalize ha : wk_alt (mi_a h) j (mi_a h 129 zf.toNat) = a at hc es ⊢
    have oj : mi_in (j : Int) := ⟨by omega, by omega⟩
    have ob : mi_in zb := ⟨by omega, by omega⟩
    have oa : mi_in a := by
      rw [← ha]
      cases j with
      | zero => exact mi_inT _
      | succ j => rw [wk_alt_succ]; exact mi_inT _
    refine mt_loB hS of oj ob oh oa ?_ ?_ ?_
    · intro c h3' r1 r2
      exact ⟨me_nil r2, zb, rfl, h3, h4⟩
    · intro c1 c2
      refine ⟨by omega, fun h3' r1 r2 => ?_⟩
      have e3 := me_nil r2
      subst e3
      have := ih (j + 1) zb zh (by omega) (by omega) h3 h4 oh
      rw [es] at this
      exact this
    · intro c1 c2
      refine ⟨by omega, fun h3' r1 r2 => ?_⟩
      have e3 := me_nil r2
      subst e3
      have := ih (j + 1) (j : Int) (mi_a h3' 143 a.toNat) (by omega) (by omega) (by omega) (by omega) (mi_inT _)
      rw [es] at this
      exact this
theorem me_lowest (hS : ab_Sh sx_sk h) (hf0 : 0 ≤ zf) (hf1 : zf < 80) (hf : wk_fa (mi_a h) zf) : me_E d 225 0 [some (.inr (.inr 109)), some (.inl zf), none, none, none, none] [] h (fun w h' => h' = h ∧ ∃ z, w = some (.inl z) ∧ 0 ≤ z ∧ z < mi_a h 130 zf.toNat) := by
  refine mt_loA hS ⟨by omega, by omega⟩ ?_
  refine ⟨by omega, fun h3 r1 r2 => ?_⟩
  have e3 := me_nil r2
  subst e3
  have b130 := me_ab (k := 130) (i := zf.toNat) hS rfl (by decide) (by omega)
  have := hf.1
  exact me_loB hS hf0 hf1 hf 10 0 0 1001 (by omega) (by omega) (by decide) (by omega) ⟨by decide, by decide⟩
end DIR
/-! the items are put on the stack -/
def wr_pu : List (Nat × Nat) := [(14029, 14030), (21120, 21121), (21248, 21249), (21376, 21377)]
theorem me_push {h : sm_H} {d : Nat} {e0 e1 e2 : Int} (hS : ab_Sh sx_sk h) (o0 : mi_in e0) (o1 : mi_in e1) (o2 : mi_in e2) (t0 : 0 ≤ mi_f h 14029) (t1 : mi_f h 14029 < 3000) : me_E d 209 0 [some (.inr (.inr 109)), some (.inl e0), some (.inl e1), some (.inl e2)] [] h (fun w h' => w = none ∧ ab_Sh sx_sk h' ∧ ab_Fr wr_pu h h' ∧ mi_f h' 14029 = mi_f h 14029 + 1 ∧ wk_stk h' = (e0, e1, e2) :: wk_stk h) := by
  refine mt_push hS o0 o1 o2 ?_
  intro b
  refine ⟨by omega, fun h1 g1 g2 a5 a6 a7 g3 => ⟨rfl, g1, g3, g2, wk_push1 t0 g2 a5 a6 a7⟩⟩
/-- the element before -/
def wk_pv (L : List Int) : Nat → Int
  | 0 => -1
  | n + 1 => L.getD n 0
theorem wk_en_at (g : wk_g) (L : List Int) {N : Nat} {x : Int} (hx : L[N]? = some x) : wk_en g (wk_pv L N) (L.drop N) = (if 0 ≤ wk_pv L N ∧ g 124 (wk_pv L N).toNat = x then [(3, 0, 0), (0, x, if 0 ≤ g 124 x.toNat then 1 else 0), (4, 0, 0)] else [(0, x, if 0 ≤ g 124 x.toNat then 1 else 0)]) ++ wk_en g (wk_pv L (N + 1)) (L.drop (N + 1)) := by
  obtain ⟨hl, e⟩ := List.getElem?_eq_some_iff.mp hx
  have ed : L.drop N = x :: L.drop (N + 1) := by rw [List.drop_eq_getElem_cons hl, e]
  have ep : wk_pv L (N + 1) = x := by
    show L.getD N 0 = x
    rw [List.getD_eq_getElem?_getD, hx]
    rfl
  rw [ed, ep]
  rfl
theorem wk_en_len (g : wk_g) (L : List Int) : ∀ N, N ≤ L.length → (wk_en g (wk_pv L N) (L.drop N)).length ≤ (wk_en g (wk_pv L 0) (L.drop 0)).length := by
  intro N
  induction N with
  | zero => intro _; exact Nat.le_refl _
  | succ N ih =>
    intro hN
    have := ih (by omega)
    rw [wk_en_at g L (List.getElem?_eq_getElem (by omega : N < L.length)), List.length_append] at this
    omega
section CHO
variable {d : Nat} {zf zn zc : Int}
theorem ch155 (g : wk_g) (L : List Int) (S : List wk_E) (of : mi_in zf) (on : mi_in zn) (oc : mi_in zc) (hT : (wk_en g (-1) L).length + S.length ≤ 2999) (hL60 : L.length ≤ 60) (hx : ∀ (k : Nat) (x : Int), L[k]? = some x → 0 ≤ x ∧ x < 60) : ∀ (N : Nat) (zs : Option mi_V) (h : sm_H), N ≤ L.length → (∀ v, zs = some v → mi_ok v) → ab_Sh sx_sk h → (∀ i, mi_a h 124 i = g 124 i) → (∀ (k : Nat) (x : Int), L[k]? = some x → mi_a h 145 k = x) → 0 ≤ mi_f h 14029 → wk_stk h = wk_en g (wk_pv L N) (L.drop N) ++ S → me_E (d + 6) 223 155 [some (.inr (.inr 109)), some (.inl zf), some (.inl zn), some (.inl zc), some (.inl ((N : Int) - 1)), zs] [] h (fun w h' => w = none ∧ ab_Sh sx_sk h' ∧ ab_Fr wr_pu h h' ∧ 0 ≤ mi_f h' 14029 ∧ wk_stk h' = wk_en g (-1) L ++ S) := by
  intro N
  induction N with
  | zero =>
    intro zs h hN os hS h124 hr t0 hst
    have e1 : ((0 : Nat) : Int) - 1 = -1 := rfl
    rw [e1]
    refine mt_chI hS of on oc ⟨by decide, by decide⟩ os ?_ ?_ ?_ ?_ ?_ ?_
    · intro c h3 r1 r2
      have e3 := me_nil r2
      subst e3
      exact ⟨rfl, r1, ab_Fr.refl, t0, hst⟩
    all_goals (intro c1; exfalso; omega)
  | succ N ih =>
    intro zs h hN os hS h124 hr t0 hst
    have e1 : ((N + 1 : Nat) : Int) - 1 = (N : Int) := by omega
    have e2 : (Int.toNat (N : Int)) = N := by omega
    rw [e1]
    have hlN : N < L.length := by omega
    have hxN : L[N]? = some L[N] := List.getElem?_eq_getElem hlN
    generalize hX : L[N] = x at hxN
    have ex := hx N x hxN
    have er := hr N x hxN
    have oN : mi_in (N : Int) := ⟨by omega, by omega⟩
    have ox : mi_in x := ⟨by omega, by omega⟩
    have hat := wk_en_at g L hxN
    have hlen0 := wk_en_len g L N (by omega)
    have hlen1 := wk_en_len g L (N + 1) (by omega)
    have hst0 : (wk_en g (wk_pv L 0) (L.drop 0)).length = (wk_en g (-1) L).length := rfl
    rw [hst0] at hlen0 hlen1
    have hsl := wk_stk_len t0
    rw [hst, List.length_append] at hsl
    have o01 : ∀ c : Prop, ∀ [Decidable c], mi_in (if c then (1 : Int) else 0) := fun c _ => by split <;> exact ⟨by decide, by decide⟩
    -- one unit, behind what came before
    have last : ∀ (zs2 : Int) (h1 : sm_H) (R : List wk_E), mi_in zs2 → ab_Sh sx_sk h1 → ab_Fr wr_pu h h1 → 0 ≤ mi_f h1 14029 → wk_stk h1 = R ++ S → (zs2 = 0 ∧ R = wk_en g (wk_pv L N) (L.drop N) ∨ zs2 = 1 ∧ (3, 0, 0) :: R = wk_en g (wk_pv L N) (L.drop N)) → me_E (d + 6) 223 240 [some (.inr (.inr 109)), some (.inl zf), some (.inl zn), some (.inl zc), some (.inl (N : Int)), some (.inl zs2)] [] h1 (fun w h' => w = none ∧ ab_Sh sx_sk h' ∧ ab_Fr wr_pu h h' ∧ 0 ≤ mi_f h' 14029 ∧ wk_stk h' = wk_en g (-1) L ++ S) := by
      intro zs2 h1 R o2 g1 g2 gt gst hcs
      have go : ∀ h2, ab_Sh sx_sk h2 → ab_Fr wr_pu h h2 → 0 ≤ mi_f h2 14029 → wk_stk h2 = wk_en g (wk_pv L N) (L.drop N) ++ S → me_E (d + 6) 223 155 [some (.inr (.inr 109)), some (.inl zf), some (.inl zn), some (.inl zc), some (.inl ((N : Int) - 1)), some (.inl zs2)] [] h2 (fun w h' => w = none ∧ ab_Sh sx_sk h' ∧ ab_Fr wr_pu h h' ∧ 0 ≤ mi_f h' 14029 ∧ wk_stk h' = wk_en g (-1) L ++ S) := fun h2 p1 p2 p3 p4 => (ih (some (.inl zs2)) h2 (by omega) (fun v hv => by cases hv; exact o2) p1 (fun i => (me_a (k := 124) p2 hS rfl rfl).trans (h124 i)) (fun k y hk => (me_a (k := 145) p2 hS rfl rfl).trans (hr k y hk)) p3 p4).imp (fun w h' hq => ⟨hq.1, hq.2.1, p2.trans hq.2.2.1, hq.2.2.2⟩)
      refine mt_chK g1 of on oc oN o2 ?_ ?_
      · intro c
        refine ⟨by omega, fun h2 r1 r2 => ?_⟩
        have e3 := me_nil r2
        subst e3
        rcases hcs with hcs | hcs
        · rw [hcs.2] at gst
          exact go h2 g1 g2 gt gst
        · omega
      · intro c h2 r1 r2
        have e3 := me_nil r2
        subst e3
        rcases hcs with hcs | hcs
        · omega
        · have hl1 := wk_stk_len gt
          rw [gst, List.length_append] at hl1
          have hl2 := congrArg List.length hcs.2
          rw [List.length_cons] at hl2
          refine ⟨_, me_push g1 ⟨by decide, by decide⟩ ⟨by decide, by decide⟩ ⟨by decide, by decide⟩ gt (by omega), ?_⟩
          intro w h3 hw hq
          obtain ⟨rfl, q1, q2, q3, q4⟩ := hq
          refine mt_chL q1 of on oc oN o2 ?_
          refine ⟨by omega, fun h4 s1 s2 => ?_⟩
          have e4 := me_nil s2
          subst e4
          refine go h4 q1 (g2.trans q2) (by omega) ?_
          rw [q4, gst, ← hcs.2]
          rfl
    have unitp : ∀ (zs2 : Int) (h1 : sm_H) (R : List wk_E) (s : Int), mi_in zs2 → ab_Sh sx_sk h1 → ab_Fr wr_pu h h1 → 0 ≤ mi_f h1 14029 → mi_f h1 14029 < 3000 → wk_stk h1 = R ++ S → (s = if 0 ≤ g 124 x.toNat then 1 else 0) → (zs2 = 0 ∧ (0, x, s) :: R = wk_en g (wk_pv L N) (L.drop N) ∨ zs2 = 1 ∧ (3, 0, 0) :: (0, x, s) :: R = wk_en g (wk_pv L N) (L.drop N)) → ∃ Q1, me_E (d + 5) 209 0 [some (.inr (.inr 109)), some (.inl (0 : Int)), some (.inl x), some (.inl s)] [] h1 Q1 ∧ ∀ w h2, (∀ x, w = some x → mi_ok x) → Q1 w h2 → me_E (d + 6) 223 240 [some (.inr (.inr 109)), some (.inl zf), some (.inl zn), some (.inl zc), some (.inl (N : Int)), some (.inl zs2)] (mi_back w []) h2 (fun w h' => w = none ∧ ab_Sh sx_sk h' ∧ ab_Fr wr_pu h h' ∧ 0 ≤ mi_f h' 14029 ∧ wk_stk h' = wk_en g (-1) L ++ S) := by
      intro zs2 h1 R s o2 g1 g2 gt gt2 gst hs hcs
      refine ⟨_, me_push g1 ⟨by decide, by decide⟩ ox (by rw [hs]; exact o01 _) gt gt2, ?_⟩
      intro w h3 hw hq
      obtain ⟨rfl, q1, q2, q3, q4⟩ := hq
      refine last zs2 h3 ((0, x, s) :: R) o2 q1 (g2.trans q2) (by omega) (by rw [q4, gst]; rfl) hcs
    have mx : mi_a h 124 x.toNat = g 124 x.toNat := h124 _
    have er' : mi_a h 145 (Int.toNat (N : Int)) = x := by rw [e2]; exact er
    have ey : 0 < N → mi_a h 145 (Int.toNat ((N : Int) - 1)) = wk_pv L N ∧ 0 ≤ wk_pv L N ∧ wk_pv L N < 60 := fun h0 => by
      obtain ⟨M, rfl⟩ : ∃ M, N = M + 1 := ⟨N - 1, by omega⟩
      have hlM : M < L.length := by omega
      have hxM : L[M]? = some L[M] := List.getElem?_eq_getElem hlM
      have ep : wk_pv L (M + 1) = L[M] := by
        show L.getD M 0 = _
        rw [List.getD_eq_getElem?_getD, hxM]
        rfl
      have e4 : (Int.toNat (((M + 1 : Nat) : Int) - 1)) = M := by omega
      have := hx M _ hxM
      rw [e4, ep]
      exact ⟨hr M _ hxM, this.1, this.2⟩
    refine mt_chI hS of on oc oN os ?_ ?_ ?_ ?_ ?_ ?_
    · intro c
      exfalso; omega
    · intro c1 c2 c3
      rw [er'] at c3 ⊢
      refine ⟨by omega, fun h1 g1 g2 => ?_⟩
      have e3 := me_nil g2
      subst e3
      have np : ¬ (0 ≤ wk_pv L N ∧ g 124 (wk_pv L N).toNat = x) := fun z => by
        have : N = 0 := by omega
        subst this
        exact absurd (show (0 : Int) ≤ -1 from z.1) (by decide)
      rw [if_neg np, if_neg (by omega)] at hat
      have hl0 := congrArg List.length hat
      rw [List.length_append, List.length_singleton] at hl0
      exact unitp 0 h1 _ 0 ⟨by decide, by decide⟩ hS ab_Fr.refl t0 (by omega) hst (by rw [if_neg (by omega)]) (Or.inl ⟨rfl, hat.symm⟩)
    · intro c1 c2 c3
      rw [er'] at c3 ⊢
      refine ⟨by omega, fun h1 g1 g2 => ?_⟩
      have e3 := me_nil g2
      subst e3
      have np : ¬ (0 ≤ wk_pv L N ∧ g 124 (wk_pv L N).toNat = x) := fun z => by
        have : N = 0 := by omega
        subst this
        exact absurd (show (0 : Int) ≤ -1 from z.1) (by decide)
      rw [if_neg np, if_pos (by omega)] at hat
      have hl0 := congrArg List.length hat
      rw [List.length_append, List.length_singleton] at hl0
      exact unitp 0 h1 _ 1 ⟨by decide, by decide⟩ hS ab_Fr.refl t0 (by omega) hst (by rw [if_pos (by omega)]) (Or.inl ⟨rfl, hat.symm⟩)
    · intro c1 c2 c3 c4
      obtain ⟨y1, y2, y3⟩ := ey (by omega)
      rw [er'] at c3 c4 ⊢
      rw [y1] at c3 ⊢
      refine ⟨by omega, fun h1 g1 g2 => ?_⟩
      have e3 := me_nil g2
      subst e3
      have np : ¬ (0 ≤ wk_pv L N ∧ g 124 (wk_pv L N).toNat = x) := fun z => c3 (by rw [h124]; exact z.2)
      rw [if_neg np, if_neg (by omega)] at hat
      have hl0 := congrArg List.length hat
      rw [List.length_append, List.length_singleton] at hl0
      exact unitp 0 h1 _ 0 ⟨by decide, by decide⟩ hS ab_Fr.refl t0 (by omega) hst (by rw [if_neg (by omega)]) (Or.inl ⟨rfl, hat.symm⟩)
    · intro c1 c2 c3 c4
      obtain ⟨y1, y2, y3⟩ := ey (by omega)
      rw [er'] at c3 c4 ⊢
      rw [y1] at c3 ⊢
      refine ⟨by omega, fun h1 g1 g2 => ?_⟩
      have e3 := me_nil g2
      subst e3
      have np : ¬ (0 ≤ wk_pv L N ∧ g 124 (wk_pv L N).toNat = x) := fun z => c3 (by rw [h124]; exact z.2)
      rw [if_neg np, if_pos (by omega)] at hat
      have hl0 := congrArg List.length hat
      rw [List.length_append, List.length_singleton] at hl0
      exact unitp 0 h1 _ 1 ⟨by decide, by decide⟩ hS ab_Fr.refl t0 (by omega) hst (by rw [if_pos (by omega)]) (Or.inl ⟨rfl, hat.symm⟩)
    · intro c1 c2 c3
      obtain ⟨y1, y2, y3⟩ := ey (by omega)
      rw [er'] at c3
      rw [y1] at c3 ⊢
      refine ⟨by omega, fun h1 g1 g2 => ?_⟩
      have e3 := me_nil g2
      subst e3
      have np : 0 ≤ wk_pv L N ∧ g 124 (wk_pv L N).toNat = x := ⟨y2, by rw [← h124]; exact c3⟩
      rw [if_pos np] at hat
      have hl0 := congrArg List.length hat
      rw [List.length_append] at hl0
      simp only [List.length_cons, List.length_nil] at hl0
      refine ⟨_, me_push hS ⟨by decide, by decide⟩ ⟨by decide, by decide⟩ ⟨by decide, by decide⟩ t0 (by omega), ?_⟩
      intro w h3 hw hq
      obtain ⟨rfl, q1, q2, q3, q4⟩ := hq
      have er3 : mi_a h3 145 (Int.toNat (N : Int)) = x := (me_a (k := 145) q2 hS rfl rfl).trans er'
      have m3 : mi_a h3 124 x.toNat = g 124 x.toNat := (me_a (k := 124) q2 hS rfl rfl).trans mx
      refine mt_chJ q1 of on oc oN ⟨by decide, by decide⟩ ?_ ?_
      · intro c4
        rw [er3] at c4 ⊢
        refine ⟨by omega, fun h4 s1 s2 => ?_⟩
        have e4 := me_nil s2
        subst e4
        rw [if_neg (by omega)] at hat
        exact unitp 1 h4 ((4, 0, 0) :: wk_en g (wk_pv L (N + 1)) (L.drop (N + 1))) 0 ⟨by decide, by decide⟩ q1 q2 (by omega) (by omega) (by rw [q4, hst]; rfl) (by rw [if_neg (by omega)]) (Or.inr ⟨rfl, hat.symm⟩)
      · intro c4
        rw [er3] at c4 ⊢
        refine ⟨by omega, fun h4 s1 s2 => ?_⟩
        have e4 := me_nil s2
        subst e4
        rw [if_pos (by omega)] at hat
        exact unitp 1 h4 ((4, 0, 0) :: wk_en g (wk_pv L (N + 1)) (L.drop (N + 1))) 1 ⟨by decide, by decide⟩ q1 q2 (by omega) (by omega) (by rw [q4, hst]; rfl) (by rw [if_pos (by omega)]) (Or.inr ⟨rfl, hat.symm⟩)
end CHO
/-! choose -/
def wr_ro : List (Nat × Nat) := [(14029, 14030), (18560, 18561), (21120, 21121), (21248, 21249), (21376, 21377)]
def ch_Q (μ zf : Int) (h : sm_H) (w : Option mi_V) (h' : sm_H) : Prop := w = none ∧ ab_Sh sx_sk h' ∧ ab_Fr wr_W1 h h' ∧ ((mi_f h' 14044 = 1 ∨ (μ = 0 ∧ 0 ≤ mi_f h' 14034)) ∨ (mi_f h' 14028 = μ ∧ mi_f h' 14044 = 0 ∧ mi_f h' 14034 < 0 ∧ wk_tok μ h' ∧ wk_n μ h ≤ wk_n μ h' ∧ wk_ag μ (wk_n μ h) h h' ∧ (μ = 2 → mi_f h' 14016 = mi_f h 14016) ∧ mi_f h' 14032 = mi_f h 14032 ∧ 0 ≤ mi_f h' 14029 ∧ ∃ j : Nat, (j : Int) < mi_a h 130 zf.toNat ∧
  ((1 < mi_a h 130 zf.toNat ∧ wk_stk h' = wk_it (mi_a h) 61 (mi_a h 126 (wk_alt (mi_a h) j (mi_a h 129 zf.toNat)).toNat) ++ (2, 0, 0) :: wk_stk h ∧ wk_n μ h' = wk_n μ h + 1 ∧ wk_K μ h' (wk_n μ h).toNat = 4 ∧ wk_V μ h' (wk_n μ h).toNat = (j : Int)) ∨
   (¬ 1 < mi_a h 130 zf.toNat ∧ j = 0 ∧ wk_stk h' = wk_it (mi_a h) 61 (mi_a h 126 (mi_a h 129 zf.toNat).toNat) ++ wk_stk h ∧ wk_n μ h' = wk_n μ h))))
section CHP
variable {d : Nat} {h : sm_H} {zf μ U : Int}
theorem ch146 {zn zc : Int} {zj : Option mi_V} (hS : ab_Sh sx_sk h) (of : mi_in zf) (on : mi_in zn) (oj : ∀ v, zj = some v → mi_ok v) (hC : wk_C (mi_a h) U) (hc0 : 0 ≤ zc) (hc1 : zc < 80) (hu : mi_a h 126 zc.toNat < 0 ∨ mi_a h 126 zc.toNat < U) (t0 : 0 ≤ mi_f h 14029) (hlen : ((wk_it (mi_a h) 61 (mi_a h 126 zc.toNat)).length : Int) + mi_f h 14029 ≤ 2999) : me_E (d + 6) 223 146 [some (.inr (.inr 109)), some (.inl zf), some (.inl zn), some (.inl zc), zj, none] [] h (fun w h' => w = none ∧ ab_Sh sx_sk h' ∧ ab_Fr wr_ro h h' ∧ 0 ≤ mi_f h' 14029 ∧ wk_stk h' = wk_it (mi_a h) 61 (mi_a h 126 zc.toNat) ++ wk_stk h) := by
  have oc : mi_in zc := ⟨by omega, by omega⟩
  have eit := wk_en_row hC 61 (mi_a h 126 zc.toNat) (-1) hu (fun z => absurd z (by decide))
  have hU := hC.1
  refine mt_chG hS of on oc oj ?_
  intro h1 g1 g2
  have e1 := me_nil g2
  subst e1
  refine ⟨_, me_line (d := d + 5) hS hC hc0 hc1 hu, ?_⟩
  intro w h2 hw hq
  obtain ⟨q1, q2, rfl, q4, q5⟩ := hq
  generalize hL : wk_row (mi_a h1) 61 (mi_a h1 126 zc.toNat) = L at *
  have ol : mi_in (L.length : Int) := ⟨by omega, by omega⟩
  refine mt_chH q1 of on oc ol oj ?_
  refine ⟨by omega, fun h3 r1 r2 => ?_⟩
  have e3 := me_nil r2
  subst e3
  have est : wk_stk h3 = wk_stk h1 := wk_stk_fr q2 hS rfl
  have e29 : mi_f h3 14029 = mi_f h1 14029 := me_f (c := 14029) q2 hS rfl rfl
  have hsl := wk_stk_len t0
  have hT : (wk_en (mi_a h1) (-1) L).length + (wk_stk h3).length ≤ 2999 := by rw [eit, est]; omega
  refine (ch155 (mi_a h1) L (wk_stk h3) of on oc hT (by omega) (fun k x hk => by have := q5 k x hk; omega) L.length none h3 (Nat.le_refl _) (fun v hv => by cases hv) q1 (fun i => me_a (k := 124) q2 hS rfl rfl) (fun k x hk => (q5 k x hk).1) (by omega) (by rw [List.drop_length]; rfl)).imp (fun w h' hq => ?_)
  obtain ⟨p1, p2, p3, p4, p5⟩ := hq
  refine ⟨p1, p2, (q2.wide (fun c hc => ab_swr_ok (by decide) hc)).trans (p3.wide (fun c hc => ab_swr_ok (by decide) hc)), p4, ?_⟩
  rw [p5, eit, est]
theorem ch127 {Q : Option mi_V → sm_H → Prop} (hS : ab_Sh sx_sk h) (of : mi_in zf) (hf0 : 0 ≤ zf) (hf1 : zf < 80) (hf : wk_fa (mi_a h) zf) {j : Nat} (hj : (j : Int) < mi_a h 130 zf.toNat) (kk : ∀ zj : Int, mi_in zj → me_E (d + 6) 223 146 [some (.inr (.inr 109)), some (.inl zf), some (.inl (j : Int)), some (.inl (wk_alt (mi_a h) j (mi_a h 129 zf.toNat))), some (.inl zj), none] [] h Q) : ∀ (N k : Nat), j - k < N → k ≤ j → me_E (d + 6) 223 127 [some (.inr (.inr 109)), some (.inl zf), some (.inl (j : Int)), some (.inl (wk_alt (mi_a h) k (mi_a h 129 zf.toNat))), some (.inl (k : Int)), none] [] h Q := by
  have b130 := me_ab (k := 130) (i := zf.toNat) hS rfl (by decide) (by omega)
  intro N
  induction N with
  | zero => intro k h1 h2; omega
  | succ N ih =>
    intro k h1 h2
    have hk := hf.2.2 k (by omega)
    have es := wk_alt_succ (mi_a h) k (mi_a h 129 zf.toNat)
    have oj : mi_in (j : Int) := ⟨by omega, by omega⟩
    have ok : mi_in (k : Int) := ⟨by omega, by omega⟩
    refine mt_chF hS of oj ⟨by omega, by omega⟩ ok ?_ ?_
    · intro c h3 r1 r2
      have e3 := me_nil r2
      subst e3
      have e : k = j := by omega
      subst e
      exact kk _ ok
    · intro c
      refine ⟨by omega, fun h3 r1 r2 => ?_⟩
      have e3 := me_nil r2
      subst e3
      have := ih (k + 1) (by omega) (by omega)
      rw [es] at this
      exact this
theorem me_choose (hi : wk_in μ h) (hf0 : 0 ≤ zf) (hf1 : zf < 80) (hf : wk_fa (mi_a h) zf) (hC : wk_C (mi_a h) U) (hfi : ∀ j : Nat, (j : Int) < mi_a h 130 zf.toNat → mi_a h 126 (wk_alt (mi_a h) j (mi_a h 129 zf.toNat)).toNat < 0 ∨ mi_a h 126 (wk_alt (mi_a h) j (mi_a h 129 zf.toNat)).toNat < U) (hlen : ∀ j : Nat, (j : Int) < mi_a h 130 zf.toNat → ((wk_it (mi_a h) 61 (mi_a h 126 (wk_alt (mi_a h) j (mi_a h 129 zf.toNat)).toNat)).length : Int) + mi_f h 14029 + 1 ≤ 2999) (h2 : μ = 2 → 1 < mi_a h 130 zf.toNat → wk_K 2 h (wk_n 2 h).toNat = 4 ∧ 0 ≤ wk_V 2 h (wk_n 2 h).toNat ∧ wk_V 2 h (wk_n 2 h).toNat < mi_a h 130 zf.toNat ∧ wk_n 2 h < 100) : me_E (d + 6) 223 0 [some (.inr (.inr 109)), some (.inl zf), none, none, none, none] [] h (ch_Q μ zf h) := by
  have hi' := hi
  obtain ⟨i1, i2, i3, i4, i5, i6, i7, i8, i9, i10, i11⟩ := hi'
  have of : mi_in zf := ⟨by omega, by omega⟩
  have b130 := me_ab (k := 130) (i := zf.toNat) i1 rfl (by decide) (by omega)
  have en2 : wk_n 2 h = mi_f h 14033 := by unfold wk_n; rw [if_pos rfl]
  have eV2 : ∀ k, wk_V 2 h k = (mx_b h 162 k).toInt := fun k => by unfold wk_V; rw [if_pos rfl]
  -- behind the choice
  have go80 : ∀ (zz : Int) (h1 : sm_H), 1 < mi_a h 130 zf.toNat → mi_in zz → zz < mi_a h 130 zf.toNat → (zz < 0 → μ = 0) → (μ = 2 → zz = wk_V 2 h (wk_n 2 h).toNat) → ab_Sh sx_sk h1 → ab_Fr [(14047, 14048)] h h1 → me_E (d + 6) 223 80 [some (.inr (.inr 109)), some (.inl zf), some (.inl (0 : Int)), some (.inl (mi_a h 129 zf.toNat)), none, none] [.inl zz] h1 (ch_Q μ zf h) := by
    intro zz h1 hc1 oz hz1 hz2 hz3 g1 g2
    have f33 : mi_f h1 14033 = mi_f h 14033 := me_f (c := 14033) g2 i1 rfl rfl
    refine mt_chD g1 of ⟨by decide, by decide⟩ (mi_inT _) oz ?_ ?_
    · intro c h2' r1 r2
      have e2 := me_nil r2
      subst e2
      refine mt_chD2 g1 of oz (mi_inT _) ?_
      intro h3 s1 s2
      have e3 := me_nil s2
      subst e3
      refine ⟨_, me_comes (d := d + 5) μ g1 ⟨by decide, by decide⟩ ((me_f (c := 14028) g2 i1 rfl rfl).trans i2) (fun e => ?_), ?_⟩
      · have := (h2 e hc1).2.2.2
        rw [en2] at this
        rw [f33]
        omega
      · intro w h4 hw hq
        obtain ⟨q1, q2, q3⟩ := hq
        obtain ⟨⟨z, rfl⟩, n29, n32, n34, n28, nst, ngc, nF, ntok, nmk, nn⟩ := un_node hi oz g1 g2 q1 q2 (fun e => ⟨hz3 e, (h2 e hc1).1⟩) q3
        obtain ⟨j, rfl⟩ : ∃ j : Nat, zz = (j : Int) := ⟨zz.toNat, by omega⟩
        have hlj := hlen j hz1
        refine mt_chE q1 of oz (mi_inT _) (hw _ rfl) ?_
        intro b1
        refine ⟨by clear h2 hlen hfi; omega, fun h5 t1 t2 t3 a5 a6 a7 t4 => ?_⟩
        have est := wk_push1 (by omega) t2 a5 a6 a7
        rw [nst] at est
        have hg : wk_gc (mi_a h) (mi_a h5) := ngc.trans (wk_gc_fr t4 q1 rfl)
        have hne : wk_ne μ h4 h5 := wk_ne_fr t4 q1 rfl
        have hC5 : wk_C (mi_a h5) U := by
          refine ⟨hC.1, fun u u0 u1 => ?_⟩
          rw [hg 124 (by decide), hg 125 (by decide), hg 124 (by decide)]
          exact hC.2 u u0 u1
        have hf5 : wk_fa (mi_a h5) zf := by
          unfold wk_fa
          rw [hg 130 (by decide), hg 129 (by decide), wk_alt_g hg]
          refine ⟨hf.1, hf.2.1, fun j hj => ?_⟩
          rw [wk_alt_g hg]
          exact hf.2.2 j hj
        have ea : wk_alt (mi_a h5) j (mi_a h5 129 zf.toNat) = wk_alt (mi_a h) j (mi_a h 129 zf.toNat) := by rw [wk_alt_g hg, hg 129 (by decide)]
        have haj := hf.2.2 j hz1
        have hfj := hfi j hz1
        generalize hA : wk_alt (mi_a h) j (mi_a h 129 zf.toNat) = A at ea haj hfj hlj
        have := ch127 (d := d) (Q := ch_Q μ zf h) t1 of hf0 hf1 hf5 (j := j) (by rw [hg 130 (by decide)]; exact hz1) (fun zj ozj => by
          rw [ea]
          refine (ch146 (U := U) t1 of oz (fun v hv => by cases hv; exact ozj) hC5 haj.1 haj.2 (by rw [hg 126 (by decide)]; exact hfj) (by clear h2 hlen hfi; omega) (by rw [wk_it_g hg, hg 126 (by decide)]; clear h2 hlen hfi; omega)).imp (fun w h' hq => ?_)
          obtain ⟨p1, p2, p3, p4, p5⟩ := hq
          have F5 : ab_Fr wr_W1 h h5 := nF.trans (t4.wide (fun c hc => ab_swr_ok (by decide) hc))
          refine ⟨p1, p2, F5.trans (p3.wide (fun c hc => ab_swr_ok (by decide) hc)), ?_⟩
          have e44 : mi_f h' 14044 = mi_f h4 14044 := (me_f (c := 14044) p3 t1 rfl rfl).trans (me_f (c := 14044) t4 q1 rfl rfl)
          rcases nn with ⟨-, nn⟩ | ⟨m1, m2, m3, m4, m5, m6⟩
          · exact Or.inl (Or.inl (by rw [e44]; exact nn))
          · have hne2 : wk_ne μ h5 h' := wk_ne_fr p3 t1 rfl
            have en5 : wk_n μ h5 = wk_n μ h4 := wk_ne_n hne
            have en' : wk_n μ h' = wk_n μ h5 := wk_ne_n hne2
            have hlt : ((wk_n μ h).toNat : Int) < wk_n μ h4 := by clear h2 hlen hfi; omega
            have hlt5 : ((wk_n μ h).toNat : Int) < wk_n μ h5 := by clear h2 hlen hfi; omega
            obtain ⟨y1, y2⟩ := hne.2.2 _ hlt
            obtain ⟨y3, y4⟩ := hne2.2.2 _ hlt5
            refine Or.inr ⟨by rw [me_f (c := 14028) p3 t1 rfl rfl, me_f (c := 14028) t4 q1 rfl rfl, n28]; exact i2, by rw [e44]; exact m1, by rw [me_f (c := 14034) p3 t1 rfl rfl, me_f (c := 14034) t4 q1 rfl rfl, n34]; exact i5, fun e => ?_, by clear h2 hlen hfi; omega, (m3.trans hne.2.2 (by clear h2 hlen hfi; omega)).trans hne2.2.2 (by clear h2 hlen hfi; omega), fun e => hne2.2.1.trans (hne.2.1.trans (nmk e)), by rw [me_f (c := 14032) p3 t1 rfl rfl, me_f (c := 14032) t4 q1 rfl rfl, n32], p4, j, hz1, Or.inl ⟨hc1, ?_, by clear h2 hlen hfi; omega, y3.trans (y1.trans m4), y4.trans (y2.trans m5)⟩⟩
            · rw [hne2.1, hne.1, me_f (c := 14011) p3 t1 rfl rfl, me_f (c := 14011) t4 q1 rfl rfl, me_a (k := 152) p3 t1 rfl rfl, me_a (k := 152) t4 q1 rfl rfl]
              exact ntok e
            · rw [p5, wk_it_g hg, hg 126 (by decide), est, hA]) (j + 1) 0 (by clear h2 hlen hfi; omega) (Nat.zero_le _)
        rw [hg 129 (by decide)] at this
        exact this
    · intro b c
      have eμ := hz2 c
      have hh := i6 eμ
      have bt := me_fb (c := 14011) i1 rfl
      have bf := me_ab (k := 153) (i := (mi_f h1 14033).toNat) g1 rfl (by decide) (by rw [f33]; clear h2 hlen hfi; omega)
      refine ⟨by rw [f33]; clear h2 hlen hfi; omega, fun h2' r1 r2 r3 => ?_⟩
      exact ⟨rfl, r1, (g2.wide (fun c hc => ab_swr_ok (by decide) hc)).trans (r3.wide (fun c hc => ab_swr_ok (by decide) hc)), Or.inl (Or.inr (by rw [r2]; exact ⟨eμ, bf.1⟩))⟩
  have Fnil : ∀ {h1 : sm_H}, ab_Fr [] h h1 → ab_Fr [(14047, 14048)] h h1 := fun g => g.wide (fun c hc => by cases hc)
  refine mt_chA i1 of ?_ ?_ ?_ ?_ ?_
  · intro c1
    have h1c : (1 : Int) ≤ mi_a h 130 zf.toNat := hf.1
    have h0l : ((0 : Nat) : Int) < mi_a h 130 zf.toNat := by clear h2 hlen hfi; omega
    have hl0 := hlen 0 h0l
    have ha0 := hf.2.2 0 h0l
    have hf0' := hfi 0 h0l
    refine ⟨by clear h2 hlen hfi; omega, fun h1 g1 g2 => ?_⟩
    have e1 := me_nil g2
    subst e1
    refine (ch146 (U := U) g1 of ⟨by decide, by decide⟩ (fun v hv => by cases hv) hC ha0.1 ha0.2 hf0' i7 (by
      clear h2 hlen hfi
      omega)).imp (fun w h' hq => ?_)
    obtain ⟨p1, p2, p3, p4, p5⟩ := hq
    have hne2 : wk_ne μ h1 h' := wk_ne_fr p3 g1 rfl
    have en' : wk_n μ h' = wk_n μ h1 := wk_ne_n hne2
    refine ⟨p1, p2, p3.wide (fun c hc => ab_swr_ok (by decide) hc), Or.inr ⟨(me_f (c := 14028) p3 g1 rfl rfl).trans i2, (me_f (c := 14044) p3 g1 rfl rfl).trans i4, by rw [me_f (c := 14034) p3 g1 rfl rfl]; exact i5, fun e => ?_, by clear h2 hlen hfi; omega, hne2.2.2, fun _ => hne2.2.1, me_f (c := 14032) p3 g1 rfl rfl, p4, 0, h0l, Or.inr ⟨by clear h2 hlen hfi; omega, rfl, p5, en'⟩⟩⟩
    rw [hne2.1, me_f (c := 14011) p3 g1 rfl rfl, me_a (k := 152) p3 g1 rfl rfl]
    exact i6 e
  · intro b1 b2 c1 c2 c3 c4
    refine ⟨by clear h2 hlen hfi; omega, fun h1 g1 g2 => ?_⟩
    have e1 := me_nil g2
    subst e1
    refine ⟨_, me_draw (d := d + 5) g1 (by clear h2 hlen hfi; omega) (by clear h2 hlen hfi; omega), ?_⟩
    intro w h3 hw hq
    obtain ⟨q1, q2, z, rfl, z1, z2⟩ := hq
    exact go80 z h3 c1 (hw _ rfl) z2 (fun e => by clear h2 hlen hfi; omega) (fun e => by clear h2 hlen hfi; omega) q1 q2
  · intro b1 b2 c1 c2 c3 c4
    refine ⟨by clear h2 hlen hfi; omega, fun h1 g1 g2 => ?_⟩
    have e1 := me_nil g2
    subst e1
    refine ⟨_, me_lowest (d := d + 5) g1 hf0 hf1 hf, ?_⟩
    intro w h3 hw hq
    obtain ⟨rfl, z, rfl, z1, z2⟩ := hq
    refine mt_chC g1 of ⟨by decide, by decide⟩ (mi_inT _) (hw _ rfl) ?_
    intro h4 g3 g4
    exact go80 z h4 c1 (hw _ rfl) z2 (fun e => by clear h2 hlen hfi; omega) (fun e => by clear h2 hlen hfi; omega) g3 (Fnil g4)
  · intro b1 b2 c1 c2 c3
    have eμ : μ = 2 := by clear h2 hlen hfi; omega
    obtain ⟨k1, k2, k3, k4⟩ := h2 eμ c1
    rw [eμ] at i11
    rw [en2] at k4 i11
    rw [eV2, en2] at k2 k3
    have ev : (mx_b h 162 (mi_f h 14033).toNat).toInt32.toInt = (mx_b h 162 (mi_f h 14033).toNat).toInt := by
      rw [Int64.toInt_toInt32]
      exact Int.bmod_eq_of_le (by clear h2 hlen hfi; omega) (by clear h2 hlen hfi; omega)
    refine ⟨by clear h2 hlen hfi; omega, fun h1 g1 g2 => ?_⟩
    rw [ev]
    exact go80 _ h1 c1 ⟨by clear h2 hlen hfi; omega, by clear h2 hlen hfi; omega⟩ k3 (fun e => by clear h2 hlen hfi; omega) (fun e => by rw [eV2, en2]) g1 (Fnil g2)
  · intro b1 c1 c2
    have eμ : μ = 0 := by clear h2 hlen hfi; omega
    have hh := i6 eμ
    have bt := me_fb (c := 14011) i1 rfl
    refine ⟨by clear h2 hlen hfi; omega, fun h1 g1 g2 => ?_⟩
    have e1 := me_nil g2
    subst e1
    refine ⟨_, me_directed (d := d + 4) g1 (by clear h2 hlen hfi; omega) (by clear h2 hlen hfi; omega) hf0 hf1 hf, ?_⟩
    intro w h3 hw hq
    obtain ⟨rfl, z, rfl, z1, z2⟩ := hq
    refine mt_chB g1 of ⟨by decide, by decide⟩ (mi_inT _) (hw _ rfl) ?_
    intro h4 g3 g4
    exact go80 z h4 c1 (hw _ rfl) z2 (fun e => eμ) (fun e => by clear h2 hlen hfi; omega) g3 (Fnil g4)
end CHP
