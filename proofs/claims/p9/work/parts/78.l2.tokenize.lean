/-! tokenize -/
theorem me_oi {z : Int} (h : mi_in z) : ∀ v, (some (Sum.inl z : mi_V)) = some v → mi_ok v := fun v e => by
  cases e
  exact h
theorem me_on : ∀ v, (none : Option mi_V) = some v → mi_ok v := fun v e => by cases e
theorem me_resI {k : Nat} {a : ab_V} {w : Option mi_V} (h : mi_res k a w) (hk : k ≠ 0) (ha : a.1 = 1) : ∃ z, w = some (.inl z) ∧ a.2.1 ≤ z ∧ z ≤ a.2.2.1 := by
  unfold mi_res at h
  rw [if_neg hk] at h
  rcases h with h | h | h
  · exact h.2
  · omega
  · omega
section TKP
variable {d : Nat} {h : sm_H} {zc : Int}
theorem me_pred {m : Nat} {b : List (Option sm_I)} (hS : ab_Sh sx_sk h) (oc : mi_in zc) (hok : ab_Ok sc_P sx_sk (m, [ab_top], [], [((1, 0, 1, []), [])], [], 0)) (hM : sc_P m = some (1, 4, b)) : me_E d m 0 [some (.inl zc)] [] h (fun w h' => h' = h ∧ ∃ z, w = some (.inl z) ∧ mi_in z) := by
  have := me_abs (M := (1, 4, b)) (as := [.inl zc]) hok hM hS ⟨me_nv1 oc oc.1 oc.2, trivial⟩ (fun e he => by cases he) rfl
  refine (me_E.deep (d' := d) this (Nat.zero_le _)).imp (fun w h' hq => ?_)
  obtain ⟨q1, q2, p, hp, q3, -⟩ := hq
  refine ⟨me_nil q2, ?_⟩
  rcases List.mem_cons.mp hp with rfl | hp
  · obtain ⟨z, e, z0, z1⟩ := me_resI q3 (show (4 : Nat) ≠ 0 from by decide) rfl
    have z0 : (0 : Int) ≤ z := z0
    have z1 : z ≤ 1 := z1
    exact ⟨z, e, by omega, by omega⟩
  · cases hp
theorem me_isLow (hS : ab_Sh sx_sk h) (oc : mi_in zc) : me_E d 180 0 [some (.inl zc)] [] h (fun w h' => h' = h ∧ ∃ z, w = some (.inl z) ∧ mi_in z) := me_pred (b := sb_180) hS oc xo_v_isLow rfl
theorem me_isDigit (hS : ab_Sh sx_sk h) (oc : mi_in zc) : me_E d 182 0 [some (.inl zc)] [] h (fun w h' => h' = h ∧ ∃ z, w = some (.inl z) ∧ mi_in z) := me_pred (b := sb_182) hS oc xo_v_isDigit rfl
theorem me_isBlank (hS : ab_Sh sx_sk h) (oc : mi_in zc) : me_E d 178 0 [some (.inl zc)] [] h (fun w h' => h' = h ∧ ∃ z, w = some (.inl z) ∧ mi_in z) := me_pred (b := sb_178) hS oc xo_v_isBlank rfl
theorem me_signOf (hS : ab_Sh sx_sk h) (oc : mi_in zc) : me_E d 230 0 [some (.inr (.inr 109)), some (.inl zc), none] [] h (fun w h' => h' = h ∧ ∃ z, w = some (.inl z) ∧ -1 ≤ z ∧ z ≤ 22) := by
  have := me_abs (M := (3, 1, sb_230)) (as := [.inr (.inr 109), .inl zc]) xo_v_signOf rfl hS ⟨rfl, me_nv1 oc oc.1 oc.2, trivial⟩ (fun e he => by cases he) (by decide)
  refine (me_E.deep (d' := d) this (Nat.zero_le _)).imp (fun w h' hq => ?_)
  obtain ⟨q1, q2, p, hp, q3, -⟩ := hq
  refine ⟨me_nil q2, ?_⟩
  rcases List.mem_cons.mp hp with rfl | hp
  · exact me_resI q3 (by decide) rfl
  · cases hp
theorem me_nvL (x : Int64) : ab_nv ab_topL (some (mi_c (.inr (.inl x)))) := ab_mktL x
theorem me_kwOf {x : Int64} (hS : ab_Sh sx_sk h) : me_E d 216 0 [some (.inr (.inr 109)), some (.inr (.inl x)), none, none] [] h (fun w h' => h' = h ∧ ∃ z, w = some (.inl z) ∧ -1 ≤ z ∧ z ≤ 19) := by
  have := me_abs (M := (4, 1, sb_216)) (as := [.inr (.inr 109), .inr (.inl x)]) xo_v_keywordOf rfl hS ⟨rfl, me_nvL x, trivial⟩ (fun e he => by cases he) (by decide)
  refine (me_E.deep (d' := d) this (Nat.zero_le _)).imp (fun w h' hq => ?_)
  obtain ⟨q1, q2, p, hp, q3, -⟩ := hq
  refine ⟨me_nil q2, ?_⟩
  rcases List.mem_cons.mp hp with rfl | hp
  · exact me_resI q3 (by decide) rfl
  · cases hp
end TKP
def tk_W : List (Nat × Nat) := [(14011, 14012), (19456, 19457), (19584, 19585), (19712, 19713)]
def tk_Q (h0 : sm_H) (w : Option mi_V) (h' : sm_H) : Prop := w = none ∧ ab_Sh sx_sk h' ∧ ab_Fr tk_W h0 h' ∧ mi_a h' 152 (mi_f h' 14011).toNat = 0
section TKQ
variable {d : Nat} {h0 : sm_H} {zk : Int}
/-- on from a token's end -/
def tk_C (d : Nat) (h0 : sm_H) (zk : Int) : Prop := ∀ (ze : Int) (q2 q3 q4 q5 q6 q7 : Option mi_V) (h1 : sm_H), zk < ze → ze ≤ mi_f h0 13954 → (∀ v, q2 = some v → mi_ok v) → (∀ v, q3 = some v → mi_ok v) → (∀ v, q4 = some v → mi_ok v) → (∀ v, q5 = some v → mi_ok v) → (∀ v, q6 = some v → mi_ok v) → (∀ v, q7 = some v → mi_ok v) → ab_Sh sx_sk h1 → ab_Fr tk_W h0 h1 → mi_f h1 14011 ≤ ze → me_E (d + 1) 229 7 [some (.inr (.inr 109)), some (.inl ze), q2, q3, q4, q5, q6, q7] [] h1 (tk_Q h0)
theorem tk135 {zc zl zd ze zn : Int} (hC : tk_C d h0 zk) (k0 : 0 ≤ zk) (e0 : zk < ze) (e1 : ze ≤ mi_f h0 13954) (e2 : mi_f h0 13954 ≤ 160) (oc : mi_in zc) (ol : mi_in zl) (od : mi_in zd) (on : mi_in zn) : ∀ (N : Nat) (zj : Int) (h : sm_H), ze - zj < N → zk ≤ zj → zj ≤ ze → ab_Sh sx_sk h → ab_Fr tk_W h0 h → mi_f h 14011 ≤ zk → me_E (d + 1) 229 135 [some (.inr (.inr 109)), some (.inl zk), some (.inl zc), some (.inl zl), some (.inl zd), some (.inl ze), some (.inl zn), some (.inl zj)] [] h (tk_Q h0) := by
  intro N
  induction N with
  | zero => intro zj h hN _ _; exfalso; omega
  | succ N ih =>
    intro zj h hN j0 j1 hS hF ht
    have ok : mi_in zk := ⟨by omega, by omega⟩
    have oe : mi_in ze := ⟨by omega, by omega⟩
    have oj : mi_in zj := ⟨by omega, by omega⟩
    refine mt_tk9 hS ok oc ol od oe on oj ?_ ?_ ?_ ?_
    · intro b c1 c2
      refine ⟨by omega, fun h1 g1 g2 g3 g4 => ?_⟩
      exact hC ze _ _ _ _ _ _ h1 e0 e1 (me_oi oc) (me_oi ol) (me_oi od) (me_oi oe) (me_oi on) (me_oi oj) g1 (hF.trans (g4.wide (fun c hc => ab_swr_ok (by decide) hc))) (by omega)
    · intro b c1 c2
      refine ⟨by omega, fun h1 g1 g2 g3 g4 => ?_⟩
      exact hC ze _ _ _ _ _ _ h1 e0 e1 (me_oi oc) (me_oi ol) (me_oi od) (me_oi oe) (me_oi on) (me_oi oj) g1 (hF.trans (g4.wide (fun c hc => ab_swr_ok (by decide) hc))) (by omega)
    · intro b c1 c2
      refine ⟨by omega, fun h1 g1 g2 g3 g4 => ?_⟩
      exact hC ze _ _ _ _ _ _ h1 e0 e1 (me_oi oc) (me_oi ol) (me_oi od) (me_oi oe) (me_oi on) (me_oi oj) g1 (hF.trans (g4.wide (fun c hc => ab_swr_ok (by decide) hc))) (by omega)
    · intro b c1 c2
      refine ⟨by omega, fun h1 g1 g2 g3 => ?_⟩
      refine ih (zj + 1) h1 (by omega) (by omega) (by omega) g1 (hF.trans (g3.wide (fun c hc => ab_swr_ok (by decide) hc))) ?_
      rw [me_f (c := 14011) g3 hS rfl rfl]
      exact ht
theorem tk222 {zc zl zd ze zn : Int} (hC : tk_C d h0 zk) (k0 : 0 ≤ zk) (e0 : zk < ze) (e1 : ze ≤ mi_f h0 13954) (e2 : mi_f h0 13954 ≤ 160) (oc : mi_in zc) (ol : mi_in zl) (od : mi_in zd) (on : mi_in zn) : ∀ (N : Nat) (zj : Int) (h : sm_H), zj - zk + 1 < N → zk - 1 ≤ zj → zj < ze → ab_Sh sx_sk h → ab_Fr tk_W h0 h → mi_f h 14011 ≤ zk → me_E (d + 1) 229 222 [some (.inr (.inr 109)), some (.inl zk), some (.inl zc), some (.inl zl), some (.inl zd), some (.inl ze), some (.inl zn), some (.inl zj)] [] h (tk_Q h0) := by
  intro N
  induction N with
  | zero => intro zj h hN _ _; exfalso; omega
  | succ N ih =>
    intro zj h hN j0 j1 hS hF ht
    have ok : mi_in zk := ⟨by omega, by omega⟩
    have oe : mi_in ze := ⟨by omega, by omega⟩
    have oj : mi_in zj := ⟨by omega, by omega⟩
    have o1 : mi_in (-1) := ⟨by decide, by decide⟩
    refine mt_tk10 hS ok oc ol od oe on oj ?_ ?_ ?_ ?_ ?_ ?_
    · intro b c1 c2 c3
      exfalso; omega
    · intro b c1 c2 c3
      refine ⟨by omega, fun h1 g1 g2 g3 g4 => ?_⟩
      exact hC ze _ _ _ _ _ _ h1 e0 e1 (me_oi oc) (me_oi ol) (me_oi od) (me_oi oe) (me_oi on) (me_oi o1) g1 (hF.trans (g4.wide (fun c hc => ab_swr_ok (by decide) hc))) (by omega)
    · intro b c1 c2
      refine ⟨by omega, fun h1 g1 g2 => ?_⟩
      have e3 := me_nil g2
      subst e3
      refine ⟨_, me_kwOf g1, fun w h2 ow hq => ?_⟩
      obtain ⟨rfl, z, rfl, z0, z1⟩ := hq
      have oz : mi_in z := ⟨by omega, by omega⟩
      refine mt_tk11 g1 ok oc ol od oe on oj oz ?_ ?_ ?_
      · intro b c3 c4
        refine ⟨by omega, fun h3 r1 r2 r3 r4 => ?_⟩
        exact hC ze _ _ _ _ _ _ h3 e0 e1 (me_oi oc) (me_oi ol) (me_oi od) (me_oi oe) (me_oi on) (me_oi oz) r1 (hF.trans (r4.wide (fun c hc => ab_swr_ok (by decide) hc))) (by omega)
      · intro b c3 c4
        refine ⟨by omega, fun h3 r1 r2 r3 r4 => ?_⟩
        exact hC ze _ _ _ _ _ _ h3 e0 e1 (me_oi oc) (me_oi ol) (me_oi od) (me_oi oe) (me_oi on) (me_oi oz) r1 (hF.trans (r4.wide (fun c hc => ab_swr_ok (by decide) hc))) (by omega)
      · intro b c3
        refine ⟨by omega, fun h3 r1 r2 r3 r4 => ?_⟩
        exact hC ze _ _ _ _ _ _ h3 e0 e1 (me_oi oc) (me_oi ol) (me_oi od) (me_oi oe) (me_oi on) (me_oi oz) r1 (hF.trans (r4.wide (fun c hc => ab_swr_ok (by decide) hc))) (by omega)
    · intro b c1 c2 c3
      exfalso; omega
    · intro b c1 c2 c3
      refine ⟨by omega, fun h1 g1 g2 g3 g4 => ?_⟩
      exact hC ze _ _ _ _ _ _ h1 e0 e1 (me_oi oc) (me_oi ol) (me_oi od) (me_oi oe) (me_oi on) (me_oi o1) g1 (hF.trans (g4.wide (fun c hc => ab_swr_ok (by decide) hc))) (by omega)
    · intro b c1 c2
      refine ⟨by omega, fun h1 g1 g2 g3 => ?_⟩
      refine ih (zj + -1) h1 (by omega) (by omega) (by omega) g1 (hF.trans (g3.wide (fun c hc => ab_swr_ok (by decide) hc))) ?_
      rw [me_f (c := 14011) g3 hS rfl rfl]
      exact ht
theorem tk111 {zc zl zd ze : Int} {q6 q7 : Option mi_V} {h : sm_H} (hC : tk_C d h0 zk) (k0 : 0 ≤ zk) (e0 : zk < ze) (e1 : ze ≤ mi_f h0 13954) (e2 : mi_f h0 13954 ≤ 160) (oc : mi_in zc) (ol : mi_in zl) (od : mi_in zd) (o6 : ∀ v, q6 = some v → mi_ok v) (o7 : ∀ v, q7 = some v → mi_ok v) (hS : ab_Sh sx_sk h) (hF : ab_Fr tk_W h0 h) (ht : mi_f h 14011 ≤ zk) : me_E (d + 1) 229 111 [some (.inr (.inr 109)), some (.inl zk), some (.inl zc), some (.inl zl), some (.inl zd), some (.inl ze), q6, q7] [] h (tk_Q h0) := by
  have ok : mi_in zk := ⟨by omega, by omega⟩
  have oe : mi_in ze := ⟨by omega, by omega⟩
  have on : mi_in (ze - zk) := ⟨by omega, by omega⟩
  refine mt_tk8 hS ok oc ol od oe o6 o7 ?_ ?_ ?_
  · intro b c1 c2
    refine ⟨by omega, fun h1 g1 g2 g3 => ⟨_, me_signOf g1 oc, fun w h2 ow hq => ?_⟩⟩
    obtain ⟨e5, z, rfl, z0, z1⟩ := hq
    subst e5
    have ft : mi_f h2 14011 = mi_f h 14011 := me_f (c := 14011) g3 hS rfl rfl
    refine mt_tk12 g1 ok oc ol od oe on ⟨by omega, by omega⟩ ⟨by omega, by omega⟩ o7 ?_
    intro b2
    refine ⟨by omega, fun h3 r1 r2 r3 r4 => ?_⟩
    exact hC ze _ _ _ _ _ _ h3 e0 e1 (me_oi oc) (me_oi ol) (me_oi od) (me_oi oe) (me_oi on) o7 r1 ((hF.trans (g3.wide (fun c hc => ab_swr_ok (by decide) hc))).trans (r4.wide (fun c hc => ab_swr_ok (by decide) hc))) (by omega)
  · intro b c1 c2
    refine ⟨by omega, fun h1 g1 g2 g3 => ?_⟩
    refine tk222 hC k0 e0 e1 e2 oc ol od on 200 (ze - 1) h1 (by omega) (by omega) (by omega) g1 (hF.trans (g3.wide (fun c hc => ab_swr_ok (by decide) hc))) ?_
    rw [me_f (c := 14011) g3 hS rfl rfl]
    exact ht
  · intro b c1
    refine ⟨by omega, fun h1 g1 g2 g3 => ?_⟩
    refine tk135 hC k0 e0 e1 e2 oc ol od on 200 zk h1 (by omega) (by omega) (by omega) g1 (hF.trans (g3.wide (fun c hc => ab_swr_ok (by decide) hc))) ?_
    rw [me_f (c := 14011) g3 hS rfl rfl]
    exact ht
theorem tk61 {zc zl zd : Int} {q6 q7 : Option mi_V} {h : sm_H} (hC : tk_C d h0 zk) (k0 : 0 ≤ zk) (e2 : mi_f h0 13954 ≤ 160) (oc : mi_in zc) (ol : mi_in zl) (od : mi_in zd) (o6 : ∀ v, q6 = some v → mi_ok v) (o7 : ∀ v, q7 = some v → mi_ok v) (hS : ab_Sh sx_sk h) (hF : ab_Fr tk_W h0 h) (e13 : mi_f h 13954 = mi_f h0 13954) (ht : mi_f h 14011 ≤ zk) : ∀ (N : Nat) (ze : Int), mi_f h0 13954 - ze < N → zk < ze → ze ≤ mi_f h0 13954 → me_E (d + 1) 229 61 [some (.inr (.inr 109)), some (.inl zk), some (.inl zc), some (.inl zl), some (.inl zd), some (.inl ze), q6, q7] [] h (tk_Q h0) := by
  intro N
  induction N with
  | zero => intro ze hN _ _; exfalso; omega
  | succ N ih =>
    intro ze hN e0 e1
    have ok : mi_in zk := ⟨by omega, by omega⟩
    have oe : mi_in ze := ⟨by omega, by omega⟩
    have end_ := tk111 (d := d) (q6 := q6) (q7 := q7) hC k0 e0 e1 e2 oc ol od o6 o7 hS hF ht
    have go102 : ∀ zz, ze < mi_f h 13954 → mi_in zz → me_E (d + 1) 229 102 [some (.inr (.inr 109)), some (.inl zk), some (.inl zc), some (.inl zl), some (.inl zd), some (.inl ze), q6, q7] [.inl zz] h (tk_Q h0) := fun zz hlt oz => by
      refine mt_tk7 hS ok oc ol od oe oz o6 o7 ?_ ?_
      · intro c h1 g1 g2
        have e3 := me_nil g2
        subst e3
        exact end_
      · intro c
        refine ⟨by omega, fun h1 g1 g2 => ?_⟩
        have e3 := me_nil g2
        subst e3
        exact ih (ze + 1) (by omega) (by omega) (by omega)
    refine mt_tk5 hS ok oc ol od oe o6 o7 ?_ ?_ ?_ ?_
    · intro b c1 h1 g1 g2
      have e3 := me_nil g2
      subst e3
      exact end_
    · intro b c1 c2 c3 h1 g1 g2
      have e3 := me_nil g2
      subst e3
      exact end_
    · intro b c1 c2 c3
      refine ⟨by omega, fun h1 g1 g2 => ?_⟩
      have e3 := me_nil g2
      subst e3
      refine ⟨_, me_isDigit g1 (mi_inT _), fun w h2 ow hq => ?_⟩
      obtain ⟨rfl, z, rfl, oz⟩ := hq
      exact go102 z c1 oz
    · intro b c1 c2
      refine ⟨by omega, fun h1 g1 g2 => ?_⟩
      have e3 := me_nil g2
      subst e3
      refine ⟨_, me_isLow g1 (mi_inT _), fun w h2 ow hq => ?_⟩
      obtain ⟨rfl, z, rfl, oz⟩ := hq
      refine mt_tk6 g1 ok oc ol od oe oz o6 o7 ?_ ?_ ?_
      · intro c3
        refine ⟨by omega, fun h3 r1 r2 => ?_⟩
        have e3 := me_nil r2
        subst e3
        exact ih (ze + 1) (by omega) (by omega) (by omega)
      · intro c3 c4 h3 r1 r2
        have e3 := me_nil r2
        subst e3
        exact end_
      · intro c3 c4
        refine ⟨by omega, fun h3 r1 r2 => ?_⟩
        have e3 := me_nil r2
        subst e3
        refine ⟨_, me_isDigit r1 (mi_inT _), fun w h2 ow hq => ?_⟩
        obtain ⟨rfl, z, rfl, oz⟩ := hq
        exact go102 z c1 oz
end TKQ
theorem me_tokenize {d : Nat} {h0 : sm_H} (hS0 : ab_Sh sx_sk h0) : me_E (d + 1) 229 0 [some (.inr (.inr 109)), none, none, none, none, none, none, none] [] h0 (tk_Q h0) := by
  have e2 := (me_fb (c := 13954) hS0 rfl).2
  have main : ∀ (N : Nat) (zk : Int) (q2 q3 q4 q5 q6 q7 : Option mi_V) (h : sm_H), mi_f h0 13954 - zk < N → 0 ≤ zk → zk ≤ mi_f h0 13954 → (∀ v, q2 = some v → mi_ok v) → (∀ v, q3 = some v → mi_ok v) → (∀ v, q4 = some v → mi_ok v) → (∀ v, q5 = some v → mi_ok v) → (∀ v, q6 = some v → mi_ok v) → (∀ v, q7 = some v → mi_ok v) → ab_Sh sx_sk h → ab_Fr tk_W h0 h → mi_f h 14011 ≤ zk → me_E (d + 1) 229 7 [some (.inr (.inr 109)), some (.inl zk), q2, q3, q4, q5, q6, q7] [] h (tk_Q h0) := by
    intro N
    induction N with
    | zero => intro zk q2 q3 q4 q5 q6 q7 h hN _ _; exfalso; omega
    | succ N ih =>
      intro zk q2 q3 q4 q5 q6 q7 h hN k0 k1 o2 o3 o4 o5 o6 o7 hS hF ht
      have ok : mi_in zk := ⟨by omega, by omega⟩
      have e13 : mi_f h 13954 = mi_f h0 13954 := me_f (c := 13954) hF hS0 rfl rfl
      refine mt_tk1 hS ok o2 o3 o4 o5 o6 o7 ?_ ?_
      · intro b1 b2 c
        refine ⟨by omega, fun h1 g1 g2 g3 g4 => ⟨rfl, g1, hF.trans (g4.wide (fun c hc => ab_swr_ok (by decide) hc)), ?_⟩⟩
        rw [me_f (c := 14011) g4 hS rfl rfl, g2, if_pos rfl]
      · intro b c
        refine ⟨by omega, fun h1 g1 g2 => ?_⟩
        have e3 := me_nil g2
        subst e3
        refine ⟨_, me_isBlank g1 (mi_inT _), fun w h2 ow hq => ?_⟩
        obtain ⟨rfl, z, rfl, oz⟩ := hq
        have oc := mi_inT (mx_a h2 111 (Int.toNat zk))
        refine mt_tk2 g1 ok oc oz o3 o4 o5 o6 o7 ?_ ?_
        · intro b2 c2
          refine ⟨by omega, fun h3 r1 r2 r3 => ⟨_, me_isLow r1 oc, fun w h4 ow hq => ?_⟩⟩
          obtain ⟨rfl, z2, rfl, oz2⟩ := hq
          refine mt_tk3 r1 ok oc oz2 o3 o4 o5 o6 o7 ?_
          intro h5 s1 s2
          have e3 := me_nil s2
          subst e3
          refine ⟨_, me_isDigit s1 oc, fun w h6 ow hq => ?_⟩
          obtain ⟨rfl, z3, rfl, oz3⟩ := hq
          refine mt_tk4 s1 ok oc oz2 oz3 o4 o5 o6 o7 ?_
          refine ⟨by omega, fun h7 t1 t2 => ?_⟩
          have e3 := me_nil t2
          subst e3
          have hF3 := hF.trans (r3.wide (wr' := tk_W) (fun c hc => ab_swr_ok (by decide) hc))
          refine tk61 (fun ze p2 p3 p4 p5 p6 p7 h8 x1 x2 y2 y3 y4 y5 y6 y7 x3 x4 x5 => ih ze p2 p3 p4 p5 p6 p7 h8 (by omega) (by omega) x2 y2 y3 y4 y5 y6 y7 x3 x4 x5) k0 e2 oc oz2 oz3 o6 o7 t1 hF3 (me_f (c := 13954) hF3 hS0 rfl rfl) ?_ 200 (zk + 1) (by omega) (by omega) (by omega)
          rw [me_f (c := 14011) r3 hS rfl rfl]
          exact ht
        · intro c2
          refine ⟨by omega, fun h3 r1 r2 => ?_⟩
          have e3 := me_nil r2
          subst e3
          exact ih (zk + 1) _ _ _ _ _ _ _ (by omega) (by omega) (by omega) (me_oi oc) o3 o4 o5 o6 o7 hS hF (by omega)
  refine mt_tk0 hS0 ?_
  intro h1 g1 g2 g3
  exact main 200 0 _ _ _ _ _ _ h1 (by omega) (by decide) (me_fb (c := 13954) hS0 rfl).1 me_on me_on me_on me_on me_on me_on g1 (g3.wide (fun c hc => ab_swr_ok (by decide) hc)) (by omega)
