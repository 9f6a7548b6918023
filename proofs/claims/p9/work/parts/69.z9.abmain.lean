/-! THE CHECK IS RIGHT -/
def ab_okF (L0 : sm_L) (h0 : sm_H) : List ab_F → List ab_CF → Prop
  | [], [] => True
  | f :: F, c :: C => f.1 = c.1 ∧ f.2.1 = c.2.1 ∧ (∃ hd, ab_okL c.2.2.1 hd L0 h0 f.2.2.1 ∧ ab_okSt c.2.2.1 hd L0 h0 f.2.2.2 c.2.2.2) ∧ ab_okF L0 h0 F C
  | _, _ => False
/-- the method at the bottom -/
def ab_base (m0 : Nat) : Nat → List ab_F → Prop
  | m, [] => m = m0
  | _, f :: F => ab_base m0 f.1 F
section ABM
variable {P : Nat → Option sm_M} {sk : ab_K} {wr : List (Nat × Nat)} {env : List ab_C} {heads : List ab_Hd} {posts : List (ab_V × ab_HC)} {thr : List Nat} {rk : Option ab_R}
theorem ab_n0_mv {L0 ls ls' : sm_L} {h0 h : sm_H} : ∀ t z, ab_n0 t = true → ab_tg ls h L0 h0 t z → ab_tg ls' h L0 h0 t z := fun t z hn ht => ⟨fun e => by
  unfold ab_n0 at hn
  rw [e] at hn
  simp at hn, ht.2⟩
theorem ab_n1_mv {L0 ls : sm_L} {h0 h h' : sm_H} : ∀ t z, ab_n1 t = true → ab_tg ls h L0 h0 t z → ab_tg ls h' L0 h0 t z := fun t z hn ht => ⟨ht.1, fun e => by
  unfold ab_n1 at hn
  rw [e] at hn
  simp at hn, ht.2.2⟩
theorem ab_backSt {L0 ls : sm_L} {h0 h : sm_H} {r : List ab_V} {s : List Value} {a : ab_V} {w : Value} (ha : ab_okV ls h L0 h0 a (some w)) (hr : ab_okSt ls h L0 h0 r s) : ab_okSt ls h L0 h0 (ab_back (some a) r) (sm_back (some w) s) := ⟨ha, hr⟩
theorem ab_all_keep {p : ab_T → Bool} {as : List ab_V} (h : as.all (fun a => !(a.1 == 0)) = true) : (as.map (ab_keep p)).all (fun a => !(a.1 == 0)) = true := by
  rw [List.all_map]
  exact h
theorem ab_slots_keep {p : ab_T → Bool} : ∀ as : List ab_V, (ab_slots (as.map (ab_keep p))).length = (ab_slots as).length := by
  intro as
  induction as with
  | nil => rfl
  | cons a r ih =>
    have e : (ab_keep p a).1 = a.1 := rfl
    simp only [List.map_cons, ab_slots, e]
    split <;> simp [ih]
set_option maxHeartbeats 2000000 in
theorem ab_exp_ok (henv : ∀ c ∈ env, ab_Ok P sk c) {L0 : sm_L} {h0 hS : sm_H} {m0 d0 nl0 k0 : Nat} {tab0 : List (Option sm_I)} (hk0 : P m0 = some (nl0, k0, tab0))
    (hih : ∀ e ∈ heads, ∀ (ls : sm_L) (h : sm_H), ls.length = e.2.1.length → (∀ (j : Nat) (b : ab_V), e.2.1[j]? = some b → ab_nv b (sm_lget ls j)) → ab_nvH e.2.2.1 h → ab_Sh sk h → ab_Fr wr hS h → (∀ r, rk = some r → ab_mu 8 (ab_vals e.2.2.2 ls h) < ab_mu 8 (ab_vals r L0 h0)) → ab_EndsX P (ab_PostT sk wr thr hS) d0 m0 e.1 ls [] h (ab_Post sk wr posts k0 hS)) :
    ∀ (n : Nat) (fresh : Bool) (d m pc : Nat) (A : ab_A) (F : List ab_F) (ls : sm_L) (st : List Value) (h : sm_H) (CF : List ab_CF), ab_exp P sk wr env heads posts thr rk n fresh d m pc A F = true → ab_ok L0 h0 A ls st h → ab_Sh sk h → ab_Fr wr hS h → ab_okF L0 h0 F CF → d + F.length = d0 → ab_base m0 m F → ab_EndsK P (ab_PostT sk wr thr hS) (ab_Post sk wr posts k0 hS) CF d m pc ls st h := by
  intro n
  induction n with
  | zero => intro fresh d m pc A F ls st h CF he; simp [ab_exp] at he
  | succ n ih =>
    intro fresh d m pc A F ls st h CF he hA hSh hFr hF hd hb
    unfold ab_exp at he
    split at he
    · next hh =>
      simp only [Bool.and_eq_true, List.isEmpty_iff] at hh
      obtain ⟨⟨rfl, -⟩, -⟩ := hh
      cases CF with
      | cons c C => exact (show False from hF).elim
      | nil =>
        obtain ⟨e, hem, hx⟩ := List.any_eq_true.mp he
        simp only [Bool.and_eq_true, beq_iff_eq, List.isEmpty_iff] at hx
        obtain ⟨⟨⟨⟨e1, e2⟩, e3⟩, e4⟩, e5⟩ := hx
        have hst := hA.2.1
        rw [e2] at hst
        cases st with
        | cons v s => exact (show False from hst).elim
        | nil =>
          have hm : m = m0 := hb
          have hd' : d = d0 := hd
          subst hm
          subst hd'
          obtain ⟨l1, l2⟩ := ab_leL_at _ _ e3
          show ab_EndsX P _ d m pc ls [] h _
          rw [← e1]
          refine hih e hem ls h (by rw [← hA.1.1]; exact l1) (fun j b hj => ?_) (ab_leH_ok hA.2.2 hSh e4) hSh hFr (fun r hr => ?_)
          · obtain ⟨a, ha, hab⟩ := l2 j b hj
            exact ab_leV_ok (hA.1.2 j a ha) hab
          · rw [hr] at e5
            exact ab_rk_ok 8 r _ e5 hA
    · cases hP : P m with
      | none => rw [hP] at he; cases he
      | some M =>
        obtain ⟨nl, k, tab⟩ := M
        rw [hP] at he
        dsimp only at he
        cases hq : tab[pc]? with
        | none => rw [hq] at he; cases he
        | some o =>
          cases o with
          | none => rw [hq] at he; cases he
          | some q =>
            rw [hq] at he
            dsimp only at he
            cases hs : ab_step sk wr q pc A with
            | some outs =>
              rw [hs] at he
              dsimp only at he
              obtain ⟨o, m1, ls', st', h', e1, e2, e3, e4⟩ := ab_step_ok hs hA hSh
              have := List.all_eq_true.mp he o m1
              exact ab_EndsK.step (M := (nl, k, tab)) hP hq e1 (ih _ _ _ _ _ _ _ _ _ _ this e2 e3 (hFr.trans e4) hF hd hb)
            | none =>
              rw [hs] at he
              dsimp only at he
              cases hr : ab_retv q k A with
              | some rv =>
                rw [hr] at he
                dsimp only at he
                obtain ⟨v, e1, e2, e3⟩ := ab_retv_ok (pc := pc) hr hA
                cases F with
                | nil =>
                  cases CF with
                  | cons c C => exact (show False from hF).elim
                  | nil =>
                    have hm : m = m0 := hb
                    subst hm
                    rw [hk0] at hP
                    cases hP
                    dsimp only at he
                    obtain ⟨p, hp, hx⟩ := List.any_eq_true.mp he
                    rw [Bool.and_eq_true] at hx
                    refine Or.inl (ab_Ends.ret (M := (nl0, k0, tab0)) hk0 hq e1 e2 ⟨hSh, hFr, p, hp, ?_, ab_leH_ok hA.2.2 hSh hx.2⟩)
                    unfold ab_res
                    rcases e3 with ⟨z1, z2, z3⟩ | ⟨z1, a, w, z2, z3, z4, z5⟩
                    · rw [if_pos z1]; exact z3
                    · rw [if_neg z1, z3]
                      have hx1 := hx.1
                      unfold ab_leR at hx1
                      rw [if_neg z1, z2] at hx1
                      exact ⟨fun _ => ab_leV_ok z5 hx1, by simp⟩
                | cons f F =>
                  cases CF with
                  | nil => exact (show False from hF).elim
                  | cons c C =>
                    obtain ⟨f1, f2, ⟨hd0, f3, f4⟩, f5⟩ := hF
                    dsimp only at he
                    refine ab_EndsK.ret (M := (nl, k, tab)) hP hq e1 e2 ?_
                    rw [← f1, ← f2]
                    refine ih _ _ _ _ _ _ c.2.2.1 (sm_back v c.2.2.2) h _ he ⟨ab_keepL ab_n1_mv f3, ?_, ab_keepHc ab_n0_mv hA.2.2 (fun _ _ => rfl)⟩ hSh hFr f5 (by rw [List.length_cons] at hd; omega) hb
                    have hrest : ab_okSt c.2.2.1 h L0 h0 (f.2.2.2.map (ab_keep ab_n1)) c.2.2.2 := ab_keepSt ab_n1_mv _ _ f4
                    rcases e3 with ⟨z1, z2, z3⟩ | ⟨z1, a, w, z2, z3, z4, z5⟩
                    · rw [z2, z3]; exact hrest
                    · rw [z2, z3]; exact ab_backSt (ab_keep_ok z5 ab_n0_mv) hrest
              | none =>
                rw [hr] at he
                dsimp only at he
                cases hc : ab_callv sk q A with
                | none =>
                  rw [hc] at he
                  dsimp only at he
                  cases ht : sm_thr q with
                  | none => rw [ht] at he; cases he
                  | some x =>
                    rw [ht] at he
                    simp only [Bool.and_eq_true, List.isEmpty_iff, decide_eq_true_eq] at he
                    obtain ⟨rfl, e2, e3⟩ := he
                    cases CF with
                    | cons c C => exact (show False from hF).elim
                    | nil =>
                      have hst := hA.2.1
                      rw [e2] at hst
                      cases st with
                      | cons v s => exact (show False from hst).elim
                      | nil => exact ab_EndsX.thr (M := (nl, k, tab)) hP hq ht ⟨e3, h, rfl, hSh, hFr⟩
                | some z =>
                  obtain ⟨m', as, r⟩ := z
                  rw [hc] at he
                  dsimp only at he
                  obtain ⟨vs, s, e1, e2, e3⟩ := ab_callv_ok (pc := pc) hc hA hSh
                  cases d with
                  | zero => cases he
                  | succ d' =>
                    cases hP' : P m' with
                    | none => rw [hP'] at he; cases he
                    | some M' =>
                      obtain ⟨nl', k', tab'⟩ := M'
                      rw [hP'] at he
                      dsimp only at he
                      rw [Bool.and_eq_true, Bool.and_eq_true, Bool.and_eq_true, decide_eq_true_eq] at he
                      obtain ⟨g1, g2, g3, he⟩ := he
                      have hen := ab_entry_ok (n := nl') (vs := vs) (as := as.map (ab_keep ab_n0)) (ab_keepSt (ls' := sm_entry nl' vs) (h' := h) ab_n0_mv as vs e2) (ab_all_keep g1) (by rw [ab_slots_keep]; exact g2)
                      have hcat := ab_cats_le e3 g3
                      cases hf : ab_find sk d' m' as A.2.2 wr env with
                      | some c =>
                        rw [hf] at he
                        dsimp only at he
                        obtain ⟨c1, c2, c3, c4, c5, c6⟩ := ab_find_ok env hf
                        have hok := henv c c1 h vs (nl', k', tab') (by rw [c2]; exact hP') hSh (ab_leL_st _ _ _ e2 c3) (ab_leH_ok hA.2.2 hSh c4)
                        rw [c2] at hok
                        refine ab_EndsK.con (M := (nl, k, tab)) (M' := (nl', k', tab')) hP hq e1 hP' hen.1 hcat (hok.deep c5) fun v h' hpost => ?_
                        obtain ⟨p1, p2, p, pm, pr, ph⟩ := hpost
                        have hall := List.all_eq_true.mp he p pm
                        rw [Bool.and_eq_true] at hall
                        refine ih _ _ _ _ _ _ ls (sm_back v s) h' _ hall.2 ⟨ab_keepL (ab_nw_mv p2) hA.1, ?_, ab_newH_ok hA.2.2 p2 ph⟩ p1 (hFr.trans (p2.wide (fun c hc => ab_swr_ok c6 hc))) hF hd hb
                        have hrest : ab_okSt ls h' L0 h0 (r.map (ab_keep (ab_nw c.2.2.2.2.1))) s := ab_keepSt (ab_nw_mv p2) _ _ e3
                        unfold ab_res at pr
                        by_cases hk' : k' = 0
                        · rw [if_pos hk'] at pr ⊢
                          rw [pr]
                          exact hrest
                        · rw [if_neg hk'] at pr ⊢
                          have hp0 : p.1.1 ≠ 0 := by
                            have := hall.1
                            simp only [Bool.or_eq_true, beq_iff_eq, Bool.not_eq_true', beq_eq_false_iff_ne] at this
                            exact this.resolve_left hk'
                          cases v with
                          | none => exact absurd rfl pr.2
                          | some w => exact ab_backSt (ab_nv_ok (pr.1 hp0)) hrest
                      | none =>
                        rw [hf] at he
                        dsimp only at he
                        refine ab_EndsK.inl (M := (nl, k, tab)) (M' := (nl', k', tab')) hP hq e1 hP' hen.1 hcat ?_
                        exact ih _ _ _ _ _ _ (sm_entry nl' vs) [] h _ he ⟨hen.2, trivial, ab_keepHc ab_n0_mv hA.2.2 (fun _ _ => rfl)⟩ hSh hFr ⟨rfl, rfl, ⟨h, hA.1, e3⟩, hF⟩ (by rw [List.length_cons]; omega) hb
/-! the whole check -/
theorem ab_headl_ok {ls : sm_L} {h : sm_H} : ∀ (al : List ab_V) (i : Nat), (∀ (j : Nat) (b : ab_V), al[j]? = some b → ab_nv b (sm_lget ls (i + j))) → ∀ (j : Nat) (a : ab_V), (ab_headl i al)[j]? = some a → ab_okV ls h ls h a (sm_lget ls (i + j)) := by
  intro al
  induction al with
  | nil => intro i _ j a hj; simp [ab_headl] at hj
  | cons b r ih =>
    intro i hn j a hj
    cases j with
    | zero =>
      simp only [ab_headl, List.getElem?_cons_zero, Option.some.injEq] at hj
      have hb := hn 0 b rfl
      rw [Nat.add_zero] at hb ⊢
      subst hj
      split
      · next hk =>
        obtain ⟨x, e, h1, h2, -⟩ := ab_kd1 hb hk
        rw [e]
        refine ab_mk1 h1 h2 fun t ht => ?_
        rw [List.mem_singleton.mp ht]
        exact ⟨fun z => (by cases z), fun z => (by cases z), fun _ => ⟨x, e, by dsimp only; omega⟩, fun z => (by cases z)⟩
      · exact ab_nv_ok hb
    | succ j =>
      have := ih (i + 1) (fun j b hj => by
        have := hn (j + 1) b (by simpa using hj)
        have e : i + 1 + j = i + (j + 1) := by omega
        rw [e]
        exact this) j a (by simpa [ab_headl] using hj)
      have e : i + (j + 1) = i + 1 + j := by omega
      rw [e]
      exact this
theorem ab_headl_len : ∀ (al : List ab_V) (i : Nat), (ab_headl i al).length = al.length := by
  intro al
  induction al with
  | nil => intro i; rfl
  | cons b r ih => intro i; simp [ab_headl, ih]
theorem ab_headh_ok {ls : sm_L} {h : sm_H} {hc : ab_HC} (hn : ab_nvH hc h) : ab_okH ls h ls h (ab_headh hc) := by
  intro e he
  obtain ⟨e', m, rfl⟩ := List.mem_map.mp he
  have hb := hn e' m
  show ab_okV ls h ls h (if e'.2.1 = 1 then (1, e'.2.2.1, e'.2.2.2.1, [(3, e'.1, 0)]) else ab_strip e'.2) (ab_fld h e'.1)
  split
  · next hk =>
    obtain ⟨x, ex, h1, h2, -⟩ := ab_kd1 hb hk
    rw [ex]
    refine ab_mk1 h1 h2 fun t ht => ?_
    rw [List.mem_singleton.mp ht]
    exact ⟨fun z => (by cases z), fun z => (by cases z), fun z => (by cases z), fun _ => ⟨x, ex, by dsimp only; omega⟩⟩
  · exact ab_nv_ok hb
theorem ab_nvs_ok {ls L0 : sm_L} {h h0 : sm_H} : ∀ (as : List ab_V) (vs : List Value), ab_nvs as vs → ab_okSt ls h L0 h0 (as.map ab_strip) vs := by
  intro as
  induction as with
  | nil => intro vs hs; cases vs with
    | nil => trivial
    | cons v s => exact (show False from hs).elim
  | cons a r ih => intro vs hs; cases vs with
    | nil => exact (show False from hs).elim
    | cons v s => exact ⟨ab_nv_ok hs.1, ih s hs.2⟩
theorem ab_slots_strip : ∀ as : List ab_V, (ab_slots (as.map ab_strip)).length = (ab_slots as).length := by
  intro as
  induction as with
  | nil => rfl
  | cons a r ih =>
    have e : (ab_strip a).1 = a.1 := rfl
    simp only [List.map_cons, ab_slots, e]
    split <;> simp [ih]
theorem ab_goodX_ok {fuel : Nat} {c : ab_C} (hg : ab_good P sk env heads thr fuel c = true) (henv : ∀ c' ∈ env, ab_Ok P sk c') : ab_OkX P sk thr c := by
  intro h as M hM hSh has hpre
  obtain ⟨nl, k, tab⟩ := M
  unfold ab_good at hg
  rw [hM] at hg
  dsimp only at hg
  simp only [Bool.and_eq_true, decide_eq_true_eq] at hg
  obtain ⟨⟨⟨g1, g2⟩, g3⟩, g4⟩ := hg
  have hheads : ∀ (N : Nat), ∀ e ∈ heads, ∀ (ls : sm_L) (h1 : sm_H), ab_mu 8 (ab_vals e.2.2.2 ls h1) < N → ls.length = e.2.1.length → (∀ (j : Nat) (b : ab_V), e.2.1[j]? = some b → ab_nv b (sm_lget ls j)) → ab_nvH e.2.2.1 h1 → ab_Sh sk h1 → ab_Fr c.2.2.2.2.1 h h1 → ab_EndsX P (ab_PostT sk c.2.2.2.2.1 thr h) c.2.2.2.2.2 c.1 e.1 ls [] h1 (ab_Post sk c.2.2.2.2.1 c.2.2.2.1 k h) := by
    intro N
    induction N with
    | zero => intro e _ ls h1 hN; omega
    | succ N ihN =>
      intro e he ls h1 hN hl hn hh hS1 hF1
      have hex := List.all_eq_true.mp g4 e he
      rw [Bool.and_eq_true] at hex
      exact ab_exp_ok (L0 := ls) (h0 := h1) (hS := h) (d0 := c.2.2.2.2.2) henv hM (fun e' he' ls' h' l1 l2 l3 l4 l5 l6 => ihN e' he' ls' h' (by have := l6 _ rfl; omega) l1 l2 l3 l4 l5) fuel true _ _ _ _ [] ls [] h1 [] hex.2 ⟨⟨by rw [ab_headl_len, hl], fun j a hj => by
        have := ab_headl_ok (h := h1) e.2.1 0 (fun j b hj => by rw [Nat.zero_add]; exact hn j b hj) j a hj
        rw [Nat.zero_add] at this
        exact this⟩, trivial, ab_headh_ok hh⟩ hS1 hF1 trivial rfl rfl
  have hen := ab_entry_ok (n := nl) (vs := as) (h := h) (L0 := []) (h0 := []) (as := c.2.1.map ab_strip) (ab_nvs_ok _ _ has) (by rw [List.all_map]; exact g1) (by rw [ab_slots_strip]; exact g2)
  exact ab_exp_ok (L0 := []) (h0 := []) (hS := h) (d0 := c.2.2.2.2.2) henv hM (fun e he ls h1 l1 l2 l3 l4 l5 _ => hheads _ e he ls h1 (Nat.lt_succ_self _) l1 l2 l3 l4 l5) fuel false _ _ _ _ [] (sm_entry nl as) [] h [] g3 ⟨hen.2, trivial, fun e he => by
    obtain ⟨e', m, rfl⟩ := List.mem_map.mp he
    exact ab_nv_ok (hpre e' m)⟩ hSh ab_Fr.refl trivial rfl rfl
theorem ab_good_ok {fuel : Nat} {c : ab_C} (hg : ab_good P sk env heads [] fuel c = true) (henv : ∀ c' ∈ env, ab_Ok P sk c') : ab_Ok P sk c := by
  intro h as M hM hSh has hpre
  rcases ab_goodX_ok hg henv h as M hM hSh has hpre with k | ⟨n, x, h', -, hx, -⟩
  · exact k
  · exact absurd hx List.not_mem_nil
end ABM
