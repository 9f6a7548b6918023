/-! THE CHECK OF A CASE OF THE LAW: all that it calls keeps J -/
/-- a contract that keeps J -/
def lb_OkP (P : Nat → Option sm_M) (sk : ab_K) (J : sm_H → Prop) (c : ab_C) : Prop := ∀ (h : sm_H) (as : List Value) (M : sm_M), P c.1 = some M → ab_Sh sk h → J h → ab_nvs c.2.1 as → ab_Ends P c.2.2.2.2.2 c.1 0 (sm_entry M.1 as) [] h (fun v h' => ab_Sh sk h' ∧ J h' ∧ h'.length = h.length ∧ sm_sl h' = sm_sl h ∧ ∃ p ∈ c.2.2.2.1, ab_res M.2.1 p.1 v)
/-- a method with handlers: number, arguments, answers, depth -/
abbrev lb_W : Type := Nat × List ab_V × List ab_V × Nat
def lb_OkW (P : Nat → Option sm_M) (PW : Nat → Option sm_MW) (sk : ab_K) (J : sm_H → Prop) (w : lb_W) : Prop := ∀ (h : sm_H) (as : List Value) (M : sm_MW), PW w.1 = some M → ab_Sh sk h → J h → ab_nvs w.2.1 as → (sm_slots as).length ≤ M.1.1 ∧ wb_Ends P PW w.2.2.2 w.1 0 (sm_entry M.1.1 as) [] h (fun v h' => ab_Sh sk h' ∧ J h' ∧ h'.length ≤ h.length + 1 ∧ sm_sl h' ≤ sm_sl h + 6 ∧ ∃ p ∈ w.2.2.1, ab_res M.1.2.1 p v)
def lb_findP (d m : Nat) (as : List ab_V) : List ab_C → Option ab_C
  | [] => none
  | c :: r => if c.1 = m ∧ ab_leL as c.2.1 = true ∧ c.2.2.2.2.2 ≤ d then some c else lb_findP d m as r
def lb_findW (d m : Nat) (as : List ab_V) : List lb_W → Option lb_W
  | [] => none
  | w :: r => if w.1 = m ∧ ab_leL as w.2.1 = true ∧ w.2.2.2 ≤ d then some w else lb_findW d m as r
/-- a cell of the script: at most 3 behind the place that local 4 tells -/
def lb_script (q : sm_I) (A : ab_A) : Option ab_A := match q.1, A.2.1 with
  | .iaload, i :: a :: r => if i.1 = 1 ∧ a.1 = 3 ∧ a.2.1 = 0 then (match ab_off 2 4 i.2.2.2 with
    | some c => if 0 ≤ c ∧ c ≤ 3 then some (A.1, ab_top :: r, A.2.2) else none
    | none => none) else none
  | _, _ => none
def lb_exp (P : Nat → Option sm_M) (PW : Nat → Option sm_MW) (sk : ab_K) (envP : List ab_C) (envW : List lb_W) (tab : List (Option sm_I)) (stop : Nat) (HL : List ab_V) : Nat → Nat → Nat → Nat → ab_A → Bool
  | 0, _, _, _, _ => false
  | n + 1, d, w, pc, A => if pc = stop then A.2.1.isEmpty && ab_leL A.1 HL && (match A.1[4]? with
      | some v => decide (v.1 = 1) && decide (ab_off 2 4 v.2.2.2 = some 0)
      | none => false)
    else match tab[pc]? with
    | some (some q) => match lb_script q A with
      | some A' => lb_exp P PW sk envP envW tab stop HL n d w (pc + 1) A'
      | none => match ab_step sk [] q pc A with
        | some outs => outs.all (fun o => lb_exp P PW sk envP envW tab stop HL n d w o.1 o.2)
        | none => match ab_callv sk q A with
          | some (m', as, r) => match d, w, PW m', P m' with
            | d' + 1, w' + 1, some ((_, k', _), _), _ => ab_cats r && (match lb_findW d' m' as envW with
              | some e => e.2.2.1.all (fun p => (k' == 0 || !(p.1 == 0)) && lb_exp P PW sk envP envW tab stop HL n (d' + 1) w' (pc + 3) (A.1.map (ab_keep ab_n1), ab_back (if k' = 0 then none else some (ab_strip p)) (r.map (ab_keep ab_n1)), []))
              | none => false)
            | d' + 1, _, none, some (nl', k', _) => as.all (fun a => !(a.1 == 0)) && (decide ((ab_slots as).length ≤ nl') && (ab_cats r && (match lb_findP d' m' as envP with
              | some c => c.2.2.2.1.all (fun p => (k' == 0 || !(p.1.1 == 0)) && lb_exp P PW sk envP envW tab stop HL n (d' + 1) w (pc + 3) (A.1.map (ab_keep ab_n1), ab_back (if k' = 0 then none else some (ab_strip p.1)) (r.map (ab_keep ab_n1)), []))
              | none => false)))
            | _, _, _, _ => false
          | none => false
    | _ => false
section LBX
variable {P : Nat → Option sm_M} {PW : Nat → Option sm_MW} {sk : ab_K} {J : sm_H → Prop} {envP : List ab_C} {envW : List lb_W} {tab : List (Option sm_I)} {stop : Nat} {HL : List ab_V} {QL : sm_H → Prop}
theorem lb_findP_ok {d m : Nat} {as : List ab_V} {c : ab_C} : ∀ env : List ab_C, lb_findP d m as env = some c → c ∈ env ∧ c.1 = m ∧ ab_leL as c.2.1 = true ∧ c.2.2.2.2.2 ≤ d := by
  intro env
  induction env with
  | nil => intro h; simp [lb_findP] at h
  | cons e0 r ih =>
    intro h
    simp only [lb_findP] at h
    split at h
    · next hc => cases h; exact ⟨List.mem_cons_self, hc⟩
    · obtain ⟨h1, h2⟩ := ih h
      exact ⟨List.mem_cons_of_mem _ h1, h2⟩
theorem lb_findW_ok {d m : Nat} {as : List ab_V} {w : lb_W} : ∀ env : List lb_W, lb_findW d m as env = some w → w ∈ env ∧ w.1 = m ∧ ab_leL as w.2.1 = true ∧ w.2.2.2 ≤ d := by
  intro env
  induction env with
  | nil => intro h; simp [lb_findW] at h
  | cons e0 r ih =>
    intro h
    simp only [lb_findW] at h
    split at h
    · next hc => cases h; exact ⟨List.mem_cons_self, hc⟩
    · obtain ⟨h1, h2⟩ := ih h
      exact ⟨List.mem_cons_of_mem _ h1, h2⟩
theorem sm_runW_deep : ∀ (n d m pc : Nat) (ls : sm_L) (st : List Value) (h : sm_H) (r : Option Value × sm_H), sm_runW P PW n d m pc ls st h = some r → ∀ d', d ≤ d' → sm_runW P PW n d' m pc ls st h = some r := by
  intro n
  induction n with
  | zero => intro d m pc ls st h r hr; simp [sm_runW] at hr
  | succ n ih =>
    intro d m pc ls st h r hr d' hd
    simp only [sm_runW] at hr ⊢
    cases hP : PW m with
    | none => rw [hP] at hr; cases hr
    | some M =>
      obtain ⟨⟨a, k, tab⟩, al⟩ := M
      rw [hP] at hr
      dsimp only at hr ⊢
      cases hq : tab[pc]? with
      | none => rw [hq] at hr; cases hr
      | some o =>
        cases o with
        | none => rw [hq] at hr; cases hr
        | some q =>
          rw [hq] at hr
          dsimp only at hr ⊢
          cases hs : sm_step q pc ls st h with
          | none => rw [hs] at hr; cases hr
          | some R =>
            rw [hs] at hr
            rcases R with ⟨pc1, ls1, st1, h1⟩ | v | ⟨m1, as, r1⟩
            · exact ih _ _ _ _ _ _ _ hr _ hd
            · exact hr
            · dsimp only at hr ⊢
              cases d with
              | zero => cases hr
              | succ d0 =>
                obtain ⟨d1, rfl⟩ : ∃ k, d' = k + 1 := ⟨d' - 1, by omega⟩
                (try dsimp only at hr ⊢)
                cases hP1 : P m1 with
                | none => rw [hP1] at hr; cases hr
                | some M1 =>
                  obtain ⟨nl, k1, t1⟩ := M1
                  rw [hP1] at hr
                  dsimp only at hr ⊢
                  split at hr
                  · next hc =>
                    rw [if_pos hc]
                    cases hcall : sm_run P n d0 m1 0 (sm_entry nl as) [] h with
                    | some vr =>
                      obtain ⟨v1, h1⟩ := vr
                      rw [hcall] at hr
                      rw [sm_run_more _ _ _ _ _ _ _ _ hcall n d1 (Nat.le_refl _) (by omega)]
                      exact ih _ _ _ _ _ _ _ hr _ (by omega)
                    | none =>
                      rw [hcall] at hr
                      dsimp only at hr
                      cases hT : sm_runT P n d0 m1 0 (sm_entry nl as) [] h with
                      | none => rw [hT] at hr; cases hr
                      | some xr =>
                        obtain ⟨x, h1⟩ := xr
                        rw [hT] at hr
                        dsimp only at hr
                        have hT1 := sm_runT_more _ _ _ _ _ _ _ _ hT n d1 (Nat.le_refl _) (by omega)
                        rw [sm_runT_run _ _ _ _ _ _ _ _ hT1 n, hT1]
                        dsimp only
                        cases hf : sm_find pc x al with
                        | none => rw [hf] at hr; cases hr
                        | some hp =>
                          rw [hf] at hr
                          exact ih _ _ _ _ _ _ _ hr _ (by omega)
                  · cases hr
theorem wb_Ends.deep {d d' m pc : Nat} {ls : sm_L} {st : List Value} {h : sm_H} {Q : Option Value → sm_H → Prop} (k : wb_Ends P PW d m pc ls st h Q) (hd : d ≤ d') : wb_Ends P PW d' m pc ls st h Q := by
  obtain ⟨n, v, h', hr, hq⟩ := k
  exact ⟨n, v, h', sm_runW_deep _ _ _ _ _ _ _ _ hr d' hd, hq⟩
theorem lb_keepA {L0 ls : sm_L} {h0 h h' : sm_H} {A : ab_A} {r : List ab_V} {s : List Value} {v : Option Value} {k : Nat} {p : ab_V} (hA : ab_okL ls h L0 h0 A.1) (hr : ab_okSt ls h L0 h0 r s) (hp : k = 0 ∨ p.1 ≠ 0) (hv : ab_res k p v) : ab_ok L0 h0 (A.1.map (ab_keep ab_n1), ab_back (if k = 0 then none else some (ab_strip p)) (r.map (ab_keep ab_n1)), []) ls (sm_back v s) h' := by
  have hrest : ab_okSt ls h' L0 h0 (r.map (ab_keep ab_n1)) s := ab_keepSt ab_n1_mv _ _ hr
  refine ⟨ab_keepL ab_n1_mv hA, ?_, fun e he => absurd he List.not_mem_nil⟩
  unfold ab_res at hv
  by_cases hk : k = 0
  · rw [if_pos hk] at hv ⊢
    rw [hv]
    exact hrest
  · rw [if_neg hk] at hv ⊢
    cases v with
    | none => exact absurd rfl hv.2
    | some w => exact ab_backSt (ab_nv_ok (hv.1 (hp.resolve_left hk))) hrest
set_option maxHeartbeats 4000000 in
theorem lb_exp_ok (hP : ∀ c ∈ envP, lb_OkP P sk J c) (hW : ∀ w ∈ envW, lb_OkW P PW sk J w) {L0 : sm_L} {h0 : sm_H} {x0 : Int32} {d L N C S : Nat} {xs : Nat → Int32} (hx : sm_lget L0 4 = some (.int x0)) (hx0 : 0 ≤ x0.toInt ∧ x0.toInt + 4 ≤ (L : Int)) (hJ0 : ∀ h, J h → h[0]? = some (.inl (0, L, .inl xs)))
    (hstop : ∀ (ls : sm_L) (h : sm_H), ls.length = N → (∀ (j : Nat) (b : ab_V), HL[j]? = some b → ab_nv b (sm_lget ls j)) → HL.length = N → sm_lget ls 4 = some (.int x0) → ab_Sh sk h → J h → h.length ≤ C → sm_sl h ≤ S → lb_Ends P PW tab d stop ls [] h QL) :
    ∀ (n w pc : Nat) (A : ab_A) (ls : sm_L) (st : List Value) (h : sm_H), lb_exp P PW sk envP envW tab stop HL n d w pc A = true → ls.length = N → ab_ok L0 h0 A ls st h → ab_Sh sk h → J h → h.length + w ≤ C → sm_sl h + 6 * w ≤ S → lb_Ends P PW tab d pc ls st h QL := by
  intro n
  induction n with
  | zero => intro w pc A ls st h he; simp [lb_exp] at he
  | succ n ih =>
    intro w pc A ls st h he hN hA hSh hJ hC hS
    unfold lb_exp at he
    split at he
    · next hpc =>
      subst hpc
      simp only [Bool.and_eq_true, List.isEmpty_iff] at he
      obtain ⟨⟨e1, e2⟩, e3⟩ := he
      have hst := hA.2.1
      rw [e1] at hst
      cases st with
      | cons v s => exact (show False from hst).elim
      | nil =>
        obtain ⟨l1, l2⟩ := ab_leL_at _ _ e2
        refine hstop ls h hN (fun j b hj => ?_) (by rw [← l1, hA.1.1]; exact hN) ?_ hSh hJ (by omega) (by omega)
        · obtain ⟨a, ha, hab⟩ := l2 j b hj
          exact ab_leV_ok (hA.1.2 j a ha) hab
        · split at e3
          · next v hv =>
            simp only [Bool.and_eq_true, decide_eq_true_eq] at e3
            obtain ⟨x, ex, -, -, ht⟩ := ab_kd1 (hA.1.2 4 v hv) e3.1
            obtain ⟨y, ey, exy⟩ := (ht _ (ab_off_mem _ e3.2)).2.2.1 rfl
            have ey' : sm_lget L0 4 = some (.int y) := ey
            rw [hx] at ey'
            cases ey'
            dsimp only at exy
            have : x = x0 := Int32.toInt_inj.mp (by omega)
            rw [ex, this]
          · cases e3
    · cases hq : tab[pc]? with
      | none => rw [hq] at he; cases he
      | some o =>
        cases o with
        | none => rw [hq] at he; cases he
        | some q =>
          rw [hq] at he
          dsimp only at he
          cases hsc : lb_script q A with
          | some A' =>
            rw [hsc] at he
            dsimp only at he
            obtain ⟨qi, len, rs⟩ := q
            unfold lb_script at hsc
            dsimp only at hsc
            split at hsc
            · next i a r hst0 =>
              split at hsc
              · next hk =>
                split at hsc
                · next c hoff =>
                  split at hsc
                  · next hc =>
                    cases hsc
                    have hst := hA.2.1
                    rw [hst0] at hst
                    obtain ⟨v, s1, rfl, hv, hr1⟩ := ab_pop hst
                    obtain ⟨u, s, rfl, hu, hr⟩ := ab_pop hr1
                    obtain ⟨x, ex, -, -, ht⟩ := ab_kd1 hv hk.1
                    cases ex
                    have eu := ab_kd3 hu hk.2.1
                    rw [hk.2.2] at eu
                    cases eu
                    obtain ⟨y, ey, exy⟩ := (ht _ (ab_off_mem _ hoff)).2.2.1 rfl
                    have ey' : sm_lget L0 4 = some (.int y) := ey
                    rw [hx] at ey'
                    cases ey'
                    dsimp only at exy
                    have hi := mx_ix (x := x) (n := L) ⟨by omega, by omega⟩
                    refine lb_Ends.step (pc' := pc + 1) (ls' := ls) (st' := .int (xs x.toNatClampNeg) :: s) (h' := h) hq ?_ (ih _ _ _ _ _ _ he hN ⟨hA.1, ⟨ab_mkt _, hr⟩, hA.2.2⟩ hSh hJ hC hS)
                    simp only [sm_step, sm_ald]
                    have e0 : (0 : Int).toNat = 0 := rfl
                    rw [e0, hJ0 h hJ]
                    dsimp only
                    rw [if_pos ⟨rfl, hi.1, Or.inr (Or.inl trivial)⟩]
                    rfl
                  · cases hsc
                · cases hsc
              · cases hsc
            · cases hsc
          | none =>
            rw [hsc] at he
            dsimp only at he
            cases hs : ab_step sk [] q pc A with
            | some outs =>
              rw [hs] at he
              dsimp only at he
              obtain ⟨o, m1, ls', st', h', e1, e2, e3, e4⟩ := ab_step_ok hs hA hSh
              have := List.all_eq_true.mp he o m1
              have eh : h' = h := by
                apply List.ext_getElem?
                intro j
                cases hj : h[j]? with
                | none =>
                  have : h.length ≤ j := List.getElem?_eq_none_iff.mp hj
                  exact List.getElem?_eq_none_iff.mpr (by rw [e4.1]; exact this)
                | some e =>
                  have he4 := e4.2.2 j e hj
                  rcases e with x | ⟨ci, fs⟩
                  · exact he4 rfl
                  · obtain ⟨fs', f1, f2⟩ := he4
                    rw [f1]
                    have : fs' = fs := List.ext_getElem? (fun f => f2 f rfl)
                    rw [this]
              subst eh
              exact lb_Ends.step hq e1 (ih _ _ _ _ _ _ this (by rw [sm_step_len e1]; exact hN) e2 e3 hJ hC hS)
            | none =>
              rw [hs] at he
              dsimp only at he
              cases hc : ab_callv sk q A with
              | none => rw [hc] at he; cases he
              | some z =>
                obtain ⟨m', as, r⟩ := z
                rw [hc] at he
                dsimp only at he
                obtain ⟨vs, s, e1, e2, e3⟩ := ab_callv_ok (pc := pc) hc hA hSh
                cases d with
                | zero => cases he
                | succ d' =>
                  cases hPW : PW m' with
                  | some MW =>
                    obtain ⟨⟨nlW, kW, tabW⟩, alW⟩ := MW
                    rw [hPW] at he
                    cases w with
                    | zero => cases he
                    | succ w' =>
                      dsimp only at he
                      rw [Bool.and_eq_true] at he
                      obtain ⟨g3, he⟩ := he
                      have hcat := ab_cats_le e3 g3
                      cases hf : lb_findW d' m' as envW with
                      | none => rw [hf] at he; cases he
                      | some e =>
                        rw [hf] at he
                        dsimp only at he
                        obtain ⟨c1, c2, c3, c4⟩ := lb_findW_ok envW hf
                        obtain ⟨k1, k2⟩ := hW e c1 h vs ((nlW, kW, tabW), alW) (by rw [c2]; exact hPW) hSh hJ (ab_leL_st _ _ _ e2 c3)
                        rw [c2] at k2
                        refine lb_Ends.callW (M := ((nlW, kW, tabW), alW)) hq e1 hPW k1 hcat (k2.deep c4) fun v h' hpost => ?_
                        obtain ⟨p1, p2, p3, p4, p, pm, pr⟩ := hpost
                        have hall := List.all_eq_true.mp he p pm
                        rw [Bool.and_eq_true] at hall
                        refine ih _ _ _ ls (sm_back v s) h' hall.2 hN (lb_keepA hA.1 e3 ?_ pr) p1 p2 (by omega) (by omega)
                        have := hall.1
                        simp only [Bool.or_eq_true, beq_iff_eq, Bool.not_eq_true', beq_eq_false_iff_ne] at this
                        exact this
                  | none =>
                    rw [hPW] at he
                    cases hP' : P m' with
                    | none => rw [hP'] at he; cases w <;> cases he
                    | some M' =>
                      obtain ⟨nl', k', tab'⟩ := M'
                      rw [hP'] at he
                      have he' : (as.all (fun a => !(a.1 == 0)) && (decide ((ab_slots as).length ≤ nl') && (ab_cats r && (match lb_findP d' m' as envP with
                          | some c => c.2.2.2.1.all (fun p => (k' == 0 || !(p.1.1 == 0)) && lb_exp P PW sk envP envW tab stop HL n (d' + 1) w (pc + 3) (A.1.map (ab_keep ab_n1), ab_back (if k' = 0 then none else some (ab_strip p.1)) (r.map (ab_keep ab_n1)), []))
                          | none => false)))) = true := by
                        cases w <;> exact he
                      rw [Bool.and_eq_true, Bool.and_eq_true, Bool.and_eq_true, decide_eq_true_eq] at he'
                      obtain ⟨g1, g2, g3, he'⟩ := he'
                      have hen := ab_entry_ok (n := nl') (vs := vs) (as := as.map (ab_keep ab_n0)) (ab_keepSt (ls' := sm_entry nl' vs) (h' := h) ab_n0_mv as vs e2) (ab_all_keep g1) (by rw [ab_slots_keep]; exact g2)
                      have hcat := ab_cats_le e3 g3
                      cases hf : lb_findP d' m' as envP with
                      | none => rw [hf] at he'; cases he'
                      | some c =>
                        rw [hf] at he'
                        dsimp only at he'
                        obtain ⟨c1, c2, c3, c4⟩ := lb_findP_ok envP hf
                        have k2 := hP c c1 h vs (nl', k', tab') (by rw [c2]; exact hP') hSh hJ (ab_leL_st _ _ _ e2 c3)
                        rw [c2] at k2
                        refine lb_Ends.callP (M' := (nl', k', tab')) hq e1 hPW hP' hen.1 hcat (k2.deep c4) fun v h' hpost => ?_
                        obtain ⟨p1, p2, p3, p4, p, pm, pr⟩ := hpost
                        have hall := List.all_eq_true.mp he' p pm
                        rw [Bool.and_eq_true] at hall
                        refine ih _ _ _ ls (sm_back v s) h' hall.2 hN (lb_keepA hA.1 e3 ?_ pr) p1 p2 (by omega) (by omega)
                        have := hall.1
                        simp only [Bool.or_eq_true, beq_iff_eq, Bool.not_eq_true', beq_eq_false_iff_ne] at this
                        exact this
end LBX
