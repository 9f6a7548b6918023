/-! THE CHECK OF A METHOD WITH HANDLERS: all that it calls has a contract; a handler returns a constant -/
def wb_cr (tab : List (Option sm_I)) (p : Nat) : Option Int := match tab[p]?, tab[p + 1]? with
  | some (some (.iconst c, _, _)), some (some (.ireturn, _, _)) => some c
  | _, _ => none
def wb_hand (tab : List (Option sm_I)) (hp nl : Nat) : Option Int := match tab[hp]? with
  | some (some (.astore_n j, _, _)) => if (j : Nat) < nl then wb_cr tab (hp + 1) else none
  | some (some (.astore j, _, _)) => if j < nl then wb_cr tab (hp + 2) else none
  | _ => none
def wb_find (sk : ab_K) (d m : Nat) (as : List ab_V) (hc : ab_HC) (wr : List (Nat × Nat)) : List (List Nat × ab_C) → Option (List Nat × ab_C)
  | [] => none
  | e :: r => if e.2.1 = m ∧ ab_leL as e.2.2.1 = true ∧ ab_leH sk hc e.2.2.2.1 = true ∧ e.2.2.2.2.2.2 ≤ d ∧ ab_sub_wr e.2.2.2.2.2.1 wr = true then some e else wb_find sk d m as hc wr r
def wb_exp (P : Nat → Option sm_M) (sk : ab_K) (wr : List (Nat × Nat)) (env : List (List Nat × ab_C)) (nl k : Nat) (tab : List (Option sm_I)) (al : List (Nat × Nat × Nat × Nat × Nat)) (posts : List ab_V) : Nat → Nat → Nat → ab_A → Bool
  | 0, _, _, _ => false
  | n + 1, d, pc, A => match tab[pc]? with
    | some (some q) => match ab_step sk wr q pc A with
      | some outs => outs.all (fun o => wb_exp P sk wr env nl k tab al posts n d o.1 o.2)
      | none => match ab_retv q k A with
        | some rv => posts.any (fun p => ab_leR k rv p)
        | none => match ab_callv sk q A with
          | some (m', as, r) => match d, P m' with
            | d' + 1, some (nl', k', _) => as.all (fun a => !(a.1 == 0)) && (decide ((ab_slots as).length ≤ nl') && (ab_cats r && (match wb_find sk d' m' as A.2.2 wr env with
              | some e => e.2.2.2.2.1.all (fun p => (k' == 0 || !(p.1.1 == 0)) && wb_exp P sk wr env nl k tab al posts n (d' + 1) (pc + 3) (A.1.map (ab_keep (ab_nw e.2.2.2.2.2.1)), ab_back (if k' = 0 then none else some (ab_strip p.1)) (r.map (ab_keep (ab_nw e.2.2.2.2.2.1))), ab_newH e.2.2.2.2.2.1 p.2 A.2.2)) &&
                  e.1.all (fun x => match sm_find pc x al with
                    | some hp => match wb_hand tab hp nl with
                      | some c => decide (k = 1) && posts.any (fun p => ab_leV (ab_ci (Int32.ofInt c).toInt) p)
                      | none => false
                    | none => false)
              | none => false)))
            | _, _ => false
          | none => false
    | _ => false
/-- how it ends: an exception may lie behind the cells -/
def wb_Post (sk : ab_K) (wr : List (Nat × Nat)) (posts : List ab_V) (k : Nat) (hS : sm_H) (v : Option Value) (h' : sm_H) : Prop := ∃ g, ab_Sh sk g ∧ ab_Fr wr hS g ∧ (h' = g ∨ ∃ x, h' = g ++ [sm_exc x]) ∧ ∃ p ∈ posts, ab_res k p v
section WBX
variable {P : Nat → Option sm_M} {PW : Nat → Option sm_MW} {sk : ab_K} {wr : List (Nat × Nat)} {env : List (List Nat × ab_C)} {posts : List ab_V}
theorem wb_find_ok {d m : Nat} {as : List ab_V} {hc : ab_HC} {e : List Nat × ab_C} : ∀ env : List (List Nat × ab_C), wb_find sk d m as hc wr env = some e → e ∈ env ∧ e.2.1 = m ∧ ab_leL as e.2.2.1 = true ∧ ab_leH sk hc e.2.2.2.1 = true ∧ e.2.2.2.2.2.2 ≤ d ∧ ab_sub_wr e.2.2.2.2.2.1 wr = true := by
  intro env
  induction env with
  | nil => intro h; simp [wb_find] at h
  | cons e0 r ih =>
    intro h
    simp only [wb_find] at h
    split at h
    · next hc => cases h; exact ⟨List.mem_cons_self, hc⟩
    · obtain ⟨h1, h2⟩ := ih h
      exact ⟨List.mem_cons_of_mem _ h1, h2⟩
theorem wb_cr_ok {m d p nl k : Nat} {tab : List (Option sm_I)} {al : List (Nat × Nat × Nat × Nat × Nat)} {c : Int} {ls : sm_L} {h : sm_H} {Q : Option Value → sm_H → Prop} (hM : PW m = some ((nl, k, tab), al)) (hk : k = 1) (hc : wb_cr tab p = some c) (hQ : Q (some (.int (Int32.ofInt c))) h) : wb_Ends P PW d m p ls [] h Q := by
  unfold wb_cr at hc
  split at hc
  · next c0 l1 r1 l2 r2 h1 h2 =>
    cases hc
    refine wb_Ends.step (M := ((nl, k, tab), al)) hM h1 rfl ?_
    refine wb_Ends.ret (M := ((nl, k, tab), al)) hM h2 rfl ?_ hQ
    subst hk
    rfl
  · cases hc
theorem wb_hand_ok {m d hp nl k : Nat} {tab : List (Option sm_I)} {al : List (Nat × Nat × Nat × Nat × Nat)} {c : Int} {ls : sm_L} {h : sm_H} {z : Nat} {Q : Option Value → sm_H → Prop} (hM : PW m = some ((nl, k, tab), al)) (hk : k = 1) (hl : ls.length = nl) (hc : wb_hand tab hp nl = some c) (hQ : Q (some (.int (Int32.ofInt c))) h) : wb_Ends P PW d m hp ls [.ref z] h Q := by
  unfold wb_hand at hc
  split at hc
  · next j l1 r1 h1 =>
    split at hc
    · next hj =>
      refine wb_Ends.step (M := ((nl, k, tab), al)) (pc' := hp + 1) (ls' := (sm_kill ls j).set j (some (.ref z))) (st' := []) (h' := h) hM h1 ?_ (wb_cr_ok hM hk hc hQ)
      simp only [sm_step, sm_store1, sm_isA, if_true]
      rw [ab_put1_some (by rw [hl]; exact hj)]
      rfl
    · cases hc
  · next j l1 r1 h1 =>
    split at hc
    · next hj =>
      refine wb_Ends.step (M := ((nl, k, tab), al)) (pc' := hp + 2) (ls' := (sm_kill ls j).set j (some (.ref z))) (st' := []) (h' := h) hM h1 ?_ (wb_cr_ok hM hk hc hQ)
      simp only [sm_step, sm_store1, sm_isA, if_true]
      rw [ab_put1_some (by rw [hl]; exact hj)]
      rfl
    · cases hc
  · cases hc
set_option maxHeartbeats 2000000 in
theorem wb_exp_ok (henv : ∀ e ∈ env, ab_OkX P sk e.1 e.2) {m nl k : Nat} {tab : List (Option sm_I)} {al : List (Nat × Nat × Nat × Nat × Nat)} (hM : PW m = some ((nl, k, tab), al)) {hS : sm_H} :
    ∀ (n d pc : Nat) (A : ab_A) (ls : sm_L) (st : List Value) (h : sm_H), wb_exp P sk wr env nl k tab al posts n d pc A = true → ls.length = nl → ab_ok [] [] A ls st h → ab_Sh sk h → ab_Fr wr hS h → wb_Ends P PW d m pc ls st h (wb_Post sk wr posts k hS) := by
  intro n
  induction n with
  | zero => intro d pc A ls st h he; simp [wb_exp] at he
  | succ n ih =>
    intro d pc A ls st h he hl hA hSh hFr
    unfold wb_exp at he
    cases hq : tab[pc]? with
    | none => rw [hq] at he; cases he
    | some o =>
      cases o with
      | none => rw [hq] at he; cases he
      | some q =>
        rw [hq] at he
        dsimp only at he
        cases hs : ab_step sk wr q pc A with
        | some outs =>
          rw [hs] at he
          dsimp only at he
          obtain ⟨o, m1, ls', st', h', e1, e2, e3, e4⟩ := ab_step_ok hs hA hSh
          have := List.all_eq_true.mp he o m1
          exact wb_Ends.step (M := ((nl, k, tab), al)) hM hq e1 (ih _ _ _ _ _ _ this (by rw [sm_step_len e1]; exact hl) e2 e3 (hFr.trans e4))
        | none =>
          rw [hs] at he
          dsimp only at he
          cases hr : ab_retv q k A with
          | some rv =>
            rw [hr] at he
            dsimp only at he
            obtain ⟨v, e1, e2, e3⟩ := ab_retv_ok (pc := pc) hr hA
            obtain ⟨p, hp, hx⟩ := List.any_eq_true.mp he
            refine wb_Ends.ret (M := ((nl, k, tab), al)) hM hq e1 e2 ⟨h, hSh, hFr, Or.inl rfl, p, hp, ?_⟩
            unfold ab_res
            rcases e3 with ⟨z1, z2, z3⟩ | ⟨z1, a, w, z2, z3, z4, z5⟩
            · rw [if_pos z1]; exact z3
            · rw [if_neg z1, z3]
              unfold ab_leR at hx
              rw [if_neg z1, z2] at hx
              exact ⟨fun _ => ab_leV_ok z5 hx, by simp⟩
          | none =>
            rw [hr] at he
            dsimp only at he
            cases hc : ab_callv sk q A with
            | none => rw [hc] at he; cases he
            | some z =>
              obtain ⟨m', as, r⟩ := z
              rw [hc] at he
              dsimp only at he
              obtain ⟨vs, s, e1, e2, e3⟩ := ab_callv_ok (pc := pc) hc hA hSh
              cases d with
              | zero => cases he
              | succ d' =>
                cases hP' : P m' with
                | none => rw [hP'] at he; cases he
                | some M' =>
                  obtain ⟨nl', k', tab'⟩ := M'
                  rw [hP'] at he
                  dsimp only at he
                  rw [Bool.and_eq_true, Bool.and_eq_true, Bool.and_eq_true, decide_eq_true_eq] at he
                  obtain ⟨g1, g2, g3, he⟩ := he
                  have hen := ab_entry_ok (n := nl') (vs := vs) (as := as.map (ab_keep ab_n0)) (ab_keepSt (ls' := sm_entry nl' vs) (h' := h) ab_n0_mv as vs e2) (ab_all_keep g1) (by rw [ab_slots_keep]; exact g2)
                  have hcat := ab_cats_le e3 g3
                  cases hf : wb_find sk d' m' as A.2.2 wr env with
                  | none => rw [hf] at he; cases he
                  | some e =>
                    rw [hf] at he
                    dsimp only at he
                    rw [Bool.and_eq_true] at he
                    obtain ⟨he1, he2⟩ := he
                    obtain ⟨c1, c2, c3, c4, c5, c6⟩ := wb_find_ok env hf
                    have hok := henv e c1 h vs (nl', k', tab') (by rw [c2]; exact hP') hSh (ab_leL_st _ _ _ e2 c3) (ab_leH_ok hA.2.2 hSh c4)
                    rw [c2] at hok
                    have hok' : ab_EndsX P (ab_PostT sk e.2.2.2.2.2.1 e.1 h) d' m' 0 (sm_entry nl' vs) [] h (ab_Post sk e.2.2.2.2.2.1 e.2.2.2.2.1 k' h) := by
                      rcases hok with hok | ⟨n1, x, h1, hr1, hq1⟩
                      · exact Or.inl (hok.deep c5)
                      · exact Or.inr ⟨n1, x, h1, sm_runT_more _ _ _ _ _ _ _ _ hr1 n1 d' (Nat.le_refl _) c5, hq1⟩
                    refine wb_Ends.call (M := ((nl, k, tab), al)) (M' := (nl', k', tab')) hM hq e1 hP' hen.1 hcat hok' (fun v h' hpost => ?_) (fun x h' hpost => ?_)
                    · obtain ⟨p1, p2, p, pm, pr, ph⟩ := hpost
                      have hall := List.all_eq_true.mp he1 p pm
                      rw [Bool.and_eq_true] at hall
                      refine ih _ _ _ ls (sm_back v s) h' hall.2 hl ⟨ab_keepL (ab_nw_mv p2) hA.1, ?_, ab_newH_ok hA.2.2 p2 ph⟩ p1 (hFr.trans (p2.wide (fun c hc => ab_swr_ok c6 hc)))
                      have hrest : ab_okSt ls h' [] [] (r.map (ab_keep (ab_nw e.2.2.2.2.2.1))) s := ab_keepSt (ab_nw_mv p2) _ _ e3
                      unfold ab_res at pr
                      by_cases hk' : k' = 0
                      · rw [if_pos hk'] at pr ⊢
                        rw [pr]
                        exact hrest
                      · rw [if_neg hk'] at pr ⊢
                        have hp0 : p.1.1 ≠ 0 := by
                          have := hall.1
                          simp only [Bool.or_eq_true, beq_iff_eq, Bool.not_eq_true', beq_eq_false_iff_ne] at this
                          exact this.resolve_left hk'
                        cases v with
                        | none => exact absurd rfl pr.2
                        | some w => exact ab_backSt (ab_nv_ok (pr.1 hp0)) hrest
                    · obtain ⟨hx, g, rfl, hg1, hg2⟩ := hpost
                      have hall := List.all_eq_true.mp he2 x hx
                      split at hall
                      · next hp hfd =>
                        split at hall
                        · next c hhd =>
                          rw [Bool.and_eq_true, decide_eq_true_eq] at hall
                          obtain ⟨hk1, hany⟩ := hall
                          obtain ⟨p, hpm, hpl⟩ := List.any_eq_true.mp hany
                          refine ⟨hp, hfd, wb_hand_ok hM hk1 hl hhd ⟨g, hg1, hFr.trans (hg2.wide (fun c hc => ab_swr_ok c6 hc)), Or.inr ⟨x, rfl⟩, p, hpm, ?_⟩⟩
                          unfold ab_res
                          rw [if_neg (by rw [hk1]; decide)]
                          exact ⟨fun _ => ab_leV_ok (ls := []) (h := []) (L0 := []) (h0 := []) (ab_mkc _) hpl, by simp⟩
                        · cases hall
                      · cases hall
/-- the whole check -/
def wb_good (P : Nat → Option sm_M) (PW : Nat → Option sm_MW) (sk : ab_K) (wr : List (Nat × Nat)) (env : List (List Nat × ab_C)) (m d fuel : Nat) (args posts : List ab_V) : Bool := match PW m with
  | none => false
  | some ((nl, k, tab), al) => args.all (fun a => !(a.1 == 0)) && decide ((ab_slots args).length ≤ nl) && wb_exp P sk wr env nl k tab al posts fuel d 0 (ab_entry nl (args.map ab_strip), [], [])
theorem wb_good_ok {m d fuel : Nat} {args : List ab_V} (hg : wb_good P PW sk wr env m d fuel args posts = true) (henv : ∀ e ∈ env, ab_OkX P sk e.1 e.2) {M : sm_MW} (hM : PW m = some M) {h : sm_H} {as : List Value} (hSh : ab_Sh sk h) (has : ab_nvs args as) : (sm_slots as).length ≤ M.1.1 ∧ wb_Ends P PW d m 0 (sm_entry M.1.1 as) [] h (wb_Post sk wr posts M.1.2.1 h) := by
  obtain ⟨⟨nl, k, tab⟩, al⟩ := M
  unfold wb_good at hg
  rw [hM] at hg
  dsimp only at hg
  simp only [Bool.and_eq_true, decide_eq_true_eq] at hg
  obtain ⟨⟨g1, g2⟩, g3⟩ := hg
  have hen := ab_entry_ok (n := nl) (vs := as) (h := h) (L0 := []) (h0 := []) (as := args.map ab_strip) (ab_nvs_ok _ _ has) (by rw [List.all_map]; exact g1) (by rw [ab_slots_strip]; exact g2)
  exact ⟨hen.1, wb_exp_ok henv hM fuel d 0 _ (sm_entry nl as) [] h g3 (by simp [sm_entry]; have := hen.1; omega) ⟨hen.2, trivial, fun e he => absurd he List.not_mem_nil⟩ hSh ab_Fr.refl⟩
end WBX
