/-! the law's wrappers: type, clear, sample -/
/-- what the class's call leaves -/
def we_Q (T : rg_T) (L : Nat) (xs : Nat → Int32) (h : sm_H) (v : Option Value) (h' : sm_H) : Prop := (∃ y, v = some (.int y)) ∧ ab_Sh sx_sk h' ∧ lh_J T L xs h' ∧ h'.length = h.length ∧ sm_sl h' = sm_sl h
def we_T (T : rg_T) (L : Nat) (xs : Nat → Int32) (e : Nat) (h : sm_H) (x : Nat) (h' : sm_H) : Prop := x = e ∧ ∃ g, h' = g ++ [sm_exc x] ∧ ab_Sh sx_sk g ∧ lh_J T L xs g ∧ g.length = h.length ∧ sm_sl g = sm_sl h
section WW
variable {T T' : rg_T} {L : Nat} {xs : Nat → Int32} {h h' : sm_H}
theorem we_thrown {e x : Nat} (k : we_T T L xs e h x h') : ab_Sh sx_sk h' ∧ lh_J T L xs h' ∧ h'.length ≤ h.length + 1 ∧ sm_sl h' ≤ sm_sl h + 6 := by
  obtain ⟨-, g, rfl, s, j, l1, l2⟩ := k
  have g1 : 172 ≤ g.length := j.1.2.1
  have g2 := xs_len
  exact ⟨lj_app (by omega) s, lh_app j, by rw [List.length_append, l1]; exact Nat.le_refl _, by rw [sm_sl_app, l2]; exact Nat.le_refl _⟩
/-- a contract that throws, where nothing is written -/
theorem we_of {e : Nat} {c : ab_C} {as : List Value} {M : sm_M} {d : Nat} {Q : Option Value → sm_H → Prop} (hc : ab_OkX sc_P sx_sk [e] c) (hM : sc_P c.1 = some M) (hS : ab_Sh sx_sk h) (hJ : lh_J T L xs h) (ha : ab_nvs c.2.1 as) (hp : ab_nvH c.2.2.1 h) (hq : c.2.2.2.1 = []) (hw : c.2.2.2.2.1 = []) (hd : c.2.2.2.2.2 ≤ d) : ab_EndsX sc_P (we_T T L xs e h) d c.1 0 (sm_entry M.1 as) [] h Q := by
  rcases hc h as M hM hS ha hp with k | ⟨n1, x, h1, hr1, hq1⟩
  · obtain ⟨n, v, h', -, -, -, p, pm, -⟩ := k
    rw [hq] at pm
    exact absurd pm List.not_mem_nil
  · refine Or.inr ⟨n1, x, h1, sm_runT_more _ _ _ _ _ _ _ _ hr1 n1 d (Nat.le_refl _) hd, ?_⟩
    obtain ⟨q1, g, q2, q3, q4⟩ := hq1
    rw [hw] at q4
    exact ⟨List.mem_singleton.mp q1, g, q2, q3, lh_fr (wr := []) hJ hS q3 q4 (by decide), q4.1, q4.2.1⟩
/-- a run of the class that ends -/
theorem we_run {d m : Nat} {M : sm_M} {as : List mi_V} {vs : List Value} {QT : Nat → sm_H → Prop} {Q : Option mi_V → sm_H → Prop} (e : as.map mi_c = vs) (k : me_E d m 0 (mi_entry M.1 as) [] h Q) (kk : ∀ w h', (∀ x, w = some x → mi_ok x) → Q w h' → (∃ y, w = some (.inl y)) ∧ ab_Sh sx_sk h' ∧ lh_J T L xs h' ∧ h'.length = h.length ∧ sm_sl h' = sm_sl h) : ab_EndsX sc_P QT d m 0 (sm_entry M.1 vs) [] h (we_Q T L xs h) := by
  refine Or.inl (ab_Ends.imp (me_run e k) (fun v h' hw => ?_))
  obtain ⟨w, rfl, o, q⟩ := hw
  obtain ⟨⟨y, rfl⟩, r⟩ := kk w h' o q
  exact ⟨⟨_, rfl⟩, r⟩
/-- the wrapper's last steps -/
theorem ww_end {m nl d : Nat} {tab : List (Option sm_I)} {al : List (Nat × Nat × Nat × Nat × Nat)} {pc pc' n : Nat} {ls : sm_L} {st : List Value} {y : Int64} {Q : Option Value → sm_H → Prop} (hM : sc_PW m = some ((nl, 1, tab), al)) (hseg : mo_path tab sx_sk h n [] pc ls st [] = some (pc', ls, [.int (Int32.ofInt 0)], [.inr (.inr (171, Int32.toNatClampNeg (Int32.ofInt 0), y))], [0 ≤ (Int32.ofInt 0).toInt ∧ (Int32.ofInt 0).toInt < ((1 : Nat) : Int), (-9223372036854775808) ≤ y.toInt ∧ y.toInt ≤ 9223372036854775807])) (hr : tab[pc']? = some (some (.ireturn, 1, []))) (hS1 : ab_Sh sx_sk h) (hQ : ab_Sh sx_sk (mx_pb h 171 0 y) → Q (some (.int 0)) (mx_pb h 171 0 y)) : wb_Ends sc_P sc_PW d m pc ls st h Q := by
  refine wo_path_ok (h := h) hM (mx_Sh_Sp hS1) n [] pc _ _ [] _ hseg (fun u hu => absurd hu List.not_mem_nil) hS1 ?_ (fun hS2 _ => ?_)
  · intro q hq
    simp only [List.mem_cons, List.not_mem_nil, or_false] at hq
    rcases hq with rfl | rfl
    · exact ⟨by decide, by decide⟩
    · exact ⟨y.le_toInt, Int.le_of_lt_add_one y.toInt_lt⟩
  · exact wb_Ends.ret (q := (.ireturn, 1, [])) (v := some (.int 0)) hM hr rfl rfl (hQ hS2)
theorem ww_done {v : Option Value} {y : Int64} (hq : we_Q T L xs h v h') (hS2 : ab_Sh sx_sk (mx_pb h' 171 0 y)) : ww_Q T L xs h (some (.int 0)) (mx_pb h' 171 0 y) := by
  obtain ⟨-, s, j, l1, l2⟩ := hq
  obtain ⟨o1, o2, o3, -⟩ := ww_out s hS2 j l1 l2
  exact ⟨⟨_, rfl⟩, hS2, o1, o2, o3⟩
/-- a call on the class's own object -/
theorem c3_own {pc idx n m : Nat} {ls : sm_L} {vs r : List Value} {st : List Value} (hSh : ab_Sh sx_sk h) (ha : sm_args (n + 1) st = some (.ref 51 :: vs, r)) : sm_step (.invokevirtual idx, 3, [0, n, 0, m]) pc ls st h = some (.inr (.inr (m, .ref 51 :: vs, r))) := by
  have hk : ∃ fl, sx_sk[51]? = some (some (.inr (0, fl))) := ⟨_, rfl⟩
  obtain ⟨fl, hk⟩ := hk
  obtain ⟨fs, ho, -, -⟩ := mx_obj hSh hk
  simp only [sm_step, sm_callV]
  rw [ha]
  dsimp only
  rw [ho]
  rfl
set_option maxRecDepth 20000 in
theorem ww_seg0 (h : sm_H) (y : Int64) (p z : Value) (e : Option Value) : mo_path sw_0 sx_sk h 3 [] 16 [some (.ref 51), some p, some z, some (.ref 171), e] [.long y, .int (Int32.ofInt 0), .ref 171] [] = some (25, [some (.ref 51), some p, some z, some (.ref 171), e], [.int (Int32.ofInt 0)], [.inr (.inr (171, Int32.toNatClampNeg (Int32.ofInt 0), y))], [0 ≤ (Int32.ofInt 0).toInt ∧ (Int32.ofInt 0).toInt < ((1 : Nat) : Int), (-9223372036854775808) ≤ y.toInt ∧ y.toInt ≤ 9223372036854775807]) := rfl
set_option maxRecDepth 20000 in
theorem ww_seg1 (h : sm_H) (r : Int32) (p : Value) (e : Option Value) : mo_path sw_1 sx_sk h 4 [] 7 [some (.ref 51), some p, some (.ref 171), e] [.int r, .int (Int32.ofInt 0), .ref 171] [] = some (16, [some (.ref 51), some p, some (.ref 171), e], [.int (Int32.ofInt 0)], [.inr (.inr (171, Int32.toNatClampNeg (Int32.ofInt 0), r.toInt64))], [0 ≤ (Int32.ofInt 0).toInt ∧ (Int32.ofInt 0).toInt < ((1 : Nat) : Int), (-9223372036854775808) ≤ r.toInt64.toInt ∧ r.toInt64.toInt ≤ 9223372036854775807]) := rfl
set_option maxRecDepth 20000 in
theorem ww_seg2 (h : sm_H) (r : Int32) (p : Value) (e : Option Value) : mo_path sw_2 sx_sk h 4 [] 7 [some (.ref 51), some p, some (.ref 171), e] [.int r, .int (Int32.ofInt 0), .ref 171] [] = some (16, [some (.ref 51), some p, some (.ref 171), e], [.int (Int32.ofInt 0)], [.inr (.inr (171, Int32.toNatClampNeg (Int32.ofInt 0), r.toInt64))], [0 ≤ (Int32.ofInt 0).toInt ∧ (Int32.ofInt 0).toInt < ((1 : Nat) : Int), (-9223372036854775808) ≤ r.toInt64.toInt ∧ r.toInt64.toInt ≤ 9223372036854775807]) := rfl
set_option maxRecDepth 20000 in
theorem ww_type {p z : Int32} {d : Nat} (hSh : ab_Sh sx_sk h) (k : ab_EndsX sc_P (we_T T L xs 12 h) d 95 0 (sm_entry 3 [.ref 51, .int p, .int z]) [] h (we_Q T L xs h)) : wb_Ends sc_P sc_PW (d + 1) 2000 0 (sm_entry 5 [.ref 51, .int p, .int z, .ref 171]) [] h (ww_Q T L xs h) := by
  have hM : sc_PW 2000 = some ((5, 1, sw_0), sw_h0) := rfl
  refine wb_Ends.step hM (q := (.aload_n 3, 1, [])) rfl rfl ?_
  refine wb_Ends.step hM (q := (.iconst 0, 1, [])) rfl rfl ?_
  refine wb_Ends.step hM (q := (.aload_n 0, 1, [])) rfl rfl ?_
  refine wb_Ends.step hM (q := (.iload_n 1, 1, [])) rfl rfl ?_
  refine wb_Ends.step hM (q := (.iload_n 2, 1, [])) rfl rfl ?_
  refine wb_Ends.call (q := (.invokevirtual 7, 3, [0, 2, 0, 95])) (M' := (3, 4, sb_95)) (m' := 95) (as := [.ref 51, .int p, .int z]) (r := [.int (Int32.ofInt 0), .ref 171]) hM rfl (c3_own hSh rfl) rfl (Nat.le_refl 3) (by simp [Value.category]) k (fun v h1 hq => ?_) (fun x h1 ht => ?_)
  · have hq' := hq
    obtain ⟨⟨y, rfl⟩, s, -⟩ := hq'
    by_cases hy : y = Int32.ofInt 0
    · refine wb_Ends.step hM (q := (.ifCond .eq 7, 3, [])) (pc' := 15) (ls' := [some (.ref 51), some (.int p), some (.int z), some (.ref 171), none]) (st' := [.int (Int32.ofInt 0), .ref 171]) (h' := h1) rfl ?_ ?_
      · subst hy
        rfl
      · refine wb_Ends.step hM (q := (.lconst 0, 1, [])) rfl rfl ?_
        exact ww_end hM (ww_seg0 h1 _ _ _ _) rfl s (fun hS2 => ww_done hq hS2)
    · refine wb_Ends.step hM (q := (.ifCond .eq 7, 3, [])) (pc' := 11) (ls' := [some (.ref 51), some (.int p), some (.int z), some (.ref 171), none]) (st' := [.int (Int32.ofInt 0), .ref 171]) (h' := h1) rfl ?_ ?_
      · show sm_if (sm_cmp .eq y 0) 8 7 _ _ h1 = _
        have : sm_cmp .eq y 0 = false := decide_eq_false hy
        rw [this]
        rfl
      · refine wb_Ends.step hM (q := (.lconst 1, 1, [])) rfl rfl ?_
        refine wb_Ends.step hM (q := (.goto 4, 3, [])) rfl rfl ?_
        exact ww_end hM (ww_seg0 h1 _ _ _ _) rfl s (fun hS2 => ww_done hq hS2)
  · have hx : x = 12 := ht.1
    subst hx
    refine ⟨20, rfl, ?_⟩
    refine wb_Ends.step hM (q := (.astore 4, 2, [])) rfl rfl ?_
    refine wb_Ends.step hM (q := (.iconst 1, 1, [])) rfl rfl ?_
    exact wb_Ends.ret (q := (.ireturn, 1, [])) (v := some (.int 1)) hM rfl rfl rfl ⟨⟨_, rfl⟩, we_thrown ht⟩
set_option maxRecDepth 20000 in
theorem ww_clear {p : Int32} {d : Nat} (hSh : ab_Sh sx_sk h) (k : ab_EndsX sc_P (we_T T L xs 12 h) d 97 0 (sm_entry 3 [.ref 51, .int p]) [] h (we_Q T L xs h)) : wb_Ends sc_P sc_PW (d + 1) 2001 0 (sm_entry 4 [.ref 51, .int p, .ref 171]) [] h (ww_Q T L xs h) := by
  have hM : sc_PW 2001 = some ((4, 1, sw_1), sw_h1) := rfl
  refine wb_Ends.step hM (q := (.aload_n 2, 1, [])) rfl rfl ?_
  refine wb_Ends.step hM (q := (.iconst 0, 1, [])) rfl rfl ?_
  refine wb_Ends.step hM (q := (.aload_n 0, 1, [])) rfl rfl ?_
  refine wb_Ends.step hM (q := (.iload_n 1, 1, [])) rfl rfl ?_
  refine wb_Ends.call (q := (.invokevirtual 15, 3, [0, 1, 0, 97])) (M' := (3, 1, sb_97)) (m' := 97) (as := [.ref 51, .int p]) (r := [.int (Int32.ofInt 0), .ref 171]) hM rfl (c3_own hSh rfl) rfl (by decide : (sm_slots [Value.ref 51, .int 0]).length ≤ 3) (by simp [Value.category]) k (fun v h1 hq => ?_) (fun x h1 ht => ?_)
  · have hq' := hq
    obtain ⟨⟨y, rfl⟩, s, -⟩ := hq'
    exact ww_end hM (ww_seg1 h1 _ _ _) rfl s (fun hS2 => ww_done hq hS2)
  · have hx : x = 12 := ht.1
    subst hx
    refine ⟨12, rfl, ?_⟩
    refine wb_Ends.step hM (q := (.astore_n 3, 1, [])) rfl rfl ?_
    refine wb_Ends.step hM (q := (.iconst 1, 1, [])) rfl rfl ?_
    exact wb_Ends.ret (q := (.ireturn, 1, [])) (v := some (.int 1)) hM rfl rfl rfl ⟨⟨_, rfl⟩, we_thrown ht⟩
set_option maxRecDepth 20000 in
theorem ww_sample {p : Int32} {d : Nat} (hSh : ab_Sh sx_sk h) (k : ab_EndsX sc_P (we_T T L xs 13 h) d 98 0 (sm_entry 2 [.ref 51, .int p]) [] h (we_Q T L xs h)) : wb_Ends sc_P sc_PW (d + 1) 2002 0 (sm_entry 4 [.ref 51, .int p, .ref 171]) [] h (ww_Q T L xs h) := by
  have hM : sc_PW 2002 = some ((4, 1, sw_2), sw_h2) := rfl
  refine wb_Ends.step hM (q := (.aload_n 2, 1, [])) rfl rfl ?_
  refine wb_Ends.step hM (q := (.iconst 0, 1, [])) rfl rfl ?_
  refine wb_Ends.step hM (q := (.aload_n 0, 1, [])) rfl rfl ?_
  refine wb_Ends.step hM (q := (.iload_n 1, 1, [])) rfl rfl ?_
  refine wb_Ends.call (q := (.invokevirtual 19, 3, [0, 1, 0, 98])) (M' := (2, 1, sb_98)) (m' := 98) (as := [.ref 51, .int p]) (r := [.int (Int32.ofInt 0), .ref 171]) hM rfl (c3_own hSh rfl) rfl (Nat.le_refl 2) (by simp [Value.category]) k (fun v h1 hq => ?_) (fun x h1 ht => ?_)
  · have hq' := hq
    obtain ⟨⟨y, rfl⟩, s, -⟩ := hq'
    exact ww_end hM (ww_seg2 h1 _ _ _) rfl s (fun hS2 => ww_done hq hS2)
  · have hx : x = 13 := ht.1
    subst hx
    refine ⟨12, rfl, ?_⟩
    refine wb_Ends.step hM (q := (.astore_n 3, 1, [])) rfl rfl ?_
    refine wb_Ends.step hM (q := (.iconst 1, 1, [])) rfl rfl ?_
    exact wb_Ends.ret (q := (.ireturn, 1, [])) (v := some (.int 1)) hM rfl rfl rfl ⟨⟨_, rfl⟩, we_thrown ht⟩
end WW
