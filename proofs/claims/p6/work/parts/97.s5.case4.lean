/-! the law's case 4: rule -/
def xc_r0 : ab_C := (100, [(3, 51, 0, []), (1, (-2147483648), 2147483647, []), (1, (-2147483648), 2147483647, [])], [(6542, (1, 0, 0, []))], [], [], 0)
theorem xo_r0 : ab_OkX sc_P sx_sk [14] xc_r0 := ab_goodX_ok (env := []) (heads := []) (fuel := 40) (by decide +kernel) (fun _ h => absurd h List.not_mem_nil)
def xc_r1 : ab_C := (100, [(3, 51, 0, []), (1, (-2147483648), (-1), []), (1, (-2147483648), 2147483647, [])], [(6542, (1, 1, 1, []))], [], [], 0)
theorem xo_r1 : ab_OkX sc_P sx_sk [12] xc_r1 := ab_goodX_ok (env := []) (heads := []) (fuel := 40) (by decide +kernel) (fun _ h => absurd h List.not_mem_nil)
def xc_rh (n : Nat) : ab_C := (100, [(3, 51, 0, []), (1, (n : Int), 2147483647, []), (1, (-2147483648), 2147483647, [])], [(6542, (1, 1, 1, [])), (7680, (1, (n : Int), (n : Int), []))], [], [], 0)
theorem xg_rh : ∀ n ∈ List.range 11, ab_good sc_P sx_sk [] [] [12] 40 (xc_rh n) = true := by decide +kernel
theorem xo_rh {n : Nat} (hn : n < 11) : ab_OkX sc_P sx_sk [12] (xc_rh n) := ab_goodX_ok (xg_rh n (List.mem_range.mpr hn)) (fun _ h => absurd h List.not_mem_nil)
def xc_rl (n : Nat) : ab_C := (100, [(3, 51, 0, []), (1, 0, (n : Int), []), (1, (-2147483648), (-1), [])], [(6542, (1, 1, 1, [])), (7680, (1, (n : Int) + 1, (n : Int) + 1, []))], [], [], 0)
theorem xg_rl : ∀ n ∈ List.range 10, ab_good sc_P sx_sk [] [] [13] 40 (xc_rl n) = true := by decide +kernel
theorem xo_rl {n : Nat} (hn : n < 10) : ab_OkX sc_P sx_sk [13] (xc_rl n) := ab_goodX_ok (xg_rl n (List.mem_range.mpr hn)) (fun _ h => absurd h List.not_mem_nil)
def xc_rg (n : Nat) : ab_C := (100, [(3, 51, 0, []), (1, 0, (n : Int), []), (1, 4, 2147483647, [])], [(6542, (1, 1, 1, [])), (7680, (1, (n : Int) + 1, (n : Int) + 1, []))], [], [], 0)
theorem xg_rg : ∀ n ∈ List.range 10, ab_good sc_P sx_sk [] [] [13] 40 (xc_rg n) = true := by decide +kernel
theorem xo_rg {n : Nat} (hn : n < 10) : ab_OkX sc_P sx_sk [13] (xc_rg n) := ab_goodX_ok (xg_rg n (List.mem_range.mpr hn)) (fun _ h => absurd h List.not_mem_nil)
section RW
variable {L : Nat} {xs : Nat → Int32} {QL : sm_H → Prop} {h h' : sm_H}
theorem ru_eq {r w : Int} (ha : ∀ k, k ∈ rl_ks → h'[k]? = h[k]?) (hf : ∀ c, c ∈ rl_fs → ab_fld h' c = ab_fld h c) : ru_k h' r w = ru_k h r w ∧ ru_v h' r w = ru_v h r w := by
  have a : ∀ k, k ∈ rl_ks → mi_a h' k = mi_a h k := fun k hk => funext fun i => by
    unfold mi_a mx_a
    rw [ha k hk]
  have b : ∀ k, k ∈ rl_ks → mx_b h' k = mx_b h k := fun k hk => funext fun i => by
    unfold mx_b
    rw [ha k hk]
  have f : ∀ c, c ∈ rl_fs → mi_f h' c = mi_f h c := fun c hc => by
    unfold mi_f mx_i
    rw [hf c hc]
  unfold ru_k ru_v
  rw [f 13959 (by decide), f 13961 (by decide), a 79 (by decide), a 82 (by decide), b 80 (by decide), b 81 (by decide)]
  exact ⟨rfl, rfl⟩
theorem ru_app {r w : Int} {e : sm_E} (hl : 172 ≤ h.length) : ru_k (h ++ [e]) r w = ru_k h r w ∧ ru_v (h ++ [e]) r w = ru_v h r w := by
  have hk : ∀ k, k < 172 → (h ++ [e])[k]? = h[k]? := fun k hk => List.getElem?_append_left (by omega)
  have l2 : ∀ k, k ∈ rl_ks → k < 172 := by decide
  have l3 : ∀ c, c ∈ rl_fs → c / 128 < 172 := by decide
  exact ru_eq (fun k hk2 => hk k (l2 k hk2)) (fun c hc => by unfold ab_fld; rw [hk _ (l3 c hc)])
theorem ru_out {r w : Int} {y : Int64} (hS : ab_Sh sx_sk h) : ru_k (mx_pb h 171 0 y) r w = ru_k h r w ∧ ru_v (mx_pb h 171 0 y) r w = ru_v h r w := by
  obtain ⟨f, e⟩ := c2_out hS
  have e2 : mx_pb h 171 0 y = h.set 171 (.inl (1, 1, .inr (.inl (vp_updL f 0 y)))) := by
    unfold mx_pb
    rw [e]
  rw [e2]
  have hk : ∀ k, k ≠ 171 → (h.set 171 (.inl (1, 1, .inr (.inl (vp_updL f 0 y)))))[k]? = h[k]? := fun k hk => List.getElem?_set_ne (fun z => hk z.symm)
  have l2 : ∀ k, k ∈ rl_ks → k ≠ 171 := by decide
  have l3 : ∀ c, c ∈ rl_fs → c / 128 ≠ 171 := by decide
  exact ru_eq (fun k hk2 => hk k (l2 k hk2)) (fun c hc => by unfold ab_fld; rw [hk _ (l3 c hc)])
/-- what the wrapper of rule leaves -/
def wr_Q (L : Nat) (xs : Nat → Int32) (h : sm_H) (r w : Int) (v : Option Value) (h' : sm_H) : Prop := v = some (.int (Int32.ofInt (ru_k h' r w))) ∧ ab_Sh sx_sk h' ∧ lj_J MR L xs h' ∧ h'.length ≤ h.length + 1 ∧ sm_sl h' ≤ sm_sl h + 6 ∧ (ru_k h' r w = 0 → ∃ f, h'[171]? = some (.inl (1, 1, .inr (.inl f))) ∧ f 0 = ru_v h' r w)
theorem we_of2 {e : Nat} {c : ab_C} {as : List Value} {M : sm_M} {d : Nat} {Q : Option Value → sm_H → Prop} (hc : ab_OkX sc_P sx_sk [e] c) (hM : sc_P c.1 = some M) (hS : ab_Sh sx_sk h) (ha : ab_nvs c.2.1 as) (hp : ab_nvH c.2.2.1 h) (hq : c.2.2.2.1 = []) (hw : c.2.2.2.2.1 = []) (hd : c.2.2.2.2.2 ≤ d) : ab_EndsX sc_P (fun x h' => x = e ∧ h' = h ++ [sm_exc x]) d c.1 0 (sm_entry M.1 as) [] h Q := by
  rcases hc h as M hM hS ha hp with k | ⟨n1, x, h1, hr1, hq1⟩
  · obtain ⟨n, v, h', -, -, -, p, pm, -⟩ := k
    rw [hq] at pm
    exact absurd pm List.not_mem_nil
  · refine Or.inr ⟨n1, x, h1, sm_runT_more _ _ _ _ _ _ _ _ hr1 n1 d (Nat.le_refl _) hd, ?_⟩
    obtain ⟨q1, g, q2, q3, q4⟩ := hq1
    rw [hw] at q4
    have e : g = h := me_nil q4
    subst e
    exact ⟨List.mem_singleton.mp q1, q2⟩
theorem lq_app {e : sm_E} (hJ : lj_J MR L xs h) : lj_J MR L xs (h ++ [e]) := lh_0.mp (lh_app (lh_0.mpr hJ))
set_option maxRecDepth 20000 in
theorem ww_seg3 (h : sm_H) (y : Int64) (p z : Value) (e : Option Value) : mo_path sw_3 sx_sk h 3 [] 8 [some (.ref 51), some p, some z, some (.ref 171), e] [.long y, .int (Int32.ofInt 0), .ref 171] [] = some (25, [some (.ref 51), some p, some z, some (.ref 171), e], [.int (Int32.ofInt 0)], [.inr (.inr (171, Int32.toNatClampNeg (Int32.ofInt 0), y))], [0 ≤ (Int32.ofInt 0).toInt ∧ (Int32.ofInt 0).toInt < ((1 : Nat) : Int), (-9223372036854775808) ≤ y.toInt ∧ y.toInt ≤ 9223372036854775807]) := rfl
theorem ww_rthr {e : Nat} {r w : Int} (hS : ab_Sh sx_sk h) (hJ : lj_J MR L xs h) {k : Int} (hk : ru_k h r w = k) (k0 : k ≠ 0) : wr_Q L xs h r w (some (.int (Int32.ofInt k))) (h ++ [sm_exc e]) := by
  have g1 : 172 ≤ h.length := hJ.2.1
  have g2 := xs_len
  obtain ⟨u1, u2⟩ := ru_app (r := r) (w := w) (e := sm_exc e) g1
  refine ⟨by rw [u1, hk], lj_app (by omega) hS, lq_app hJ, by rw [List.length_append]; exact Nat.le_refl _, by rw [sm_sl_app]; exact Nat.le_refl _, fun z => absurd z (by rw [u1, hk]; exact k0)⟩
set_option maxRecDepth 20000 in
theorem ww_rule {r w : Int32} {QT : Nat → sm_H → Prop} {Q' : Option Value → sm_H → Prop} (hSh : ab_Sh sx_sk h) (hJ : lj_J MR L xs h) (k : ab_EndsX sc_P QT 2 100 0 (sm_entry 3 [.ref 51, .int r, .int w]) [] h Q') (k1 : ∀ v h', Q' v h' → h' = h ∧ ru_k h r.toInt w.toInt = 0 ∧ v = some (.long (ru_v h r.toInt w.toInt))) (k2 : ∀ x h', QT x h' → h' = h ++ [sm_exc x] ∧ (x = 14 ∧ ru_k h r.toInt w.toInt = 1 ∨ x = 12 ∧ ru_k h r.toInt w.toInt = 2 ∨ x = 13 ∧ ru_k h r.toInt w.toInt = 3)) : wb_Ends sc_P sc_PW 3 2003 0 (sm_entry 5 [.ref 51, .int r, .int w, .ref 171]) [] h (wr_Q L xs h r.toInt w.toInt) := by
  have hM : sc_PW 2003 = some ((5, 1, sw_3), sw_h3) := rfl
  refine wb_Ends.step hM (q := (.aload_n 3, 1, [])) rfl rfl ?_
  refine wb_Ends.step hM (q := (.iconst 0, 1, [])) rfl rfl ?_
  refine wb_Ends.step hM (q := (.aload_n 0, 1, [])) rfl rfl ?_
  refine wb_Ends.step hM (q := (.iload_n 1, 1, [])) rfl rfl ?_
  refine wb_Ends.step hM (q := (.iload_n 2, 1, [])) rfl rfl ?_
  refine wb_Ends.call (q := (.invokevirtual 24, 3, [0, 2, 0, 100])) (M' := (3, 2, sb_100)) (m' := 100) (as := [.ref 51, .int r, .int w]) (r := [.int (Int32.ofInt 0), .ref 171]) hM rfl (c3_own hSh rfl) rfl (Nat.le_refl 3) (by simp [Value.category]) k (fun v h1 hq => ?_) (fun x h1 ht => ?_)
  · obtain ⟨rfl, e0, rfl⟩ := k1 v h1 hq
    refine ww_end hM (ww_seg3 h1 _ _ _ _) rfl hSh (fun hS2 => ?_)
    obtain ⟨u1, u2⟩ := ru_out (r := r.toInt) (w := w.toInt) (y := ru_v h1 r.toInt w.toInt) hSh
    obtain ⟨o1, o2, o3, o4⟩ := ww_out hSh hS2 (lh_0.mpr hJ) rfl rfl
    refine ⟨by rw [u1, e0]; rfl, hS2, lh_0.mp o1, o2, o3, fun _ => ?_⟩
    rw [u2]
    exact o4
  · obtain ⟨rfl, hx⟩ := k2 x h1 ht
    rcases hx with ⟨rfl, e0⟩ | ⟨rfl, e0⟩ | ⟨rfl, e0⟩
    · refine ⟨12, rfl, ?_⟩
      refine wb_Ends.step hM (q := (.astore 4, 2, [])) rfl rfl ?_
      refine wb_Ends.step hM (q := (.iconst 1, 1, [])) rfl rfl ?_
      exact wb_Ends.ret (q := (.ireturn, 1, [])) (v := some (.int (Int32.ofInt 1))) hM rfl rfl rfl (ww_rthr hSh hJ e0 (by decide))
    · refine ⟨16, rfl, ?_⟩
      refine wb_Ends.step hM (q := (.astore 4, 2, [])) rfl rfl ?_
      refine wb_Ends.step hM (q := (.iconst 2, 1, [])) rfl rfl ?_
      exact wb_Ends.ret (q := (.ireturn, 1, [])) (v := some (.int (Int32.ofInt 2))) hM rfl rfl rfl (ww_rthr hSh hJ e0 (by decide))
    · refine ⟨20, rfl, ?_⟩
      refine wb_Ends.step hM (q := (.astore 4, 2, [])) rfl rfl ?_
      refine wb_Ends.step hM (q := (.iconst 3, 1, [])) rfl rfl ?_
      exact wb_Ends.ret (q := (.ireturn, 1, [])) (v := some (.int (Int32.ofInt 3))) hM rfl rfl rfl (ww_rthr hSh hJ e0 (by decide))
/-- a field as the contracts ask for it -/
theorem nv_fld {c : Nat} {lo hi : Int} (hS : ab_Sh sx_sk h) (hd : ab_dflt sx_sk c = some (1, lo, hi, [])) {n : Int} (e : mi_f h c = n) : ab_nv (1, n, n, []) (ab_fld h c) := by
  obtain ⟨x, ex, -⟩ := ab_kd1 (ab_dflt_ok (ls := []) (L0 := []) (h0 := []) hS hd) rfl
  have e1 : mi_f h c = x.toInt := by
    unfold mi_f mx_i
    rw [ex]
  rw [ex]
  exact c4_in (by omega) (by omega)
theorem ww_rule_all {r w : Int32} (hSh : ab_Sh sx_sk h) (hJ : lj_J MR L xs h) : wb_Ends sc_P sc_PW 3 2003 0 (sm_entry 5 [.ref 51, .int r, .int w, .ref 171]) [] h (wr_Q L xs h r.toInt w.toInt) := by
  have b1 := r.le_toInt
  have b2 := r.toInt_lt
  have b3 := w.le_toInt
  have b4 := w.toInt_lt
  obtain ⟨c1, c2⟩ := hJ.1.2.2.2.2
  have f1 := me_fb (c := 6542) hSh rfl
  have f2 := me_fb (c := 13961) hSh rfl
  by_cases h0 : mi_f h 6542 = 0
  · have h1 : mi_f h 13959 = 0 := Decidable.byContradiction fun z => (c1.mpr z) h0
    refine ww_rule hSh hJ (we_of2 (M := (3, 2, sb_100)) (Q := fun _ _ => False) xo_r0 rfl hSh ⟨rfl, c4_in (by omega) (by omega), c4_in (by omega) (by omega), trivial⟩ (fun e he => ?_) rfl rfl (Nat.zero_le _)) (fun _ _ hf => hf.elim) (fun x h' ht => ⟨ht.2, Or.inl ⟨ht.1, ?_⟩⟩)
    · rw [List.mem_singleton.mp he]
      exact nv_fld hSh rfl h0
    · unfold ru_k
      rw [if_pos h1]
  have h1 : mi_f h 6542 = 1 := by omega
  have h2 : mi_f h 13959 ≠ 0 := c1.mp h0
  obtain ⟨c3, -⟩ := c2 h2
  by_cases r0 : r.toInt < 0
  · refine ww_rule hSh hJ (we_of2 (M := (3, 2, sb_100)) (Q := fun _ _ => False) xo_r1 rfl hSh ⟨rfl, c4_in (by omega) (by omega), c4_in (by omega) (by omega), trivial⟩ (fun e he => ?_) rfl rfl (Nat.zero_le _)) (fun _ _ hf => hf.elim) (fun x h' ht => ⟨ht.2, Or.inr (Or.inl ⟨ht.1, ?_⟩)⟩)
    · rw [List.mem_singleton.mp he]
      exact nv_fld hSh rfl h1
    · unfold ru_k
      rw [if_neg h2, if_pos (by omega)]
  have hpre : ∀ {m : Int}, mi_f h 7680 = m → ab_nvH [(6542, (1, 1, 1, [])), (7680, (1, m, m, []))] h := by
    intro m em e he
    simp only [List.mem_cons, List.not_mem_nil, or_false] at he
    rcases he with rfl | rfl
    · exact nv_fld (c := 6542) hSh rfl h1
    · exact nv_fld (c := 7680) hSh rfl em
  by_cases r1 : mi_f h 7680 ≤ r.toInt
  · obtain ⟨n, en⟩ : ∃ n : Nat, mi_f h 7680 = (n : Int) := ⟨(mi_f h 7680).toNat, by omega⟩
    have hn : n < 11 := by omega
    refine ww_rule hSh hJ (we_of2 (M := (3, 2, sb_100)) (Q := fun _ _ => False) (xo_rh hn) (show sc_P 100 = some (3, 2, sb_100) from rfl) hSh ⟨rfl, c4_in (by omega) (by omega), c4_in (by omega) (by omega), trivial⟩ (hpre en) rfl rfl (Nat.zero_le _)) (fun _ _ hf => hf.elim) (fun x h' ht => ⟨ht.2, Or.inr (Or.inl ⟨ht.1, ?_⟩)⟩)
    unfold ru_k
    rw [if_neg h2, if_pos (by omega)]
  have ek : ∀ {k : Int}, (¬ (0 ≤ w.toInt ∧ w.toInt ≤ 3) ∧ k = 3 ∨ (0 ≤ w.toInt ∧ w.toInt ≤ 3) ∧ k = 0) → ru_k h r.toInt w.toInt = k := by
    intro k hk
    unfold ru_k
    rw [if_neg h2, if_neg (by omega)]
    rcases hk with ⟨hk, rfl⟩ | ⟨hk, rfl⟩
    · rw [if_pos hk]
    · rw [if_neg (fun z => z hk)]
  obtain ⟨n, en⟩ : ∃ n : Nat, mi_f h 7680 = (n : Int) + 1 := ⟨(mi_f h 7680 - 1).toNat, by omega⟩
  have hn : n < 10 := by omega
  by_cases w0 : w.toInt < 0
  · exact ww_rule hSh hJ (we_of2 (M := (3, 2, sb_100)) (Q := fun _ _ => False) (xo_rl hn) (show sc_P 100 = some (3, 2, sb_100) from rfl) hSh ⟨rfl, c4_in (by omega) (by omega), c4_in (by omega) (by omega), trivial⟩ (hpre en) rfl rfl (Nat.zero_le _)) (fun _ _ hf => hf.elim) (fun x h' ht => ⟨ht.2, Or.inr (Or.inr ⟨ht.1, ek (Or.inl ⟨by omega, rfl⟩)⟩)⟩)
  by_cases w1 : 3 < w.toInt
  · exact ww_rule hSh hJ (we_of2 (M := (3, 2, sb_100)) (Q := fun _ _ => False) (xo_rg hn) (show sc_P 100 = some (3, 2, sb_100) from rfl) hSh ⟨rfl, c4_in (by omega) (by omega), c4_in (by omega) (by omega), trivial⟩ (hpre en) rfl rfl (Nat.zero_le _)) (fun _ _ hf => hf.elim) (fun x h' ht => ⟨ht.2, Or.inr (Or.inr ⟨ht.1, ek (Or.inl ⟨by omega, rfl⟩)⟩)⟩)
  have em : ([.inr (.inr 51), .inl r.toInt, .inl w.toInt] : List mi_V).map mi_c = [.ref 51, .int r, .int w] := by
    simp only [List.map, mi_cT]
    rfl
  refine ww_rule (QT := fun _ _ => False) hSh hJ (Or.inl (me_run (M := (3, 2, sb_100)) em (me_rulec (d := 0) hSh (mi_inT r) (mi_inT w) h0 (by omega) (by omega) (by omega) (by omega) (by omega)))) (fun v h' hw => ?_) (fun _ _ hf => hf.elim)
  obtain ⟨u, rfl, -, rfl, -, f⟩ := hw
  exact ⟨me_nil f, ek (Or.inr ⟨⟨by omega, by omega⟩, rfl⟩), rfl⟩
theorem me_thrown {d : Nat} (hS : ab_Sh sx_sk h) : me_E d 170 0 [some (.inr (.inr 109))] [] h (fun w h' => w = some (.inl (mi_f h 13952)) ∧ ab_Sh sx_sk h' ∧ ab_Fr [] h h') := mt_thA (d := d) hS (fun _ s f => ⟨rfl, s, f⟩)
theorem ru_k4 (h : sm_H) (r w : Int) : ru_k h r w = 0 ∨ ru_k h r w = 1 ∨ ru_k h r w = 2 ∨ ru_k h r w = 3 := by
  unfold ru_k
  split
  · exact Or.inr (Or.inl rfl)
  · split
    · exact Or.inr (Or.inr (Or.inl rfl))
    · split
      · exact Or.inr (Or.inr (Or.inr rfl))
      · exact Or.inl rfl
set_option maxRecDepth 20000 in
set_option maxHeartbeats 2000000 in
theorem c6_4 {x : Int32} {a b c : Option Value} {h : sm_H} {C S : Nat} (hL : L ≤ 2048) (hx : 0 ≤ x.toInt ∧ x.toInt + 4 ≤ (L : Int)) (hSh : ab_Sh sx_sk h) (hJ : lj_J MR L xs h) (hC : h.length + 1 ≤ C) (hS : sm_sl h + 6 ≤ S)
    (kk : ∀ (a b c : Option Value) (h' : sm_H), ab_Sh sx_sk h' → lj_J MR L xs h' → h'.length ≤ C → sm_sl h' ≤ S → lb_Ends sc_P sc_PW sl_tab 300 601 (xl_ls x a b c) [] h' QL) : lb_Ends sc_P sc_PW sl_tab 300 223 (xl_ls x a b c) [] h QL := by
  have e1 := lj_add (c := 1) (by decide) hx hL
  have e1a : 0 ≤ (x + Int32.ofInt 1).toInt := by omega
  have e1b : (x + Int32.ofInt 1).toInt < (L : Int) := by omega
  obtain ⟨p1, hp1⟩ : ∃ p, xs (x + Int32.ofInt 1).toNatClampNeg = p := ⟨_, rfl⟩
  have e2 := lj_add (c := 2) (by decide) hx hL
  have e2a : 0 ≤ (x + Int32.ofInt 2).toInt := by omega
  have e2b : (x + Int32.ofInt 2).toInt < (L : Int) := by omega
  obtain ⟨p2, hp2⟩ : ∃ p, xs (x + Int32.ofInt 2).toNatClampNeg = p := ⟨_, rfl⟩
  refine lb_Ends.step (q := (.aload_n 1, 1, [])) rfl rfl ?_
  refine lb_Ends.step (q := (.aload_n 0, 1, [])) rfl rfl ?_
  refine lb_Ends.step (q := (.iload 4, 2, [])) rfl rfl ?_
  refine lb_Ends.step (q := (.iconst 1, 1, [])) rfl rfl ?_
  refine lb_Ends.step (q := (.iadd, 1, [])) rfl rfl ?_
  refine lb_Ends.step (q := (.iaload, 1, [])) rfl (lj_load (i := x + Int32.ofInt 1) hJ ⟨e1a, e1b⟩) ?_
  rw [hp1]
  refine lb_Ends.step (q := (.aload_n 0, 1, [])) rfl rfl ?_
  refine lb_Ends.step (q := (.iload 4, 2, [])) rfl rfl ?_
  refine lb_Ends.step (q := (.iconst 2, 1, [])) rfl rfl ?_
  refine lb_Ends.step (q := (.iadd, 1, [])) rfl rfl ?_
  refine lb_Ends.step (q := (.iaload, 1, [])) rfl (lj_load (i := x + Int32.ofInt 2) hJ ⟨e2a, e2b⟩) ?_
  rw [hp2]
  refine lb_Ends.step (q := (.aload_n 3, 1, [])) rfl rfl ?_
  refine lb_Ends.callW (q := (.invokestatic 80, 3, [0, 2003, 4])) (M := ((5, 1, sw_3), sw_h3)) rfl rfl rfl (by decide : (sm_slots [Value.ref 51, .int 0, .int 0, .ref 171]).length ≤ 5) (by simp) ((ww_rule_all (r := p1) (w := p2) hSh hJ).deep (by decide)) (fun v h1 hq => ?_)
  obtain ⟨rfl, g1, g2, g3, g4, g5⟩ := hq
  refine lb_Ends.step (q := (.istore 5, 2, [])) (ls' := xl_ls x (some (.int (Int32.ofInt (ru_k h1 p1.toInt p2.toInt)))) b c) rfl rfl ?_
  refine lb_Ends.step (q := (.aload_n 2, 1, [])) rfl rfl ?_
  refine lb_Ends.step (q := (.aload_n 0, 1, [])) rfl rfl ?_
  refine lb_Ends.step (q := (.iload 4, 2, [])) rfl rfl ?_
  refine lb_Ends.step (q := (.iconst 1, 1, [])) rfl rfl ?_
  refine lb_Ends.step (q := (.iadd, 1, [])) rfl rfl ?_
  refine lb_Ends.step (q := (.iaload, 1, [])) rfl (lj_load (i := x + Int32.ofInt 1) g2 ⟨e1a, e1b⟩) ?_
  rw [hp1]
  refine lb_Ends.step (q := (.aload_n 0, 1, [])) rfl rfl ?_
  refine lb_Ends.step (q := (.iload 4, 2, [])) rfl rfl ?_
  refine lb_Ends.step (q := (.iconst 2, 1, [])) rfl rfl ?_
  refine lb_Ends.step (q := (.iadd, 1, [])) rfl rfl ?_
  refine lb_Ends.step (q := (.iaload, 1, [])) rfl (lj_load (i := x + Int32.ofInt 2) g2 ⟨e2a, e2b⟩) ?_
  rw [hp2]
  have em : ([.inr (.inr 109), .inl p1.toInt, .inl p2.toInt] : List mi_V).map mi_c = [.ref 109, .int p1, .int p2] := by
    simp only [List.map, mi_cT]
    rfl
  refine lb_Ends.callP (q := (.invokevirtual 83, 3, [0, 2, 11, 204])) (M' := (4, 2, sb_204)) rfl (c3_virt g1 rfl) rfl rfl (by decide : (sm_slots [Value.ref 109, .int 0, .int 0]).length ≤ 4) (by simp) ((me_run (M := (4, 2, sb_204)) em (me_ruler (d := 0) g1 (mi_inT p1) (mi_inT p2) g2.1.2.2.2.2)).deep (by decide)) (fun v h2 hq => ?_)
  obtain ⟨u, rfl, -, m1, m2, m3, y, rfl, m4⟩ := hq
  have g6 := lq_fr (wr := [(13952, 13953)]) g2 (by decide) m2
  refine lb_Ends.step (q := (.lstore 6, 2, [])) (ls' := xl_ls x (some (.int (Int32.ofInt (ru_k h1 p1.toInt p2.toInt)))) (some (.long y)) none) rfl rfl ?_
  refine lb_Ends.step (q := (.aload_n 2, 1, [])) rfl rfl ?_
  refine lb_Ends.callP (q := (.invokevirtual 84, 3, [0, 0, 11, 170])) (M' := (1, 1, sb_170)) rfl (c3_virt m1 rfl) rfl rfl (by decide) (by simp) ((me_run (M := (1, 1, sb_170)) (as := [.inr (.inr 109)]) rfl (me_thrown (d := 0) m1)).deep (by decide)) (fun v h3 hq => ?_)
  obtain ⟨u, rfl, -, rfl, -, f⟩ := hq
  have e3 : h3 = h2 := me_nil f
  subst e3
  rw [m3]
  obtain ⟨n, hn⟩ : ∃ n, Int32.ofInt (ru_k h1 p1.toInt p2.toInt) = n := ⟨_, rfl⟩
  have hfin : lb_Ends sc_P sc_PW sl_tab 300 287 (xl_ls x (some (.int n)) (some (.long y)) none) [] h3 QL := by
    refine lb_Ends.step (q := (.goto 314, 3, [])) rfl rfl ?_
    exact kk _ _ _ h3 m1 g6 (by rw [m2.1]; omega) (by rw [m2.2.1]; omega)
  show lb_Ends sc_P sc_PW sl_tab 300 264 (xl_ls x (some (.int (Int32.ofInt (ru_k h1 p1.toInt p2.toInt)))) (some (.long y)) none) [.int (Int32.ofInt (ru_k h1 p1.toInt p2.toInt))] h3 QL
  rw [hn]
  refine lb_Ends.step (q := (.iload 5, 2, [])) rfl rfl ?_
  refine lb_Ends.step (q := (.if_icmp .eq 5, 3, [])) (pc' := 271) (ls' := xl_ls x (some (.int n)) (some (.long y)) none) (st' := []) (h' := h3) rfl ?_ ?_
  · simp only [sm_step, sm_back, sm_if, sm_cmp, decide_true, if_true]
    rfl
  refine lb_Ends.step (q := (.iload 5, 2, [])) rfl rfl ?_
  by_cases h0 : ru_k h1 p1.toInt p2.toInt = 0
  · rw [h0] at hn
    subst hn
    refine lb_Ends.step (q := (.ifCond .ne 14, 3, [])) rfl rfl ?_
    obtain ⟨f, f1, f2⟩ := g5 h0
    have g7 := lj_cell m2 f1 (by decide)
    have ey := m4 h0
    refine lb_Ends.step (q := (.aload_n 3, 1, [])) rfl rfl ?_
    refine lb_Ends.step (q := (.iconst 0, 1, [])) rfl rfl ?_
    refine lb_Ends.step (q := (.laload, 1, [])) (pc' := 279) (ls' := xl_ls x (some (.int (Int32.ofInt 0))) (some (.long y)) none) (st' := [.long y]) (h' := h3) rfl ?_ ?_
    · simp only [sm_step, sm_aldL]
      rw [g7]
      dsimp only
      rw [if_pos ⟨rfl, by decide, by decide⟩]
      show some (Sum.inl (279, _, [Value.long (f 0)], h3)) = _
      rw [f2, ey]
    refine lb_Ends.step (q := (.lload 6, 2, [])) rfl rfl ?_
    refine lb_Ends.step (q := (.lcmp, 1, [])) rfl rfl ?_
    have ec : lg_cmp y y = 0 := by
      unfold lg_cmp
      rw [if_neg (by rw [gt_iff_lt, Int64.lt_iff_toInt_lt]; omega), if_pos rfl]
    rw [ec]
    refine lb_Ends.step (q := (.ifCond .eq 5, 3, [])) rfl rfl ?_
    exact hfin
  · refine lb_Ends.step (q := (.ifCond .ne 14, 3, [])) (pc' := 287) (ls' := xl_ls x (some (.int n)) (some (.long y)) none) (st' := []) (h' := h3) rfl ?_ hfin
    have hz : sm_cmp .ne n 0 = true := by
      rw [← hn]
      rcases ru_k4 h1 p1.toInt p2.toInt with z | z | z | z
      · exact absurd z h0
      · rw [z]; rfl
      · rw [z]; rfl
      · rw [z]; rfl
    show sm_if (sm_cmp .ne n 0) 273 14 _ _ h3 = _
    rw [hz]
    rfl
end RW
