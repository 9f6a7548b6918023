/-! the law's case 6: grow -/
/-- the outcome: what is thrown (0: nothing), how many nodes -/
def g8_O (b : Prop) (g : wk_g) (kw : Int → Bool) (zx : Int64) (zf k y : Int) : Prop := (k = 1 ∧ (zf < 0 ∨ 20 < zf)) ∨ (k = 2 ∧ (0 ≤ zf ∧ zf ≤ 20) ∧ ¬ b) ∨ (k = 3 ∧ (0 ≤ zf ∧ zf ≤ 20) ∧ b ∧ gm_NO g kw (gc_0 g zx zf)) ∨ (k = 0 ∧ (0 ≤ zf ∧ zf ≤ 20) ∧ b ∧ ∃ s', gm_RO g kw (gc_0 g zx zf) ([], s') ∧ y = ((gm_T s').length : Int))
section G8A
variable {g g' : wk_g} {kw : Int → Bool}
theorem g8_at {n : Nat} {s : gm_S} {c : gm_C} (h : gm_to g kw n ([], s) c) : c = ([], s) := by
  cases n with
  | zero =>
    have h : ([], s) = c := h
    exact h.symm
  | succ n =>
    obtain ⟨e, r, c1, h1, -⟩ := h
    have h1 : ([] : List wk_E) = e :: r := h1
    cases h1
theorem g8_det {m : Option gm_C} {s t : gm_S} (a : gm_RO g kw m ([], s)) (b : gm_RO g kw m ([], t)) : s = t := by
  obtain ⟨c1, n1, e1, a⟩ := a
  obtain ⟨c2, n2, e2, b⟩ := b
  have e : c2 = c1 := Option.some.inj (e2.symm.trans e1)
  subst e
  rcases Nat.le_total n1 n2 with l | l
  · exact (congrArg Prod.snd (g8_at (gm_det n1 n2 _ a b l))).symm
  · exact congrArg Prod.snd (g8_at (gm_det n2 n1 _ b a l))
theorem g8_not {m : Option gm_C} {s : gm_S} (a : gm_RO g kw m ([], s)) (b : gm_NO g kw m) : False := by
  obtain ⟨c1, n1, e1, a⟩ := a
  rcases b with b | ⟨c2, n2, e2, b⟩
  · rw [e1] at b; cases b
  · have e : c2 = c1 := Option.some.inj (e2.symm.trans e1)
    subst e
    obtain ⟨-, k⟩ := gm_detn n1 n2 _ a b
    generalize n2 - n1 = j at k
    cases j with
    | zero =>
      obtain ⟨e, r, h1, -⟩ := k
      have h1 : ([] : List wk_E) = e :: r := h1
      cases h1
    | succ j =>
      obtain ⟨e, r, c1, h1, -⟩ := k
      have h1 : ([] : List wk_E) = e :: r := h1
      cases h1
theorem g8_one {b : Prop} {zx : Int64} {zf k y k' y' : Int} (p : g8_O b g kw zx zf k y) (q : g8_O b g kw zx zf k' y') : k = k' ∧ (k = 0 → y = y') := by
  unfold g8_O at p q
  rcases p with ⟨p0, p⟩ | ⟨p0, p1, p2⟩ | ⟨p0, p1, p2, p3⟩ | ⟨p0, p1, p2, s, p3, p4⟩
  · rcases q with ⟨q0, q⟩ | ⟨q0, q1, q2⟩ | ⟨q0, q1, q2, q3⟩ | ⟨q0, q1, q2, t, q3, q4⟩
    · exact ⟨by omega, fun c => by omega⟩
    · exfalso; omega
    · exfalso; omega
    · exfalso; omega
  · rcases q with ⟨q0, q⟩ | ⟨q0, q1, q2⟩ | ⟨q0, q1, q2, q3⟩ | ⟨q0, q1, q2, t, q3, q4⟩
    · exfalso; omega
    · exact ⟨by omega, fun c => by omega⟩
    · exact absurd q2 p2
    · exact absurd q2 p2
  · rcases q with ⟨q0, q⟩ | ⟨q0, q1, q2⟩ | ⟨q0, q1, q2, q3⟩ | ⟨q0, q1, q2, t, q3, q4⟩
    · exfalso; omega
    · exact absurd p2 q2
    · exact ⟨by omega, fun c => by omega⟩
    · exact (g8_not q3 p3).elim
  · rcases q with ⟨q0, q⟩ | ⟨q0, q1, q2⟩ | ⟨q0, q1, q2, q3⟩ | ⟨q0, q1, q2, t, q3, q4⟩
    · exfalso; omega
    · exact absurd p2 q2
    · exact (g8_not p3 q3).elim
    · exact ⟨by omega, fun _ => by rw [p4, q4, g8_det p3 q3]⟩
theorem gc_0_eq (g : wk_g) (zx : Int64) (zf : Int) : gc_0 g zx zf = some (gr_c0 g zx zf) := rfl
theorem gr_c0_g (hg : wk_gc g g') (zx : Int64) (zf : Int) : gr_c0 g' zx zf = gr_c0 g zx zf := by
  unfold gr_c0
  rw [hg 114 (by decide)]
theorem g8_O_g {b b' : Prop} {kw' : Int → Bool} {zx : Int64} {zf k y : Int} (hg : wk_gc g g') (h3 : ∀ i, g' 143 i = g 143 i) (hk : kw' = kw) (hb : b' ↔ b) (p : g8_O b' g' kw' zx zf k y) : g8_O b g kw zx zf k y := by
  subst hk
  unfold g8_O at p ⊢
  simp only [gc_0_eq] at p ⊢
  rcases p with p | ⟨p0, p1, p2⟩ | ⟨p0, p1, p2, p3⟩ | ⟨p0, p1, p2, s, p3, p4⟩
  · exact Or.inl p
  · exact Or.inr (Or.inl ⟨p0, p1, fun c => p2 (hb.mpr c)⟩)
  · refine Or.inr (Or.inr (Or.inl ⟨p0, p1, hb.mp p2, ?_⟩))
    rcases p3 with p3 | ⟨c1, n, e, p3⟩
    · cases p3
    · have e := Option.some.inj e
      subst e
      rw [gr_c0_g hg] at p3
      exact Or.inr ⟨_, n, rfl, gm_no_g hg h3 _ _ p3⟩
  · refine Or.inr (Or.inr (Or.inr ⟨p0, p1, hb.mp p2, s, ?_, p4⟩))
    obtain ⟨c1, n, e, p3⟩ := p3
    have e := Option.some.inj e
    subst e
    rw [gr_c0_g hg] at p3
    exact ⟨_, n, rfl, gm_to_g hg h3 _ _ p3⟩
end G8A
/-- what the law's grow keeps -/
def r8_same (h h' : sm_H) : Prop := (∀ k, k ∈ r8_kc → h'[k]? = h[k]?) ∧ ∀ c, c ∈ r8_fc → ab_fld h' c = ab_fld h c
section G8B
variable {L : Nat} {xs : Nat → Int32} {QL : sm_H → Prop} {h h' h'' : sm_H} {wr : List (Nat × Nat)}
theorem r8_same_fr (hS : ab_Sh sx_sk h) (hF : ab_Fr wr h h') (hw : rc_no wr = true) : r8_same h h' := by
  unfold rc_no at hw
  rw [Bool.and_eq_true] at hw
  have w1 : ∀ k, k ∈ r8_kc → ab_in wr (k * 128) = false := fun k hk => by have := List.all_eq_true.mp hw.1 k hk; simpa using this
  have w2 : ∀ c, c ∈ r8_fc → ab_in wr c = false := fun c hc => by have := List.all_eq_true.mp hw.2 c hc; simpa using this
  exact ⟨fun k hk => me_arr hF hS (r8_AF.1 k hk) (w1 k hk), fun c hc => me_fld hS hF (r8_AF.2 c hc) (w2 c hc)⟩
theorem r8_same.trans (a : r8_same h h') (b : r8_same h' h'') : r8_same h h'' := ⟨fun k hk => (b.1 k hk).trans (a.1 k hk), fun c hc => (b.2 c hc).trans (a.2 c hc)⟩
theorem r8_same_app {e : sm_E} (hl : 172 ≤ h.length) : r8_same h (h ++ [e]) := by
  have hk : ∀ k, k < 172 → (h ++ [e])[k]? = h[k]? := fun k hk => List.getElem?_append_left (by omega)
  have l2 : ∀ k, k ∈ r8_kc → k < 172 := by decide
  have l3 : ∀ c, c ∈ r8_fc → c / 128 < 172 := by decide
  exact ⟨fun k hk2 => hk k (l2 k hk2), fun c hc => by unfold ab_fld; rw [hk _ (l3 c hc)]⟩
theorem r8_same_g (s : r8_same h h') : wk_gc (mi_a h) (mi_a h') ∧ (∀ i, mi_a h' 143 i = mi_a h 143 i) ∧ gx_k h' = gx_k h ∧ mi_f h' 6543 = mi_f h 6543 ∧ mi_f h' 13959 = mi_f h 13959 := by
  have a : ∀ k, k ∈ r8_kc → mi_a h' k = mi_a h k := fun k hk => funext fun i => by
    unfold mi_a mx_a
    rw [s.1 k hk]
  have b : mx_b h' 118 = mx_b h 118 := funext fun i => by
    unfold mx_b
    rw [s.1 118 (by decide)]
  have fe : ∀ c, c ∈ r8_fc → mi_f h' c = mi_f h c := fun c hc => by
    unfold mi_f mx_i
    rw [s.2 c hc]
  have hsub : ∀ k, k ∈ wk_gk → k ∈ r8_kc := by decide
  refine ⟨fun k hk i => by rw [a k (hsub k hk)], fun i => by rw [a 143 (by decide)], ?_, fe 6543 (by decide), fe 13959 (by decide)⟩
  unfold gx_k
  rw [b, fe 13962 (by decide)]
/-- what the wrapper of grow leaves -/
def wg_Q (L : Nat) (xs : Nat → Int32) (h : sm_H) (zx : Int64) (zf : Int) (v : Option Value) (h' : sm_H) : Prop := ∃ k y, v = some (.int (Int32.ofInt k)) ∧ (k = 0 ∨ k = 1 ∨ k = 2 ∨ k = 3) ∧ g8_O (mi_f h 6543 ≠ 0) (mi_a h) (gx_k h) zx zf k y ∧ ab_Sh sx_sk h' ∧ lj_J M8 L xs h' ∧ h'.length ≤ h.length + 1 ∧ sm_sl h' ≤ sm_sl h + 6 ∧ r8_same h h' ∧ (k = 0 → ∃ f, h'[171]? = some (.inl (1, 1, .inr (.inl f))) ∧ f 0 = (Int32.ofInt y).toInt64)
theorem wg_thr {zx : Int64} {zf k : Int} {x : Nat} {g : sm_H} (hSh : ab_Sh sx_sk h) (hJ : lj_J M8 L xs h) (s : ab_Sh sx_sk g) (F : ab_Fr gc_W h g) (hk : k = 1 ∨ k = 2 ∨ k = 3) (ho : g8_O (mi_f h 6543 ≠ 0) (mi_a h) (gx_k h) zx zf k 0) : wg_Q L xs h zx zf (some (.int (Int32.ofInt k))) (g ++ [sm_exc x]) := by
  have j1 := l8_fr (wr := gc_W) hJ (by decide) F
  have g1 : 172 ≤ g.length := j1.2.1
  have g2 := xs_len
  exact ⟨k, 0, rfl, Or.inr hk, ho, lj_app (by omega) s, lh_0.mp (lh_app (lh_0.mpr j1)), by rw [List.length_append, F.1]; exact Nat.le_refl _, by rw [sm_sl_app, F.2.1]; exact Nat.le_refl _, (r8_same_fr hSh F (by decide)).trans (r8_same_app g1), fun z => by omega⟩
set_option maxRecDepth 20000 in
theorem ww_seg5 (h : sm_H) (r : Int32) (x p : Value) (e : Option Value) : mo_path sw_5 sx_sk h 4 [] 9 [some (.ref 51), some x, none, some p, some (.ref 171), e] [.int r, .int (Int32.ofInt 0), .ref 171] [] = some (27, [some (.ref 51), some x, none, some p, some (.ref 171), e], [.int (Int32.ofInt 0)], [.inr (.inr (171, Int32.toNatClampNeg (Int32.ofInt 0), r.toInt64))], [0 ≤ (Int32.ofInt 0).toInt ∧ (Int32.ofInt 0).toInt < ((1 : Nat) : Int), (-9223372036854775808) ≤ r.toInt64.toInt ∧ r.toInt64.toInt ≤ 9223372036854775807]) := rfl
theorem wg_run {zx : Int64} {f : Int32} (hSh : ab_Sh sx_sk h) (hc : r8_c h) : ab_EndsX sc_P (gc_T h zx f.toInt) 245 158 0 (sm_entry 4 [.ref 51, .long zx, .int f]) [] h (fun v h' => ∃ w, v = w.map mi_c ∧ (∀ x, w = some x → mi_ok x) ∧ gc_Q h zx f.toInt w h') := by
  have k := me_growc (zx := zx) (zf := f.toInt) hSh (mi_inT f) (fun c => hc.2.1 (hc.1.mp c))
  have em : ([.inr (.inr 51), .inr (.inl zx), .inl f.toInt] : List mi_V).map mi_c = [.ref 51, .long zx, .int f] := by
    simp only [List.map, mi_cT]
    rfl
  rw [← em, mi_entry_eq]
  exact k
set_option maxRecDepth 20000 in
theorem ww_grow {zx : Int64} {f : Int32} (hSh : ab_Sh sx_sk h) (hJ : lj_J M8 L xs h) : wb_Ends sc_P sc_PW 246 2005 0 (sm_entry 6 [.ref 51, .long zx, .int f, .ref 171]) [] h (wg_Q L xs h zx f.toInt) := by
  have hM : sc_PW 2005 = some ((6, 1, sw_5), sw_h5) := rfl
  have hc : r8_c h := hJ.1.2.2.2.2
  refine wb_Ends.step hM (q := (.aload 4, 2, [])) rfl rfl ?_
  refine wb_Ends.step hM (q := (.iconst 0, 1, [])) rfl rfl ?_
  refine wb_Ends.step hM (q := (.aload_n 0, 1, [])) rfl rfl ?_
  refine wb_Ends.step hM (q := (.lload_n 1, 1, [])) rfl rfl ?_
  refine wb_Ends.step hM (q := (.iload_n 3, 1, [])) rfl rfl ?_
  refine wb_Ends.call (q := (.invokevirtual 36, 3, [0, 2, 0, 158])) (M' := (4, 1, sb_158)) (m' := 158) (as := [.ref 51, .long zx, .int f]) (r := [.int (Int32.ofInt 0), .ref 171]) hM rfl (c3_own hSh rfl) rfl (by decide : (sm_slots [Value.ref 51, .long 0, .int 0]).length ≤ 4) (by simp [Value.category]) (wg_run hSh hc) (fun v h1 hq => ?_) (fun x h1 ht => ?_)
  · obtain ⟨w, rfl, -, s1, F, z, b, s', ro, rfl, -⟩ := hq
    refine ww_end hM (ww_seg5 h1 _ _ _ _) rfl s1 (fun hS2 => ?_)
    have j1 := l8_fr (wr := gc_W) hJ (by decide) F
    obtain ⟨o1, o2, o3, o4⟩ := ww_out (h := h) s1 hS2 (lh_0.mpr j1) F.1 F.2.1
    obtain ⟨fo, hfo⟩ := c2_out s1
    exact ⟨0, _, rfl, Or.inl rfl, Or.inr (Or.inr (Or.inr ⟨rfl, z, b, s', ro, rfl⟩)), hS2, lh_0.mp o1, o2, o3, (r8_same_fr hSh F (by decide)).trans (r8_same_fr s1 (c2_Fr hfo).1 (by decide)), fun _ => o4⟩
  · obtain ⟨g, rfl, s1, F, hx⟩ := ht
    rcases hx with ⟨rfl, z⟩ | ⟨rfl, z, b⟩ | ⟨rfl, z, b, no⟩
    · refine ⟨14, rfl, ?_⟩
      refine wb_Ends.step hM (q := (.astore 5, 2, [])) rfl rfl ?_
      refine wb_Ends.step hM (q := (.iconst 1, 1, [])) rfl rfl ?_
      exact wb_Ends.ret (q := (.ireturn, 1, [])) (v := some (.int (Int32.ofInt 1))) hM rfl rfl rfl (wg_thr hSh hJ s1 F (Or.inl rfl) (Or.inl ⟨rfl, z⟩))
    · refine ⟨18, rfl, ?_⟩
      refine wb_Ends.step hM (q := (.astore 5, 2, [])) rfl rfl ?_
      refine wb_Ends.step hM (q := (.iconst 2, 1, [])) rfl rfl ?_
      exact wb_Ends.ret (q := (.ireturn, 1, [])) (v := some (.int (Int32.ofInt 2))) hM rfl rfl rfl (wg_thr hSh hJ s1 F (Or.inr (Or.inl rfl)) (Or.inr (Or.inl ⟨rfl, z, fun c => c b⟩)))
    · refine ⟨22, rfl, ?_⟩
      refine wb_Ends.step hM (q := (.astore 5, 2, [])) rfl rfl ?_
      refine wb_Ends.step hM (q := (.iconst 3, 1, [])) rfl rfl ?_
      exact wb_Ends.ret (q := (.ireturn, 1, [])) (v := some (.int (Int32.ofInt 3))) hM rfl rfl rfl (wg_thr hSh hJ s1 F (Or.inr (Or.inr rfl)) (Or.inr (Or.inr (Or.inl ⟨rfl, z, b, no⟩))))
theorem me_thrown {d : Nat} (hS : ab_Sh sx_sk h) : me_E d 170 0 [some (.inr (.inr 109))] [] h (fun w h' => w = some (.inl (mi_f h 13952)) ∧ ab_Sh sx_sk h' ∧ ab_Fr [] h h') := mt_thA (d := d) hS (fun _ s f => ⟨rfl, s, f⟩)
/-- the reference's outcome -/
theorem g8_ref {zx : Int64} {zf z : Int} (b : mi_f h 13959 ≤ 2) (hX : gr_X h zx zf (some (.inl z)) h') : g8_O (mi_f h 13959 = 2) (mi_a h) (gx_k h) zx zf (mi_f h' 13952) z := by
  obtain ⟨x1, x2, x3⟩ := hX
  by_cases c1 : zf < 0 ∨ 20 < zf
  · exact Or.inl ⟨x1 c1, c1⟩
  have c2 : 0 ≤ zf ∧ zf ≤ 20 := ⟨by omega, by omega⟩
  by_cases c3 : mi_f h 13959 = 2
  · rcases x3 c2.1 c2.2 (by omega) with ⟨⟨n, hn⟩, e⟩ | ⟨n, s, hn, e, ew, -⟩
    · exact Or.inr (Or.inr (Or.inl ⟨e, c2, c3, Or.inr ⟨_, n, gc_0_eq _ _ _, hn⟩⟩))
    · have ez : z = ((gm_T s).length : Int) := by
        injection ew with q
        injection q with q
      exact Or.inr (Or.inr (Or.inr ⟨e, c2, c3, s, ⟨_, n, gc_0_eq _ _ _, hn⟩, ez⟩))
  · exact Or.inr (Or.inl ⟨x2 c2.1 c2.2 (by omega), c2, c3⟩)
/-- the long of two ints -/
def l8_x (p q : Int32) : Int64 := (p.toInt64 <<< ((Int8.ofInt 32).toInt32.toInt64 &&& 63)) ||| (q.toInt64 &&& Int64.ofNat 4294967295)
set_option maxRecDepth 20000 in
set_option maxHeartbeats 2000000 in
theorem c6_6 {x : Int32} {a b c : Option Value} {h : sm_H} {C S : Nat} (hL : L ≤ 2048) (hx : 0 ≤ x.toInt ∧ x.toInt + 4 ≤ (L : Int)) (hSh : ab_Sh sx_sk h) (hJ : lj_J M8 L xs h) (hC : h.length + 1 ≤ C) (hS : sm_sl h + 6 ≤ S)
    (kk : ∀ (a b c : Option Value) (h' : sm_H), ab_Sh sx_sk h' → lj_J M8 L xs h' → h'.length ≤ C → sm_sl h' ≤ S → lb_Ends sc_P sc_PW sl_tab 300 602 (xl_ls x a b c) [] h' QL) : lb_Ends sc_P sc_PW sl_tab 300 279 (xl_ls x a b c) [] h QL := by
  have e1 := lj_add (c := 1) (by decide) hx hL
  have e1a : 0 ≤ (x + Int32.ofInt 1).toInt := by omega
  have e1b : (x + Int32.ofInt 1).toInt < (L : Int) := by omega
  obtain ⟨p1, hp1⟩ : ∃ p, xs (x + Int32.ofInt 1).toNatClampNeg = p := ⟨_, rfl⟩
  have e2 := lj_add (c := 2) (by decide) hx hL
  have e2a : 0 ≤ (x + Int32.ofInt 2).toInt := by omega
  have e2b : (x + Int32.ofInt 2).toInt < (L : Int) := by omega
  obtain ⟨p2, hp2⟩ : ∃ p, xs (x + Int32.ofInt 2).toNatClampNeg = p := ⟨_, rfl⟩
  have e3 := lj_add (c := 3) (by decide) hx hL
  have e3a : 0 ≤ (x + Int32.ofInt 3).toInt := by omega
  have e3b : (x + Int32.ofInt 3).toInt < (L : Int) := by omega
  obtain ⟨p3, hp3⟩ : ∃ p, xs (x + Int32.ofInt 3).toNatClampNeg = p := ⟨_, rfl⟩
  obtain ⟨zx, hzx⟩ : ∃ z, l8_x p1 p2 = z := ⟨_, rfl⟩
  refine lb_Ends.step (q := (.aload_n 1, 1, [])) rfl rfl ?_
  refine lb_Ends.step (q := (.aload_n 0, 1, [])) rfl rfl ?_
  refine lb_Ends.step (q := (.iload 4, 2, [])) rfl rfl ?_
  refine lb_Ends.step (q := (.iconst 1, 1, [])) rfl rfl ?_
  refine lb_Ends.step (q := (.iadd, 1, [])) rfl rfl ?_
  refine lb_Ends.step (q := (.iaload, 1, [])) rfl (lj_load (i := x + Int32.ofInt 1) hJ ⟨e1a, e1b⟩) ?_
  rw [hp1]
  refine lb_Ends.step (q := (.i2l, 1, [])) rfl rfl ?_
  refine lb_Ends.step (q := (.bipush 32, 2, [])) rfl rfl ?_
  refine lb_Ends.step (q := (.lshl, 1, [])) rfl rfl ?_
  refine lb_Ends.step (q := (.aload_n 0, 1, [])) rfl rfl ?_
  refine lb_Ends.step (q := (.iload 4, 2, [])) rfl rfl ?_
  refine lb_Ends.step (q := (.iconst 2, 1, [])) rfl rfl ?_
  refine lb_Ends.step (q := (.iadd, 1, [])) rfl rfl ?_
  refine lb_Ends.step (q := (.iaload, 1, [])) rfl (lj_load (i := x + Int32.ofInt 2) hJ ⟨e2a, e2b⟩) ?_
  rw [hp2]
  refine lb_Ends.step (q := (.i2l, 1, [])) rfl rfl ?_
  refine lb_Ends.step (q := (.ldc2_w 88, 3, [4294967295])) rfl rfl ?_
  refine lb_Ends.step (q := (.land, 1, [])) rfl rfl ?_
  refine lb_Ends.step (q := (.lor, 1, [])) (pc' := 302) (ls' := xl_ls x a b c) (st' := [.long (l8_x p1 p2), .ref 51]) (h' := h) rfl rfl ?_
  rw [hzx]
  refine lb_Ends.step (q := (.aload_n 0, 1, [])) rfl rfl ?_
  refine lb_Ends.step (q := (.iload 4, 2, [])) rfl rfl ?_
  refine lb_Ends.step (q := (.iconst 3, 1, [])) rfl rfl ?_
  refine lb_Ends.step (q := (.iadd, 1, [])) rfl rfl ?_
  refine lb_Ends.step (q := (.iaload, 1, [])) rfl (lj_load (i := x + Int32.ofInt 3) hJ ⟨e3a, e3b⟩) ?_
  rw [hp3]
  refine lb_Ends.step (q := (.aload_n 3, 1, [])) rfl rfl ?_
  refine lb_Ends.callW (q := (.invokestatic 90, 3, [0, 2005, 4])) (M := ((6, 1, sw_5), sw_h5)) (as := [.ref 51, .long zx, .int p3, .ref 171]) rfl rfl rfl (by decide : (sm_slots [Value.ref 51, .long 0, .int 0, .ref 171]).length ≤ 6) (by simp) ((ww_grow (zx := zx) (f := p3) hSh hJ).deep (by decide)) (fun v h1 hq => ?_)
  obtain ⟨k, y, rfl, hk4, hO, g1, g2, g3, g4, g5, g6⟩ := hq
  refine lb_Ends.step (q := (.istore 5, 2, [])) (ls' := xl_ls x (some (.int (Int32.ofInt k))) b c) rfl rfl ?_
  refine lb_Ends.step (q := (.aload_n 2, 1, [])) rfl rfl ?_
  refine lb_Ends.step (q := (.aload_n 0, 1, [])) rfl rfl ?_
  refine lb_Ends.step (q := (.iload 4, 2, [])) rfl rfl ?_
  refine lb_Ends.step (q := (.iconst 1, 1, [])) rfl rfl ?_
  refine lb_Ends.step (q := (.iadd, 1, [])) rfl rfl ?_
  refine lb_Ends.step (q := (.iaload, 1, [])) rfl (lj_load (i := x + Int32.ofInt 1) g2 ⟨e1a, e1b⟩) ?_
  rw [hp1]
  refine lb_Ends.step (q := (.i2l, 1, [])) rfl rfl ?_
  refine lb_Ends.step (q := (.bipush 32, 2, [])) rfl rfl ?_
  refine lb_Ends.step (q := (.lshl, 1, [])) rfl rfl ?_
  refine lb_Ends.step (q := (.aload_n 0, 1, [])) rfl rfl ?_
  refine lb_Ends.step (q := (.iload 4, 2, [])) rfl rfl ?_
  refine lb_Ends.step (q := (.iconst 2, 1, [])) rfl rfl ?_
  refine lb_Ends.step (q := (.iadd, 1, [])) rfl rfl ?_
  refine lb_Ends.step (q := (.iaload, 1, [])) rfl (lj_load (i := x + Int32.ofInt 2) g2 ⟨e2a, e2b⟩) ?_
  rw [hp2]
  refine lb_Ends.step (q := (.i2l, 1, [])) rfl rfl ?_
  refine lb_Ends.step (q := (.ldc2_w 88, 3, [4294967295])) rfl rfl ?_
  refine lb_Ends.step (q := (.land, 1, [])) rfl rfl ?_
  refine lb_Ends.step (q := (.lor, 1, [])) (pc' := 337) (ls' := xl_ls x (some (.int (Int32.ofInt k))) b c) (st' := [.long (l8_x p1 p2), .ref 109]) (h' := h1) rfl rfl ?_
  rw [hzx]
  refine lb_Ends.step (q := (.aload_n 0, 1, [])) rfl rfl ?_
  refine lb_Ends.step (q := (.iload 4, 2, [])) rfl rfl ?_
  refine lb_Ends.step (q := (.iconst 3, 1, [])) rfl rfl ?_
  refine lb_Ends.step (q := (.iadd, 1, [])) rfl rfl ?_
  refine lb_Ends.step (q := (.iaload, 1, [])) rfl (lj_load (i := x + Int32.ofInt 3) g2 ⟨e3a, e3b⟩) ?_
  rw [hp3]
  have em : ([.inr (.inr 109), .inr (.inl zx), .inl p3.toInt] : List mi_V).map mi_c = [.ref 109, .long zx, .int p3] := by
    simp only [List.map, mi_cT]
    rfl
  have hc1 : r8_c h1 := g2.1.2.2.2.2
  have b59 := hc1.2.2
  refine lb_Ends.callP (q := (.invokevirtual 93, 3, [0, 2, 11, 232])) (M' := (4, 1, sb_232)) (as := [.ref 109, .long zx, .int p3]) rfl (c3_virt g1 rfl) rfl rfl (by decide : (sm_slots [Value.ref 109, .long 0, .int 0]).length ≤ 4) (by simp) ((me_run (M := (4, 1, sb_232)) em ((me_growf (d := 0) g1 g2.1.1.2.2 (mi_inT p3)).and (me_growx (d := 0) g1 (mi_inT p3) (fun q => ?_)))).deep (by decide)) (fun v h2 hq => ?_)
  · obtain ⟨f, it, Y, k1, k2, -⟩ := hc1.2.1 (by omega)
    exact ⟨Y, k1.1, k2, fun F F0 F1 => Int.le_trans (k1.2.1 F F0 F1).2.2.2.1 (by decide)⟩
  obtain ⟨w, rfl, -, ⟨⟨z, rfl, oz⟩, m1, m2, m3⟩, hX⟩ := hq
  obtain ⟨n1, n2, n3, n4⟩ := m8_post g2 m1 m2 m3
  obtain ⟨s1, s2, s3, s4, s5⟩ := r8_same_g g5
  have hR := g8_O_g (b := mi_f h 6543 ≠ 0) s1 s2 s3 ⟨fun q => by rw [← s4]; exact hc1.1.mpr q, fun q => hc1.1.mp (by rw [s4]; exact q)⟩ (g8_ref b59 hX)
  obtain ⟨k0, k1⟩ := g8_one hO hR
  refine lb_Ends.step (q := (.istore 6, 2, [])) (ls' := xl_ls x (some (.int (Int32.ofInt k))) (some (.int (Int32.ofInt z))) c) rfl rfl ?_
  refine lb_Ends.step (q := (.aload_n 2, 1, [])) rfl rfl ?_
  refine lb_Ends.callP (q := (.invokevirtual 94, 3, [0, 0, 11, 170])) (M' := (1, 1, sb_170)) rfl (c3_virt m1 rfl) rfl rfl (by decide) (by simp) ((me_run (M := (1, 1, sb_170)) (as := [.inr (.inr 109)]) rfl (me_thrown (d := 0) m1)).deep (by decide)) (fun v h3 hq => ?_)
  obtain ⟨u, rfl, -, rfl, -, f⟩ := hq
  have e3 : h3 = h2 := me_nil f
  subst e3
  rw [← k0]
  obtain ⟨n, hn⟩ : ∃ n, Int32.ofInt k = n := ⟨_, rfl⟩
  have hfin : lb_Ends sc_P sc_PW sl_tab 300 376 (xl_ls x (some (.int n)) (some (.int (Int32.ofInt z))) c) [] h3 QL := by
    refine lb_Ends.step (q := (.goto 226, 3, [])) rfl rfl ?_
    exact kk _ _ _ h3 n1 n2 (by omega) (by omega)
  show lb_Ends sc_P sc_PW sl_tab 300 352 (xl_ls x (some (.int (Int32.ofInt k))) (some (.int (Int32.ofInt z))) c) [.int (Int32.ofInt k)] h3 QL
  rw [hn]
  refine lb_Ends.step (q := (.iload 5, 2, [])) rfl rfl ?_
  refine lb_Ends.step (q := (.if_icmp .eq 5, 3, [])) (pc' := 359) (ls' := xl_ls x (some (.int n)) (some (.int (Int32.ofInt z))) c) (st' := []) (h' := h3) rfl ?_ ?_
  · simp only [sm_step, sm_back, sm_if, sm_cmp, decide_true, if_true]
    rfl
  refine lb_Ends.step (q := (.iload 5, 2, [])) rfl rfl ?_
  by_cases h0 : k = 0
  · rw [h0] at hn
    subst hn
    refine lb_Ends.step (q := (.ifCond .ne 15, 3, [])) rfl rfl ?_
    obtain ⟨f, f1, f2⟩ := g6 h0
    have g7 := lj_cell m2 f1 (by decide)
    have ey := k1 h0
    refine lb_Ends.step (q := (.aload_n 3, 1, [])) rfl rfl ?_
    refine lb_Ends.step (q := (.iconst 0, 1, [])) rfl rfl ?_
    refine lb_Ends.step (q := (.laload, 1, [])) (pc' := 367) (ls' := xl_ls x (some (.int (Int32.ofInt 0))) (some (.int (Int32.ofInt z))) c) (st' := [.long (Int32.ofInt z).toInt64]) (h' := h3) rfl ?_ ?_
    · simp only [sm_step, sm_aldL]
      rw [g7]
      dsimp only
      rw [if_pos ⟨rfl, by decide, by decide⟩]
      show some (Sum.inl (367, _, [Value.long (f 0)], h3)) = _
      rw [f2, ey]
    refine lb_Ends.step (q := (.iload 6, 2, [])) rfl rfl ?_
    refine lb_Ends.step (q := (.i2l, 1, [])) rfl rfl ?_
    generalize (Int32.ofInt z).toInt64 = yy
    refine lb_Ends.step (q := (.lcmp, 1, [])) rfl rfl ?_
    have ec : lg_cmp yy yy = 0 := by
      unfold lg_cmp
      rw [if_neg (by rw [gt_iff_lt, Int64.lt_iff_toInt_lt]; omega), if_pos rfl]
    rw [ec]
    refine lb_Ends.step (q := (.ifCond .eq 5, 3, [])) rfl rfl ?_
    exact hfin
  · refine lb_Ends.step (q := (.ifCond .ne 15, 3, [])) (pc' := 376) (ls' := xl_ls x (some (.int n)) (some (.int (Int32.ofInt z))) c) (st' := []) (h' := h3) rfl ?_ hfin
    have hz : sm_cmp .ne n 0 = true := by
      rw [← hn]
      rcases hk4 with q | q | q | q
      · exact absurd q h0
      · rw [q]; rfl
      · rw [q]; rfl
      · rw [q]; rfl
    show sm_if (sm_cmp .ne n 0) 361 15 _ _ h3 = _
    rw [hz]
    rfl
end G8B
