/-! the law's wrappers, in one form -/
/-- half way through a pair of calls -/
def hf9 (L : Nat) (xs : Nat → Int32) (h h1 : sm_H) : Prop := ab_Sh sx_sk h1 ∧ lj_J MJ L xs h1 ∧ h1.length ≤ h.length + 1 ∧ sm_sl h1 ≤ sm_sl h + 6
def WO9 (X : Int → Int64 → sm_H → Prop) (L : Nat) (xs : Nat → Int32) (h : sm_H) (v : Option Value) (h1 : sm_H) : Prop := ∃ (k : Int) (y : Int64), v = some (.int (Int32.ofInt k)) ∧ (k = 0 ∨ k = 1 ∨ k = 2 ∨ k = 3) ∧ hf9 L xs h h1 ∧ (k = 0 → ∃ f, h1[171]? = some (.inl (1, 1, .inr (.inl f))) ∧ f 0 = y) ∧ X k y h1
theorem c9_out {h : sm_H} (hS : ab_Sh sx_sk h) : ∃ f, h[171]? = some (.inl (1, 1, .inr (.inl f))) := by
  obtain ⟨f, e, -⟩ := mx_arrL (a := 171) (n := 1) (lo := -9223372036854775808) (hi := 9223372036854775807) (ex := []) hS rfl
  exact ⟨f, e⟩
theorem c9_Fr {h : sm_H} {f : Nat → Int64} {y : Int64} (e : h[171]? = some (.inl (1, 1, .inr (.inl f)))) : ab_Fr [(21888, 21889)] h (mx_pb h 171 0 y) ∧ (mx_pb h 171 0 y)[171]? = some (.inl (1, 1, .inr (.inl (vp_updL f 0 y)))) := by
  have e2 : mx_pb h 171 0 y = h.set 171 (.inl (1, 1, .inr (.inl (vp_updL f 0 y)))) := by
    unfold mx_pb
    rw [e]
  rw [e2]
  exact ⟨ab_Fr_arr e rfl (by decide), List.getElem?_set_self (List.getElem?_eq_some_iff.mp e).1⟩
section W9P
variable {P : Nat → Option sm_M} {PW : Nat → Option sm_MW} {sk : ab_K} {h : sm_H}
theorem w9_path {Q : Option Value → sm_H → Prop} {d m nl k : Nat} {tab : List (Option sm_I)} {al : List (Nat × Nat × Nat × Nat × Nat)} (hM : PW m = some ((nl, k, tab), al)) (hP : mx_Sp sk h) : ∀ (n : Nat) (bs : List Nat) (pc : Nat) (ls : sm_L) (st : List Value) (O : List mx_U) (R : mo_R), mo_path tab sk h n bs pc ls st O = some R → mx_oO sk O → ab_Sh sk (mx_ap O h) → (∀ p ∈ R.2.2.2.2, p) → (ab_Sh sk (mx_ap R.2.2.2.1 h) → mx_oO sk R.2.2.2.1 → wb_Ends P PW d m R.1 R.2.1 R.2.2.1 (mx_ap R.2.2.2.1 h) Q) → wb_Ends P PW d m pc ls st (mx_ap O h) Q := by
  intro n
  induction n with
  | zero =>
    intro bs pc ls st O R hp hO hS ho hk
    simp only [mo_path] at hp
    cases hp
    exact hk hS hO
  | succ n ih =>
    intro bs pc ls st O R hp hO hS ho hk
    simp only [mo_path] at hp
    split at hp
    · next q hq =>
      split at hp
      · next pc' ls' st' O' ob hs =>
        split at hp
        · next pc2 ls2 st2 O2 ob2 hp2 =>
          cases hp
          have ho1 : ∀ p ∈ ob, p := fun p hm => ho p (List.mem_append_left _ hm)
          have ho2 : ∀ p ∈ ob2, p := fun p hm => ho p (List.mem_append_right _ hm)
          obtain ⟨e1, e2, e3⟩ := mo_step_ok hs hP hO hS ho1
          exact wb_Ends.step (M := ((nl, k, tab), al)) hM hq e1 (ih _ _ _ _ _ _ hp2 e3 e2 ho2 hk)
        · cases hp
      · cases hp
    · cases hp
end W9P
section W9W
variable {L : Nat} {xs : Nat → Int32} {h h1 : sm_H} {wr : List (Nat × Nat)} {Q : Option Value → sm_H → Prop} {QT : Nat → sm_H → Prop} {X : Int → Int64 → sm_H → Prop}
/-- a call on the class's own object -/
theorem c3_own9 {pc idx n m : Nat} {ls : sm_L} {vs r : List Value} {st : List Value} (hSh : ab_Sh sx_sk h) (ha : sm_args (n + 1) st = some (.ref 51 :: vs, r)) : sm_step (.invokevirtual idx, 3, [0, n, 0, m]) pc ls st h = some (.inr (.inr (m, .ref 51 :: vs, r))) := by
  have hk : ∃ fl, sx_sk[51]? = some (some (.inr (0, fl))) := ⟨_, rfl⟩
  obtain ⟨fl, hk⟩ := hk
  obtain ⟨fs, ho, -, -⟩ := mx_obj hSh hk
  simp only [sm_step, sm_callV]
  rw [ha]
  dsimp only
  rw [ho]
  rfl
theorem w9_end {m nl d : Nat} {tab : List (Option sm_I)} {al : List (Nat × Nat × Nat × Nat × Nat)} {pc pc' n : Nat} {ls : sm_L} {st : List Value} {y : Int64} (hM : sc_PW m = some ((nl, 1, tab), al)) (hseg : mo_path tab sx_sk h n [] pc ls st [] = some (pc', ls, [.int (Int32.ofInt 0)], [.inr (.inr (171, Int32.toNatClampNeg (Int32.ofInt 0), y))], [0 ≤ (Int32.ofInt 0).toInt ∧ (Int32.ofInt 0).toInt < ((1 : Nat) : Int), (-9223372036854775808) ≤ y.toInt ∧ y.toInt ≤ 9223372036854775807])) (hr : tab[pc']? = some (some (.ireturn, 1, []))) (hS1 : ab_Sh sx_sk h) (hQ : ab_Sh sx_sk (mx_pb h 171 0 y) → Q (some (.int (Int32.ofInt 0))) (mx_pb h 171 0 y)) : wb_Ends sc_P sc_PW d m pc ls st h Q := by
  refine w9_path (h := h) hM (mx_Sh_Sp hS1) n [] pc _ _ [] _ hseg (fun u hu => absurd hu List.not_mem_nil) hS1 ?_ (fun hS2 _ => ?_)
  · intro q hq
    simp only [List.mem_cons, List.not_mem_nil, or_false] at hq
    rcases hq with rfl | rfl
    · exact ⟨by decide, by decide⟩
    · exact ⟨y.le_toInt, Int.le_of_lt_add_one y.toInt_lt⟩
  · exact wb_Ends.ret (q := (.ireturn, 1, [])) (v := some (.int (Int32.ofInt 0))) hM hr rfl rfl (hQ hS2)
theorem w9_ok {y : Int64} (hJ : lj_J MJ L xs h) (hw : ab_sub_wr wr mj_wr = true) (s1 : ab_Sh sx_sk h1) (F : ab_Fr wr h h1) (hS2 : ab_Sh sx_sk (mx_pb h1 171 0 y)) (hX : ∀ h2, rq xq_W h1 h2 → X 0 y h2) : WO9 X L xs h (some (.int (Int32.ofInt 0))) (mx_pb h1 171 0 y) := by
  obtain ⟨f, hf⟩ := c9_out s1
  obtain ⟨f1, f2⟩ := c9_Fr (y := y) hf
  have j1 := lj_fr (MJ := MJ) mj_MJ hJ hw F
  have j2 := lj_fr (MJ := MJ) (wr := [(21888, 21889)]) mj_MJ j1 (by decide) f1
  refine ⟨0, y, rfl, Or.inl rfl, ⟨hS2, j2, by rw [f1.1, F.1]; omega, by rw [f1.2.1, F.2.1]; omega⟩, fun _ => ⟨_, f2, by unfold vp_updL; exact if_pos rfl⟩, hX _ (rq_fr s1 f1)⟩
theorem w9_thr {g : sm_H} {x : Nat} {k : Int} (hJ : lj_J MJ L xs h) (hw : ab_sub_wr wr mj_wr = true) (e : h1 = g ++ [sm_exc x]) (s1 : ab_Sh sx_sk g) (F : ab_Fr wr h g) (hk : k = 1 ∨ k = 2 ∨ k = 3) (hX : X k 0 h1) : WO9 X L xs h (some (.int (Int32.ofInt k))) h1 := by
  subst e
  have j1 := lj_fr (MJ := MJ) mj_MJ hJ hw F
  have hl := xs_len
  have gl := j1.2.1
  refine ⟨k, 0, rfl, Or.inr hk, ⟨lj_app (by omega) s1, ⟨mj_MJ.2 g _ gl j1.1, by rw [List.length_append]; omega, ?_⟩, by rw [List.length_append, F.1]; exact Nat.le_refl _, by rw [sm_sl_app, F.2.1]; exact Nat.le_refl _⟩, fun q => by omega, hX⟩
  rw [List.getElem?_append_left (by omega)]
  exact j1.2.2
set_option maxRecDepth 20000 in
theorem w9_seg0 (h : sm_H) (y : Int64) (v0 v1 : Value) (e : Option Value) : mo_path sw_0 sx_sk h 3 [] 16 [some (.ref 51), some v0, some v1, some (.ref 171), e] [.long y, .int (Int32.ofInt 0), .ref 171] [] = some (25, [some (.ref 51), some v0, some v1, some (.ref 171), e], [.int (Int32.ofInt 0)], [.inr (.inr (171, Int32.toNatClampNeg (Int32.ofInt 0), y))], [0 ≤ (Int32.ofInt 0).toInt ∧ (Int32.ofInt 0).toInt < ((1 : Nat) : Int), (-9223372036854775808) ≤ y.toInt ∧ y.toInt ≤ 9223372036854775807]) := rfl
set_option maxRecDepth 20000 in
theorem w9_type {p : Int32} {z : Int32} {d : Nat} (hSh : ab_Sh sx_sk h) (hJ : lj_J MJ L xs h) (hw : ab_sub_wr wr mj_wr = true) (k : ab_EndsX sc_P QT d 95 0 (sm_entry 3 [.ref 51, .int p, .int z]) [] h Q) (hQ : ∀ v h1, Q v h1 → ∃ z : Int32, v = some (.int z) ∧ ab_Sh sx_sk h1 ∧ ab_Fr wr h h1 ∧ ∀ h2, rq xq_W h1 h2 → X 0 (if z = Int32.ofInt 0 then Int64.ofNat 0 else Int64.ofNat 1) h2) (hT : ∀ x h1, QT x h1 → ∃ g, h1 = g ++ [sm_exc x] ∧ ab_Sh sx_sk g ∧ ab_Fr wr h g ∧ ((x = 12 ∧ X 1 0 h1))) : wb_Ends sc_P sc_PW (d + 1) 2000 0 (sm_entry 5 [.ref 51, .int p, .int z, .ref 171]) [] h (WO9 X L xs h) := by
  have hM : sc_PW 2000 = some ((5, 1, sw_0), sw_h0) := rfl
  refine wb_Ends.step hM (q := (.aload_n 3, 1, [])) rfl rfl ?_
  refine wb_Ends.step hM (q := (.iconst 0, 1, [])) rfl rfl ?_
  refine wb_Ends.step hM (q := (.aload_n 0, 1, [])) rfl rfl ?_
  refine wb_Ends.step hM (q := (.iload_n 1, 1, [])) rfl rfl ?_
  refine wb_Ends.step hM (q := (.iload_n 2, 1, [])) rfl rfl ?_
  refine wb_Ends.call (q := (.invokevirtual 7, 3, [0, 2, 0, 95])) (M' := (3, 4, sb_95)) (m' := 95) (as := [.ref 51, .int p, .int z]) (r := [.int (Int32.ofInt 0), .ref 171]) hM rfl (c3_own9 hSh rfl) rfl (by decide : (sm_slots [Value.ref 51, .int 0, .int 0]).length ≤ 3) (by simp [Value.category]) k (fun v h1 hq => ?_) (fun x h1 ht => ?_)
  · obtain ⟨zr, rfl, s1, F, hX⟩ := hQ v h1 hq
    by_cases hy : zr = Int32.ofInt 0
    · refine wb_Ends.step hM (q := (.ifCond .eq 7, 3, [])) (pc' := 15) (ls' := [some (.ref 51), some (.int p), some (.int z), some (.ref 171), none]) (st' := [.int (Int32.ofInt 0), .ref 171]) (h' := h1) rfl ?_ ?_
      · subst hy
        rfl
      · refine wb_Ends.step hM (q := (.lconst 0, 1, [])) rfl rfl ?_
        refine w9_end hM (w9_seg0 h1 _ _ _ _) rfl s1 (fun hS2 => w9_ok hJ hw s1 F hS2 (fun h2 r => ?_))
        have := hX h2 r
        rw [if_pos hy] at this
        exact this
    · refine wb_Ends.step hM (q := (.ifCond .eq 7, 3, [])) (pc' := 11) (ls' := [some (.ref 51), some (.int p), some (.int z), some (.ref 171), none]) (st' := [.int (Int32.ofInt 0), .ref 171]) (h' := h1) rfl ?_ ?_
      · show sm_if (sm_cmp .eq zr 0) 8 7 _ _ h1 = _
        have : sm_cmp .eq zr 0 = false := decide_eq_false hy
        rw [this]
        rfl
      · refine wb_Ends.step hM (q := (.lconst 1, 1, [])) rfl rfl ?_
        refine wb_Ends.step hM (q := (.goto 4, 3, [])) rfl rfl ?_
        refine w9_end hM (w9_seg0 h1 _ _ _ _) rfl s1 (fun hS2 => w9_ok hJ hw s1 F hS2 (fun h2 r => ?_))
        have := hX h2 r
        rw [if_neg hy] at this
        exact this
  · obtain ⟨g, e, s1, F, hx⟩ := hT x h1 ht
    obtain ⟨rfl, hx⟩ := hx
    refine ⟨20, rfl, ?_⟩
    refine wb_Ends.step hM (q := (.astore 4, 2, [])) rfl rfl ?_
    refine wb_Ends.step hM (q := (.iconst 1, 1, [])) rfl rfl ?_
    exact wb_Ends.ret (q := (.ireturn, 1, [])) (v := some (.int (Int32.ofInt 1))) hM rfl rfl rfl (w9_thr hJ hw e s1 F (by decide) hx)
set_option maxRecDepth 20000 in
theorem w9_seg1 (h : sm_H) (r : Int32) (v0 : Value) (e : Option Value) : mo_path sw_1 sx_sk h 4 [] 7 [some (.ref 51), some v0, some (.ref 171), e] [.int r, .int (Int32.ofInt 0), .ref 171] [] = some (16, [some (.ref 51), some v0, some (.ref 171), e], [.int (Int32.ofInt 0)], [.inr (.inr (171, Int32.toNatClampNeg (Int32.ofInt 0), r.toInt64))], [0 ≤ (Int32.ofInt 0).toInt ∧ (Int32.ofInt 0).toInt < ((1 : Nat) : Int), (-9223372036854775808) ≤ r.toInt64.toInt ∧ r.toInt64.toInt ≤ 9223372036854775807]) := rfl
set_option maxRecDepth 20000 in
theorem w9_clear {p : Int32} {d : Nat} (hSh : ab_Sh sx_sk h) (hJ : lj_J MJ L xs h) (hw : ab_sub_wr wr mj_wr = true) (k : ab_EndsX sc_P QT d 97 0 (sm_entry 3 [.ref 51, .int p]) [] h Q) (hQ : ∀ v h1, Q v h1 → ∃ z : Int32, v = some (.int z) ∧ ab_Sh sx_sk h1 ∧ ab_Fr wr h h1 ∧ ∀ h2, rq xq_W h1 h2 → X 0 z.toInt64 h2) (hT : ∀ x h1, QT x h1 → ∃ g, h1 = g ++ [sm_exc x] ∧ ab_Sh sx_sk g ∧ ab_Fr wr h g ∧ ((x = 12 ∧ X 1 0 h1))) : wb_Ends sc_P sc_PW (d + 1) 2001 0 (sm_entry 4 [.ref 51, .int p, .ref 171]) [] h (WO9 X L xs h) := by
  have hM : sc_PW 2001 = some ((4, 1, sw_1), sw_h1) := rfl
  refine wb_Ends.step hM (q := (.aload_n 2, 1, [])) rfl rfl ?_
  refine wb_Ends.step hM (q := (.iconst 0, 1, [])) rfl rfl ?_
  refine wb_Ends.step hM (q := (.aload_n 0, 1, [])) rfl rfl ?_
  refine wb_Ends.step hM (q := (.iload_n 1, 1, [])) rfl rfl ?_
  refine wb_Ends.call (q := (.invokevirtual 15, 3, [0, 1, 0, 97])) (M' := (3, 1, sb_97)) (m' := 97) (as := [.ref 51, .int p]) (r := [.int (Int32.ofInt 0), .ref 171]) hM rfl (c3_own9 hSh rfl) rfl (by decide : (sm_slots [Value.ref 51, .int 0]).length ≤ 3) (by simp [Value.category]) k (fun v h1 hq => ?_) (fun x h1 ht => ?_)
  · obtain ⟨zr, rfl, s1, F, hX⟩ := hQ v h1 hq
    exact w9_end hM (w9_seg1 h1 _ _ _) rfl s1 (fun hS2 => w9_ok hJ hw s1 F hS2 hX)
  · obtain ⟨g, e, s1, F, hx⟩ := hT x h1 ht
    obtain ⟨rfl, hx⟩ := hx
    refine ⟨12, rfl, ?_⟩
    refine wb_Ends.step hM (q := (.astore_n 3, 1, [])) rfl rfl ?_
    refine wb_Ends.step hM (q := (.iconst 1, 1, [])) rfl rfl ?_
    exact wb_Ends.ret (q := (.ireturn, 1, [])) (v := some (.int (Int32.ofInt 1))) hM rfl rfl rfl (w9_thr hJ hw e s1 F (by decide) hx)
set_option maxRecDepth 20000 in
theorem w9_seg2 (h : sm_H) (r : Int32) (v0 : Value) (e : Option Value) : mo_path sw_2 sx_sk h 4 [] 7 [some (.ref 51), some v0, some (.ref 171), e] [.int r, .int (Int32.ofInt 0), .ref 171] [] = some (16, [some (.ref 51), some v0, some (.ref 171), e], [.int (Int32.ofInt 0)], [.inr (.inr (171, Int32.toNatClampNeg (Int32.ofInt 0), r.toInt64))], [0 ≤ (Int32.ofInt 0).toInt ∧ (Int32.ofInt 0).toInt < ((1 : Nat) : Int), (-9223372036854775808) ≤ r.toInt64.toInt ∧ r.toInt64.toInt ≤ 9223372036854775807]) := rfl
set_option maxRecDepth 20000 in
theorem w9_sample {p : Int32} {d : Nat} (hSh : ab_Sh sx_sk h) (hJ : lj_J MJ L xs h) (hw : ab_sub_wr wr mj_wr = true) (k : ab_EndsX sc_P QT d 98 0 (sm_entry 2 [.ref 51, .int p]) [] h Q) (hQ : ∀ v h1, Q v h1 → ∃ z : Int32, v = some (.int z) ∧ ab_Sh sx_sk h1 ∧ ab_Fr wr h h1 ∧ ∀ h2, rq xq_W h1 h2 → X 0 z.toInt64 h2) (hT : ∀ x h1, QT x h1 → ∃ g, h1 = g ++ [sm_exc x] ∧ ab_Sh sx_sk g ∧ ab_Fr wr h g ∧ ((x = 13 ∧ X 1 0 h1))) : wb_Ends sc_P sc_PW (d + 1) 2002 0 (sm_entry 4 [.ref 51, .int p, .ref 171]) [] h (WO9 X L xs h) := by
  have hM : sc_PW 2002 = some ((4, 1, sw_2), sw_h2) := rfl
  refine wb_Ends.step hM (q := (.aload_n 2, 1, [])) rfl rfl ?_
  refine wb_Ends.step hM (q := (.iconst 0, 1, [])) rfl rfl ?_
  refine wb_Ends.step hM (q := (.aload_n 0, 1, [])) rfl rfl ?_
  refine wb_Ends.step hM (q := (.iload_n 1, 1, [])) rfl rfl ?_
  refine wb_Ends.call (q := (.invokevirtual 19, 3, [0, 1, 0, 98])) (M' := (2, 1, sb_98)) (m' := 98) (as := [.ref 51, .int p]) (r := [.int (Int32.ofInt 0), .ref 171]) hM rfl (c3_own9 hSh rfl) rfl (by decide : (sm_slots [Value.ref 51, .int 0]).length ≤ 2) (by simp [Value.category]) k (fun v h1 hq => ?_) (fun x h1 ht => ?_)
  · obtain ⟨zr, rfl, s1, F, hX⟩ := hQ v h1 hq
    exact w9_end hM (w9_seg2 h1 _ _ _) rfl s1 (fun hS2 => w9_ok hJ hw s1 F hS2 hX)
  · obtain ⟨g, e, s1, F, hx⟩ := hT x h1 ht
    obtain ⟨rfl, hx⟩ := hx
    refine ⟨12, rfl, ?_⟩
    refine wb_Ends.step hM (q := (.astore_n 3, 1, [])) rfl rfl ?_
    refine wb_Ends.step hM (q := (.iconst 1, 1, [])) rfl rfl ?_
    exact wb_Ends.ret (q := (.ireturn, 1, [])) (v := some (.int (Int32.ofInt 1))) hM rfl rfl rfl (w9_thr hJ hw e s1 F (by decide) hx)
set_option maxRecDepth 20000 in
theorem w9_seg4 (h : sm_H) (r : Int32) (e : Option Value) : mo_path sw_4 sx_sk h 4 [] 6 [some (.ref 51), some (.ref 171), e] [.int r, .int (Int32.ofInt 0), .ref 171] [] = some (18, [some (.ref 51), some (.ref 171), e], [.int (Int32.ofInt 0)], [.inr (.inr (171, Int32.toNatClampNeg (Int32.ofInt 0), r.toInt64))], [0 ≤ (Int32.ofInt 0).toInt ∧ (Int32.ofInt 0).toInt < ((1 : Nat) : Int), (-9223372036854775808) ≤ r.toInt64.toInt ∧ r.toInt64.toInt ≤ 9223372036854775807]) := rfl
set_option maxRecDepth 20000 in
theorem w9_parse  {d : Nat} (hSh : ab_Sh sx_sk h) (hJ : lj_J MJ L xs h) (hw : ab_sub_wr wr mj_wr = true) (k : ab_EndsX sc_P QT d 102 0 (sm_entry 1 [.ref 51]) [] h Q) (hQ : ∀ v h1, Q v h1 → ∃ z : Int32, v = some (.int z) ∧ ab_Sh sx_sk h1 ∧ ab_Fr wr h h1 ∧ ∀ h2, rq xq_W h1 h2 → X 0 z.toInt64 h2) (hT : ∀ x h1, QT x h1 → ∃ g, h1 = g ++ [sm_exc x] ∧ ab_Sh sx_sk g ∧ ab_Fr wr h g ∧ ((x = 14 ∧ X 1 0 h1) ∨ (x = 15 ∧ X 2 0 h1))) : wb_Ends sc_P sc_PW (d + 1) 2004 0 (sm_entry 3 [.ref 51, .ref 171]) [] h (WO9 X L xs h) := by
  have hM : sc_PW 2004 = some ((3, 1, sw_4), sw_h4) := rfl
  refine wb_Ends.step hM (q := (.aload_n 1, 1, [])) rfl rfl ?_
  refine wb_Ends.step hM (q := (.iconst 0, 1, [])) rfl rfl ?_
  refine wb_Ends.step hM (q := (.aload_n 0, 1, [])) rfl rfl ?_
  refine wb_Ends.call (q := (.invokevirtual 30, 3, [0, 0, 0, 102])) (M' := (1, 1, sb_102)) (m' := 102) (as := [.ref 51]) (r := [.int (Int32.ofInt 0), .ref 171]) hM rfl (c3_own9 hSh rfl) rfl (by decide : (sm_slots [Value.ref 51]).length ≤ 1) (by simp [Value.category]) k (fun v h1 hq => ?_) (fun x h1 ht => ?_)
  · obtain ⟨zr, rfl, s1, F, hX⟩ := hQ v h1 hq
    exact w9_end hM (w9_seg4 h1 _  _) rfl s1 (fun hS2 => w9_ok hJ hw s1 F hS2 hX)
  · obtain ⟨g, e, s1, F, hx⟩ := hT x h1 ht
    rcases hx with ⟨rfl, hx⟩ | ⟨rfl, hx⟩
    · refine ⟨11, rfl, ?_⟩
      refine wb_Ends.step hM (q := (.astore_n 2, 1, [])) rfl rfl ?_
      refine wb_Ends.step hM (q := (.iconst 1, 1, [])) rfl rfl ?_
      exact wb_Ends.ret (q := (.ireturn, 1, [])) (v := some (.int (Int32.ofInt 1))) hM rfl rfl rfl (w9_thr hJ hw e s1 F (by decide) hx)
    · refine ⟨14, rfl, ?_⟩
      refine wb_Ends.step hM (q := (.astore_n 2, 1, [])) rfl rfl ?_
      refine wb_Ends.step hM (q := (.iconst 2, 1, [])) rfl rfl ?_
      exact wb_Ends.ret (q := (.ireturn, 1, [])) (v := some (.int (Int32.ofInt 2))) hM rfl rfl rfl (w9_thr hJ hw e s1 F (by decide) hx)
set_option maxRecDepth 20000 in
theorem w9_seg5 (h : sm_H) (r : Int32) (v0 v1 : Value) (e : Option Value) : mo_path sw_5 sx_sk h 4 [] 9 [some (.ref 51), some v0, none, some v1, some (.ref 171), e] [.int r, .int (Int32.ofInt 0), .ref 171] [] = some (27, [some (.ref 51), some v0, none, some v1, some (.ref 171), e], [.int (Int32.ofInt 0)], [.inr (.inr (171, Int32.toNatClampNeg (Int32.ofInt 0), r.toInt64))], [0 ≤ (Int32.ofInt 0).toInt ∧ (Int32.ofInt 0).toInt < ((1 : Nat) : Int), (-9223372036854775808) ≤ r.toInt64.toInt ∧ r.toInt64.toInt ≤ 9223372036854775807]) := rfl
set_option maxRecDepth 20000 in
theorem w9_grow {zx : Int64} {f : Int32} {d : Nat} (hSh : ab_Sh sx_sk h) (hJ : lj_J MJ L xs h) (hw : ab_sub_wr wr mj_wr = true) (k : ab_EndsX sc_P QT d 158 0 (sm_entry 4 [.ref 51, .long zx, .int f]) [] h Q) (hQ : ∀ v h1, Q v h1 → ∃ z : Int32, v = some (.int z) ∧ ab_Sh sx_sk h1 ∧ ab_Fr wr h h1 ∧ ∀ h2, rq xq_W h1 h2 → X 0 z.toInt64 h2) (hT : ∀ x h1, QT x h1 → ∃ g, h1 = g ++ [sm_exc x] ∧ ab_Sh sx_sk g ∧ ab_Fr wr h g ∧ ((x = 13 ∧ X 1 0 h1) ∨ (x = 14 ∧ X 2 0 h1) ∨ (x = 15 ∧ X 3 0 h1))) : wb_Ends sc_P sc_PW (d + 1) 2005 0 (sm_entry 6 [.ref 51, .long zx, .int f, .ref 171]) [] h (WO9 X L xs h) := by
  have hM : sc_PW 2005 = some ((6, 1, sw_5), sw_h5) := rfl
  refine wb_Ends.step hM (q := (.aload 4, 2, [])) rfl rfl ?_
  refine wb_Ends.step hM (q := (.iconst 0, 1, [])) rfl rfl ?_
  refine wb_Ends.step hM (q := (.aload_n 0, 1, [])) rfl rfl ?_
  refine wb_Ends.step hM (q := (.lload_n 1, 1, [])) rfl rfl ?_
  refine wb_Ends.step hM (q := (.iload_n 3, 1, [])) rfl rfl ?_
  refine wb_Ends.call (q := (.invokevirtual 36, 3, [0, 2, 0, 158])) (M' := (4, 1, sb_158)) (m' := 158) (as := [.ref 51, .long zx, .int f]) (r := [.int (Int32.ofInt 0), .ref 171]) hM rfl (c3_own9 hSh rfl) rfl (by decide : (sm_slots [Value.ref 51, .long 0, .int 0]).length ≤ 4) (by simp [Value.category]) k (fun v h1 hq => ?_) (fun x h1 ht => ?_)
  · obtain ⟨zr, rfl, s1, F, hX⟩ := hQ v h1 hq
    exact w9_end hM (w9_seg5 h1 _ _ _ _) rfl s1 (fun hS2 => w9_ok hJ hw s1 F hS2 hX)
  · obtain ⟨g, e, s1, F, hx⟩ := hT x h1 ht
    rcases hx with ⟨rfl, hx⟩ | ⟨rfl, hx⟩ | ⟨rfl, hx⟩
    · refine ⟨14, rfl, ?_⟩
      refine wb_Ends.step hM (q := (.astore 5, 2, [])) rfl rfl ?_
      refine wb_Ends.step hM (q := (.iconst 1, 1, [])) rfl rfl ?_
      exact wb_Ends.ret (q := (.ireturn, 1, [])) (v := some (.int (Int32.ofInt 1))) hM rfl rfl rfl (w9_thr hJ hw e s1 F (by decide) hx)
    · refine ⟨18, rfl, ?_⟩
      refine wb_Ends.step hM (q := (.astore 5, 2, [])) rfl rfl ?_
      refine wb_Ends.step hM (q := (.iconst 2, 1, [])) rfl rfl ?_
      exact wb_Ends.ret (q := (.ireturn, 1, [])) (v := some (.int (Int32.ofInt 2))) hM rfl rfl rfl (w9_thr hJ hw e s1 F (by decide) hx)
    · refine ⟨22, rfl, ?_⟩
      refine wb_Ends.step hM (q := (.astore 5, 2, [])) rfl rfl ?_
      refine wb_Ends.step hM (q := (.iconst 3, 1, [])) rfl rfl ?_
      exact wb_Ends.ret (q := (.ireturn, 1, [])) (v := some (.int (Int32.ofInt 3))) hM rfl rfl rfl (w9_thr hJ hw e s1 F (by decide) hx)
set_option maxRecDepth 20000 in
theorem w9_seg6 (h : sm_H) (y : Int64) (v0 v1 : Value) (e : Option Value) : mo_path sw_6 sx_sk h 3 [] 8 [some (.ref 51), some v0, some v1, some (.ref 171), e] [.long y, .int (Int32.ofInt 0), .ref 171] [] = some (21, [some (.ref 51), some v0, some v1, some (.ref 171), e], [.int (Int32.ofInt 0)], [.inr (.inr (171, Int32.toNatClampNeg (Int32.ofInt 0), y))], [0 ≤ (Int32.ofInt 0).toInt ∧ (Int32.ofInt 0).toInt < ((1 : Nat) : Int), (-9223372036854775808) ≤ y.toInt ∧ y.toInt ≤ 9223372036854775807]) := rfl
set_option maxRecDepth 20000 in
theorem w9_node {p : Int32} {q : Int32} {d : Nat} (hSh : ab_Sh sx_sk h) (hJ : lj_J MJ L xs h) (hw : ab_sub_wr wr mj_wr = true) (k : ab_EndsX sc_P QT d 160 0 (sm_entry 3 [.ref 51, .int p, .int q]) [] h Q) (hQ : ∀ v h1, Q v h1 → ∃ z : Int64, v = some (.long z) ∧ ab_Sh sx_sk h1 ∧ ab_Fr wr h h1 ∧ ∀ h2, rq xq_W h1 h2 → X 0 z h2) (hT : ∀ x h1, QT x h1 → ∃ g, h1 = g ++ [sm_exc x] ∧ ab_Sh sx_sk g ∧ ab_Fr wr h g ∧ ((x = 16 ∧ X 1 0 h1) ∨ (x = 13 ∧ X 2 0 h1))) : wb_Ends sc_P sc_PW (d + 1) 2006 0 (sm_entry 5 [.ref 51, .int p, .int q, .ref 171]) [] h (WO9 X L xs h) := by
  have hM : sc_PW 2006 = some ((5, 1, sw_6), sw_h6) := rfl
  refine wb_Ends.step hM (q := (.aload_n 3, 1, [])) rfl rfl ?_
  refine wb_Ends.step hM (q := (.iconst 0, 1, [])) rfl rfl ?_
  refine wb_Ends.step hM (q := (.aload_n 0, 1, [])) rfl rfl ?_
  refine wb_Ends.step hM (q := (.iload_n 1, 1, [])) rfl rfl ?_
  refine wb_Ends.step hM (q := (.iload_n 2, 1, [])) rfl rfl ?_
  refine wb_Ends.call (q := (.invokevirtual 40, 3, [0, 2, 0, 160])) (M' := (3, 2, sb_160)) (m' := 160) (as := [.ref 51, .int p, .int q]) (r := [.int (Int32.ofInt 0), .ref 171]) hM rfl (c3_own9 hSh rfl) rfl (by decide : (sm_slots [Value.ref 51, .int 0, .int 0]).length ≤ 3) (by simp [Value.category]) k (fun v h1 hq => ?_) (fun x h1 ht => ?_)
  · obtain ⟨zr, rfl, s1, F, hX⟩ := hQ v h1 hq
    exact w9_end hM (w9_seg6 h1 _ _ _ _) rfl s1 (fun hS2 => w9_ok hJ hw s1 F hS2 hX)
  · obtain ⟨g, e, s1, F, hx⟩ := hT x h1 ht
    rcases hx with ⟨rfl, hx⟩ | ⟨rfl, hx⟩
    · refine ⟨12, rfl, ?_⟩
      refine wb_Ends.step hM (q := (.astore 4, 2, [])) rfl rfl ?_
      refine wb_Ends.step hM (q := (.iconst 1, 1, [])) rfl rfl ?_
      exact wb_Ends.ret (q := (.ireturn, 1, [])) (v := some (.int (Int32.ofInt 1))) hM rfl rfl rfl (w9_thr hJ hw e s1 F (by decide) hx)
    · refine ⟨16, rfl, ?_⟩
      refine wb_Ends.step hM (q := (.astore 4, 2, [])) rfl rfl ?_
      refine wb_Ends.step hM (q := (.iconst 2, 1, [])) rfl rfl ?_
      exact wb_Ends.ret (q := (.ireturn, 1, [])) (v := some (.int (Int32.ofInt 2))) hM rfl rfl rfl (w9_thr hJ hw e s1 F (by decide) hx)
set_option maxRecDepth 20000 in
theorem w9_seg7 (h : sm_H) (y : Int64) (v0 v1 : Value) (e : Option Value) : mo_path sw_7 sx_sk h 3 [] 17 [some (.ref 51), some v0, some v1, none, some (.ref 171), e] [.long y, .int (Int32.ofInt 0), .ref 171] [] = some (26, [some (.ref 51), some v0, some v1, none, some (.ref 171), e], [.int (Int32.ofInt 0)], [.inr (.inr (171, Int32.toNatClampNeg (Int32.ofInt 0), y))], [0 ≤ (Int32.ofInt 0).toInt ∧ (Int32.ofInt 0).toInt < ((1 : Nat) : Int), (-9223372036854775808) ≤ y.toInt ∧ y.toInt ≤ 9223372036854775807]) := rfl
set_option maxRecDepth 20000 in
theorem w9_set {p : Int32} {zv : Int64} {d : Nat} (hSh : ab_Sh sx_sk h) (hJ : lj_J MJ L xs h) (hw : ab_sub_wr wr mj_wr = true) (k : ab_EndsX sc_P QT d 162 0 (sm_entry 6 [.ref 51, .int p, .long zv]) [] h Q) (hQ : ∀ v h1, Q v h1 → ∃ z : Int32, v = some (.int z) ∧ ab_Sh sx_sk h1 ∧ ab_Fr wr h h1 ∧ ∀ h2, rq xq_W h1 h2 → X 0 (if z = Int32.ofInt 0 then Int64.ofNat 0 else Int64.ofNat 1) h2) (hT : ∀ x h1, QT x h1 → ∃ g, h1 = g ++ [sm_exc x] ∧ ab_Sh sx_sk g ∧ ab_Fr wr h g ∧ ((x = 16 ∧ X 1 0 h1))) : wb_Ends sc_P sc_PW (d + 1) 2007 0 (sm_entry 6 [.ref 51, .int p, .long zv, .ref 171]) [] h (WO9 X L xs h) := by
  have hM : sc_PW 2007 = some ((6, 1, sw_7), sw_h7) := rfl
  refine wb_Ends.step hM (q := (.aload 4, 2, [])) rfl rfl ?_
  refine wb_Ends.step hM (q := (.iconst 0, 1, [])) rfl rfl ?_
  refine wb_Ends.step hM (q := (.aload_n 0, 1, [])) rfl rfl ?_
  refine wb_Ends.step hM (q := (.iload_n 1, 1, [])) rfl rfl ?_
  refine wb_Ends.step hM (q := (.lload_n 2, 1, [])) rfl rfl ?_
  refine wb_Ends.call (q := (.invokevirtual 45, 3, [0, 2, 0, 162])) (M' := (6, 4, sb_162)) (m' := 162) (as := [.ref 51, .int p, .long zv]) (r := [.int (Int32.ofInt 0), .ref 171]) hM rfl (c3_own9 hSh rfl) rfl (by decide : (sm_slots [Value.ref 51, .int 0, .long 0]).length ≤ 6) (by simp [Value.category]) k (fun v h1 hq => ?_) (fun x h1 ht => ?_)
  · obtain ⟨zr, rfl, s1, F, hX⟩ := hQ v h1 hq
    by_cases hy : zr = Int32.ofInt 0
    · refine wb_Ends.step hM (q := (.ifCond .eq 7, 3, [])) (pc' := 16) (ls' := [some (.ref 51), some (.int p), some (.long zv), none, some (.ref 171), none]) (st' := [.int (Int32.ofInt 0), .ref 171]) (h' := h1) rfl ?_ ?_
      · subst hy
        rfl
      · refine wb_Ends.step hM (q := (.lconst 0, 1, [])) rfl rfl ?_
        refine w9_end hM (w9_seg7 h1 _ _ _ _) rfl s1 (fun hS2 => w9_ok hJ hw s1 F hS2 (fun h2 r => ?_))
        have := hX h2 r
        rw [if_pos hy] at this
        exact this
    · refine wb_Ends.step hM (q := (.ifCond .eq 7, 3, [])) (pc' := 12) (ls' := [some (.ref 51), some (.int p), some (.long zv), none, some (.ref 171), none]) (st' := [.int (Int32.ofInt 0), .ref 171]) (h' := h1) rfl ?_ ?_
      · show sm_if (sm_cmp .eq zr 0) 9 7 _ _ h1 = _
        have : sm_cmp .eq zr 0 = false := decide_eq_false hy
        rw [this]
        rfl
      · refine wb_Ends.step hM (q := (.lconst 1, 1, [])) rfl rfl ?_
        refine wb_Ends.step hM (q := (.goto 4, 3, [])) rfl rfl ?_
        refine w9_end hM (w9_seg7 h1 _ _ _ _) rfl s1 (fun hS2 => w9_ok hJ hw s1 F hS2 (fun h2 r => ?_))
        have := hX h2 r
        rw [if_neg hy] at this
        exact this
  · obtain ⟨g, e, s1, F, hx⟩ := hT x h1 ht
    obtain ⟨rfl, hx⟩ := hx
    refine ⟨21, rfl, ?_⟩
    refine wb_Ends.step hM (q := (.astore 5, 2, [])) rfl rfl ?_
    refine wb_Ends.step hM (q := (.iconst 1, 1, [])) rfl rfl ?_
    exact wb_Ends.ret (q := (.ireturn, 1, [])) (v := some (.int (Int32.ofInt 1))) hM rfl rfl rfl (w9_thr hJ hw e s1 F (by decide) hx)
set_option maxRecDepth 20000 in
theorem w9_seg8 (h : sm_H) (r : Int32) (e : Option Value) : mo_path sw_8 sx_sk h 4 [] 6 [some (.ref 51), some (.ref 171), e] [.int r, .int (Int32.ofInt 0), .ref 171] [] = some (18, [some (.ref 51), some (.ref 171), e], [.int (Int32.ofInt 0)], [.inr (.inr (171, Int32.toNatClampNeg (Int32.ofInt 0), r.toInt64))], [0 ≤ (Int32.ofInt 0).toInt ∧ (Int32.ofInt 0).toInt < ((1 : Nat) : Int), (-9223372036854775808) ≤ r.toInt64.toInt ∧ r.toInt64.toInt ≤ 9223372036854775807]) := rfl
set_option maxRecDepth 20000 in
theorem w9_print  {d : Nat} (hSh : ab_Sh sx_sk h) (hJ : lj_J MJ L xs h) (hw : ab_sub_wr wr mj_wr = true) (k : ab_EndsX sc_P QT d 164 0 (sm_entry 1 [.ref 51]) [] h Q) (hQ : ∀ v h1, Q v h1 → ∃ z : Int32, v = some (.int z) ∧ ab_Sh sx_sk h1 ∧ ab_Fr wr h h1 ∧ ∀ h2, rq xq_W h1 h2 → X 0 z.toInt64 h2) (hT : ∀ x h1, QT x h1 → ∃ g, h1 = g ++ [sm_exc x] ∧ ab_Sh sx_sk g ∧ ab_Fr wr h g ∧ ((x = 14 ∧ X 1 0 h1) ∨ (x = 15 ∧ X 2 0 h1))) : wb_Ends sc_P sc_PW (d + 1) 2008 0 (sm_entry 3 [.ref 51, .ref 171]) [] h (WO9 X L xs h) := by
  have hM : sc_PW 2008 = some ((3, 1, sw_8), sw_h8) := rfl
  refine wb_Ends.step hM (q := (.aload_n 1, 1, [])) rfl rfl ?_
  refine wb_Ends.step hM (q := (.iconst 0, 1, [])) rfl rfl ?_
  refine wb_Ends.step hM (q := (.aload_n 0, 1, [])) rfl rfl ?_
  refine wb_Ends.call (q := (.invokevirtual 49, 3, [0, 0, 0, 164])) (M' := (1, 1, sb_164)) (m' := 164) (as := [.ref 51]) (r := [.int (Int32.ofInt 0), .ref 171]) hM rfl (c3_own9 hSh rfl) rfl (by decide : (sm_slots [Value.ref 51]).length ≤ 1) (by simp [Value.category]) k (fun v h1 hq => ?_) (fun x h1 ht => ?_)
  · obtain ⟨zr, rfl, s1, F, hX⟩ := hQ v h1 hq
    exact w9_end hM (w9_seg8 h1 _  _) rfl s1 (fun hS2 => w9_ok hJ hw s1 F hS2 hX)
  · obtain ⟨g, e, s1, F, hx⟩ := hT x h1 ht
    rcases hx with ⟨rfl, hx⟩ | ⟨rfl, hx⟩
    · refine ⟨11, rfl, ?_⟩
      refine wb_Ends.step hM (q := (.astore_n 2, 1, [])) rfl rfl ?_
      refine wb_Ends.step hM (q := (.iconst 1, 1, [])) rfl rfl ?_
      exact wb_Ends.ret (q := (.ireturn, 1, [])) (v := some (.int (Int32.ofInt 1))) hM rfl rfl rfl (w9_thr hJ hw e s1 F (by decide) hx)
    · refine ⟨14, rfl, ?_⟩
      refine wb_Ends.step hM (q := (.astore_n 2, 1, [])) rfl rfl ?_
      refine wb_Ends.step hM (q := (.iconst 2, 1, [])) rfl rfl ?_
      exact wb_Ends.ret (q := (.ireturn, 1, [])) (v := some (.int (Int32.ofInt 2))) hM rfl rfl rfl (w9_thr hJ hw e s1 F (by decide) hx)
set_option maxRecDepth 20000 in
theorem w9_seg9 (h : sm_H) (r : Int32) (v0 : Value) (e : Option Value) : mo_path sw_9 sx_sk h 4 [] 7 [some (.ref 51), some v0, some (.ref 171), e] [.int r, .int (Int32.ofInt 0), .ref 171] [] = some (16, [some (.ref 51), some v0, some (.ref 171), e], [.int (Int32.ofInt 0)], [.inr (.inr (171, Int32.toNatClampNeg (Int32.ofInt 0), r.toInt64))], [0 ≤ (Int32.ofInt 0).toInt ∧ (Int32.ofInt 0).toInt < ((1 : Nat) : Int), (-9223372036854775808) ≤ r.toInt64.toInt ∧ r.toInt64.toInt ≤ 9223372036854775807]) := rfl
set_option maxRecDepth 20000 in
theorem w9_output {p : Int32} {d : Nat} (hSh : ab_Sh sx_sk h) (hJ : lj_J MJ L xs h) (hw : ab_sub_wr wr mj_wr = true) (k : ab_EndsX sc_P QT d 165 0 (sm_entry 2 [.ref 51, .int p]) [] h Q) (hQ : ∀ v h1, Q v h1 → ∃ z : Int32, v = some (.int z) ∧ ab_Sh sx_sk h1 ∧ ab_Fr wr h h1 ∧ ∀ h2, rq xq_W h1 h2 → X 0 z.toInt64 h2) (hT : ∀ x h1, QT x h1 → ∃ g, h1 = g ++ [sm_exc x] ∧ ab_Sh sx_sk g ∧ ab_Fr wr h g ∧ ((x = 12 ∧ X 1 0 h1))) : wb_Ends sc_P sc_PW (d + 1) 2009 0 (sm_entry 4 [.ref 51, .int p, .ref 171]) [] h (WO9 X L xs h) := by
  have hM : sc_PW 2009 = some ((4, 1, sw_9), sw_h9) := rfl
  refine wb_Ends.step hM (q := (.aload_n 2, 1, [])) rfl rfl ?_
  refine wb_Ends.step hM (q := (.iconst 0, 1, [])) rfl rfl ?_
  refine wb_Ends.step hM (q := (.aload_n 0, 1, [])) rfl rfl ?_
  refine wb_Ends.step hM (q := (.iload_n 1, 1, [])) rfl rfl ?_
  refine wb_Ends.call (q := (.invokevirtual 52, 3, [0, 1, 0, 165])) (M' := (2, 5, sb_165)) (m' := 165) (as := [.ref 51, .int p]) (r := [.int (Int32.ofInt 0), .ref 171]) hM rfl (c3_own9 hSh rfl) rfl (by decide : (sm_slots [Value.ref 51, .int 0]).length ≤ 2) (by simp [Value.category]) k (fun v h1 hq => ?_) (fun x h1 ht => ?_)
  · obtain ⟨zr, rfl, s1, F, hX⟩ := hQ v h1 hq
    exact w9_end hM (w9_seg9 h1 _ _ _) rfl s1 (fun hS2 => w9_ok hJ hw s1 F hS2 hX)
  · obtain ⟨g, e, s1, F, hx⟩ := hT x h1 ht
    obtain ⟨rfl, hx⟩ := hx
    refine ⟨12, rfl, ?_⟩
    refine wb_Ends.step hM (q := (.astore_n 3, 1, [])) rfl rfl ?_
    refine wb_Ends.step hM (q := (.iconst 1, 1, [])) rfl rfl ?_
    exact wb_Ends.ret (q := (.ireturn, 1, [])) (v := some (.int (Int32.ofInt 1))) hM rfl rfl rfl (w9_thr hJ hw e s1 F (by decide) hx)
set_option maxRecDepth 20000 in
theorem w9_seg10 (h : sm_H) (r : Int32) (e : Option Value) : mo_path sw_10 sx_sk h 4 [] 6 [some (.ref 51), some (.ref 171), e] [.int r, .int (Int32.ofInt 0), .ref 171] [] = some (15, [some (.ref 51), some (.ref 171), e], [.int (Int32.ofInt 0)], [.inr (.inr (171, Int32.toNatClampNeg (Int32.ofInt 0), r.toInt64))], [0 ≤ (Int32.ofInt 0).toInt ∧ (Int32.ofInt 0).toInt < ((1 : Nat) : Int), (-9223372036854775808) ≤ r.toInt64.toInt ∧ r.toInt64.toInt ≤ 9223372036854775807]) := rfl
set_option maxRecDepth 20000 in
theorem w9_compare  {d : Nat} (hSh : ab_Sh sx_sk h) (hJ : lj_J MJ L xs h) (hw : ab_sub_wr wr mj_wr = true) (k : ab_EndsX sc_P QT d 166 0 (sm_entry 1 [.ref 51]) [] h Q) (hQ : ∀ v h1, Q v h1 → ∃ z : Int32, v = some (.int z) ∧ ab_Sh sx_sk h1 ∧ ab_Fr wr h h1 ∧ ∀ h2, rq xq_W h1 h2 → X 0 z.toInt64 h2) (hT : ∀ x h1, QT x h1 → ∃ g, h1 = g ++ [sm_exc x] ∧ ab_Sh sx_sk g ∧ ab_Fr wr h g ∧ ((x = 14 ∧ X 1 0 h1))) : wb_Ends sc_P sc_PW (d + 1) 2010 0 (sm_entry 3 [.ref 51, .ref 171]) [] h (WO9 X L xs h) := by
  have hM : sc_PW 2010 = some ((3, 1, sw_10), sw_h10) := rfl
  refine wb_Ends.step hM (q := (.aload_n 1, 1, [])) rfl rfl ?_
  refine wb_Ends.step hM (q := (.iconst 0, 1, [])) rfl rfl ?_
  refine wb_Ends.step hM (q := (.aload_n 0, 1, [])) rfl rfl ?_
  refine wb_Ends.call (q := (.invokevirtual 56, 3, [0, 0, 0, 166])) (M' := (1, 1, sb_166)) (m' := 166) (as := [.ref 51]) (r := [.int (Int32.ofInt 0), .ref 171]) hM rfl (c3_own9 hSh rfl) rfl (by decide : (sm_slots [Value.ref 51]).length ≤ 1) (by simp [Value.category]) k (fun v h1 hq => ?_) (fun x h1 ht => ?_)
  · obtain ⟨zr, rfl, s1, F, hX⟩ := hQ v h1 hq
    exact w9_end hM (w9_seg10 h1 _  _) rfl s1 (fun hS2 => w9_ok hJ hw s1 F hS2 hX)
  · obtain ⟨g, e, s1, F, hx⟩ := hT x h1 ht
    obtain ⟨rfl, hx⟩ := hx
    refine ⟨11, rfl, ?_⟩
    refine wb_Ends.step hM (q := (.astore_n 2, 1, [])) rfl rfl ?_
    refine wb_Ends.step hM (q := (.iconst 1, 1, [])) rfl rfl ?_
    exact wb_Ends.ret (q := (.ireturn, 1, [])) (v := some (.int (Int32.ofInt 1))) hM rfl rfl rfl (w9_thr hJ hw e s1 F (by decide) hx)
end W9W
