/-! heaps alike; all at once -/
/-- heaps alike but for what is listed -/
def rq (wr : List (Nat × Nat)) (h h' : sm_H) : Prop := (∀ k, (mx_isA sx_sk k || mx_isB sx_sk k) = true → ab_in wr (k * 128) = false → h'[k]? = h[k]?) ∧ ∀ c, mx_isF sx_sk c = true → ab_in wr c = false → ab_fld h' c = ab_fld h c
section RQ9
variable {wr wr' : List (Nat × Nat)} {h h' h'' : sm_H}
theorem rq_fr (hS : ab_Sh sx_sk h) (hF : ab_Fr wr h h') : rq wr h h' := ⟨fun _ a b => me_arr hF hS a b, fun _ a b => me_fld hS hF a b⟩
theorem rq.trans (a : rq wr h h') (b : rq wr h' h'') : rq wr h h'' := ⟨fun k x y => (b.1 k x y).trans (a.1 k x y), fun c x y => (b.2 c x y).trans (a.2 c x y)⟩
theorem rq.wide (a : rq wr h h') (hw : ab_sub_wr wr wr' = true) : rq wr' h h' := by
  have n : ∀ c, ab_in wr' c = false → ab_in wr c = false := fun c hc => by
    cases e : ab_in wr c with
    | false => rfl
    | true => rw [ab_swr_ok hw e] at hc; cases hc
  exact ⟨fun k x y => a.1 k x (n _ y), fun c x y => a.2 c x (n _ y)⟩
theorem rq_app {e : sm_E} (hl : 172 ≤ h.length) : rq [] h (h ++ [e]) := by
  have xl := xs_len
  refine ⟨fun k a _ => List.getElem?_append_left ?_, fun c a _ => ?_⟩
  · by_cases q : k < sx_sk.length
    · omega
    · exfalso
      have : sx_sk[k]? = none := List.getElem?_eq_none (by omega)
      unfold mx_isA mx_isB at a
      rw [this] at a
      cases a
  · by_cases q : c / 128 < sx_sk.length
    · unfold ab_fld
      rw [List.getElem?_append_left (by omega)]
    · exfalso
      have : sx_sk[c / 128]? = none := List.getElem?_eq_none (by omega)
      unfold mx_isF at a
      rw [this] at a
      cases a
theorem rq.f (a : rq wr h h') {c : Nat} (hc : mx_isF sx_sk c = true) (hn : ab_in wr c = false) : mi_f h' c = mi_f h c := by
  unfold mi_f mx_i
  rw [a.2 c hc hn]
theorem rq.a (a : rq wr h h') {k : Nat} (hk : (mx_isA sx_sk k || mx_isB sx_sk k) = true) (hn : ab_in wr (k * 128) = false) (i : Nat) : mi_a h' k i = mi_a h k i := by
  unfold mi_a mx_a
  rw [a.1 k hk hn]
theorem rq.b (a : rq wr h h') {k : Nat} (hk : (mx_isA sx_sk k || mx_isB sx_sk k) = true) (hn : ab_in wr (k * 128) = false) (i : Nat) : mx_b h' k i = mx_b h k i := by
  unfold mx_b
  rw [a.1 k hk hn]
end RQ9
def xq_W : List (Nat × Nat) := [(21888, 21889)]
theorem mg_E.all {ι : Type} {d m pc : Nat} {ls : mi_L} {st : List mi_V} {h : sm_H} {QT : ι → Nat → sm_H → Prop} {Q : ι → Option mi_V → sm_H → Prop} (i0 : ι) (k : ∀ i, mg_E (QT i) d m pc ls st h (Q i)) : mg_E (fun x h' => ∀ i, QT i x h') d m pc ls st h (fun w h' => ∀ i, Q i w h') := by
  rcases k i0 with ⟨n, v, h1, r, w, e1, e2, -⟩ | ⟨n, x, h1, r, -⟩
  · refine Or.inl ⟨n, v, h1, r, w, e1, e2, fun i => ?_⟩
    rcases k i with ⟨n', v', h1', r', w', e1', e2', e3'⟩ | ⟨n', x', h1', r', -⟩
    · have := sm_run_same r r'
      injection this with ev eh
      subst eh
      have : w = w' := by
        rw [e1, e1'] at ev
        cases w with
        | none => cases w' with
          | none => rfl
          | some y => cases ev
        | some x => cases w' with
          | none => cases ev
          | some y =>
            have ev2 : some (mi_c x) = some (mi_c y) := ev
            injection ev2 with ev3
            rw [mi_c_inj (e2 x rfl) (e2' y rfl) ev3]
      rw [this]
      exact e3'
    · rw [sm_runT_run _ _ _ _ _ _ _ _ r' n] at r
      cases r
  · refine Or.inr ⟨n, x, h1, r, fun i => ?_⟩
    rcases k i with ⟨n', v', h1', r', -⟩ | ⟨n', x', h1', r', e⟩
    · rw [sm_runT_run _ _ _ _ _ _ _ _ r n'] at r'
      cases r'
    · have a := sm_runT_more _ _ _ _ _ _ _ _ r (max n n') d (Nat.le_max_left _ _) (Nat.le_refl _)
      have b := sm_runT_more _ _ _ _ _ _ _ _ r' (max n n') d (Nat.le_max_right _ _) (Nat.le_refl _)
      rw [a] at b
      injection b with b
      injection b with b1 b2
      subst b1
      subst b2
      exact e
/-! the law's wrappers, in one form -/
/-- half way through a pair of calls -/
def hf9 (L : Nat) (xs : Nat → Int32) (h h1 : sm_H) : Prop := ab_Sh sx_sk h1 ∧ lj_J MJ L xs h1 ∧ h1.length ≤ h.length + 1 ∧ sm_sl h1 ≤ sm_sl h + 6
def WO9 (X : Int → Int64 → sm_H → Prop) (L : Nat) (xs : Nat → Int32) (h : sm_H) (v : Option Value) (h1 : sm_H) : Prop := ∃ (k : Int) (y : Int64), v = some (.int (Int32.ofInt k)) ∧ (k = 0 ∨ k = 1 ∨ k = 2 ∨ k = 3) ∧ hf9 L xs h h1 ∧ (k = 0 → ∃ f, h1[171]? = some (.inl (1, 1, .inr (.inl f))) ∧ f 0 = y) ∧ X k y h1
theorem c9_out {h : sm_H} (hS : ab_Sh sx_sk h) : ∃ f, h[171]? = some (.inl (1, 1, .inr (.inl f))) := by
  obtain ⟨f, e, -⟩ := mx_arrL (a := 171) (n := 1) (lo := -9223372036854775808) (hi := 9223372036854775807) (ex := []) hS rfl
  exact ⟨f, e⟩
theorem c9_Fr {h : sm_H} {f : Nat → Int64} {y : Int64} (e : h[171]? = some (.inl (1, 1, .inr (.inl f)))) : ab_Fr [(21888, 21889)] h (mx_pb h 171 0 y) ∧ (mx_pb h 171 0 y)[171]? = some (.inl (1, 1, .inr (.inl (vp_updL f 0 y)))) := by
  have e2 : mx_pb h 171 0 y = h.set 171 (.inl (1, 1, .inr (.inl (vp_updL f 0 y)))) := by
    unfold mx_pb
    rw [e]
  rw [e2]
  exact ⟨ab_Fr_arr e rfl (by decide), List.getElem?_set_self (List.getElem?_eq_some_iff.mp e).1⟩
section W9P
variable {P : Nat → Option sm_M} {PW : Nat → Option sm_MW} {sk : ab_K} {h : sm_H}
theorem w9_path {Q : Option Value → sm_H → Prop} {d m nl k : Nat} {tab : List (Option sm_I)} {al : List (Nat × Nat × Nat × Nat × Nat)} (hM : PW m = some ((nl, k, tab), al)) (hP : mx_Sp sk h) : ∀ (n : Nat) (bs : List Nat) (pc : Nat) (ls : sm_L) (st : List Value) (O : List mx_U) (R : mo_R), mo_path tab sk h n bs pc ls st O = some R → mx_oO sk O → ab_Sh sk (mx_ap O h) → (∀ p ∈ R.2.2.2.2, p) → (ab_Sh sk (mx_ap R.2.2.2.1 h) → mx_oO sk R.2.2.2.1 → wb_Ends P PW d m R.1 R.2.1 R.2.2.1 (mx_ap R.2.2.2.1 h) Q) → wb_Ends P PW d m pc ls st (mx_ap O h) Q := by
  intro n
  induction n with
  | zero =>
    intro bs pc ls st O R hp hO hS ho hk
    simp only [mo_path] at hp
    cases hp
    exact hk hS hO
  | succ n ih =>
    intro bs pc ls st O R hp hO hS ho hk
    simp only [mo_path] at hp
    split at hp
    · next q hq =>
      split at hp
      · next pc' ls' st' O' ob hs =>
        split at hp
        · next pc2 ls2 st2 O2 ob2 hp2 =>
          cases hp
          have ho1 : ∀ p ∈ ob, p := fun p hm => ho p (List.mem_append_left _ hm)
          have ho2 : ∀ p ∈ ob2, p := fun p hm => ho p (List.mem_append_right _ hm)
          obtain ⟨e1, e2, e3⟩ := mo_step_ok hs hP hO hS ho1
          exact wb_Ends.step (M := ((nl, k, tab), al)) hM hq e1 (ih _ _ _ _ _ _ hp2 e3 e2 ho2 hk)
        · cases hp
      · cases hp
    · cases hp
end W9P
section W9W
variable {L : Nat} {xs : Nat → Int32} {h h1 : sm_H} {wr : List (Nat × Nat)} {Q : Option Value → sm_H → Prop} {QT : Nat → sm_H → Prop} {X : Int → Int64 → sm_H → Prop}
/-- a call on the class's own object -/
theorem c3_own9 {pc idx n m : Nat} {ls : sm_L} {vs r : List Value} {st : List Value} (hSh : ab_Sh sx_sk h) (ha : sm_args (n + 1) st = some (.ref 51 :: vs, r)) : sm_step (.invokevirtual idx, 3, [0, n, 0, m]) pc ls st h = some (.inr (.inr (m, .ref 51 :: vs, r))) := by
  have hk : ∃ fl, sx_sk[51]? = some (some (.inr (0, fl))) := ⟨_, rfl⟩
  obtain ⟨fl, hk⟩ := hk
  obtain ⟨fs, ho, -, -⟩ := mx_obj hSh hk
  simp only [sm_step, sm_callV]
  rw [ha]
  dsimp only
  rw [ho]
  rfl
theorem w9_end {m nl d : Nat} {tab : List (Option sm_I)} {al : List (Nat × Nat × Nat × Nat × Nat)} {pc pc' n : Nat} {ls : sm_L} {st : List Value} {y : Int64} (hM : sc_PW m = some ((nl, 1, tab), al)) (hseg : mo_path tab sx_sk h n [] pc ls st [] = some (pc', ls, [.int (Int32.ofInt 0)], [.inr (.inr (171, Int32.toNatClampNeg (Int32.ofInt 0), y))], [0 ≤ (Int32.ofInt 0).toInt ∧ (Int32.ofInt 0).toInt < ((1 : Nat) : Int), (-9223372036854775808) ≤ y.toInt ∧ y.toInt ≤ 9223372036854775807])) (hr : tab[pc']? = some (some (.ireturn, 1, []))) (hS1 : ab_Sh sx_sk h) (hQ : ab_Sh sx_sk (mx_pb h 171 0 y) → Q (some (.int (Int32.ofInt 0))) (mx_pb h 171 0 y)) : wb_Ends sc_P sc_PW d m pc ls st h Q := by
  refine w9_path (h := h) hM (mx_Sh_Sp hS1) n [] pc _ _ [] _ hseg (fun u hu => absurd hu List.not_mem_nil) hS1 ?_ (fun hS2 _ => ?_)
  · intro q hq
    simp only [List.mem_cons, List.not_mem_nil, or_false] at hq
    rcases hq with rfl | rfl
    · exact ⟨by decide, by decide⟩
    · exact ⟨y.le_toInt, Int.le_of_lt_add_one y.toInt_lt⟩
  · exact wb_Ends.ret (q := (.ireturn, 1, [])) (v := some (.int (Int32.ofInt 0))) hM hr rfl rfl (hQ hS2)
theorem w9_ok {y : Int64} (hJ : lj_J MJ L xs h) (hw : ab_sub_wr wr mj_wr = true) (s1 : ab_Sh sx_sk h1) (F : ab_Fr wr h h1) (hS2 : ab_Sh sx_sk (mx_pb h1 171 0 y)) (hX : ∀ h2, rq xq_W h1 h2 → X 0 y h2) : WO9 X L xs h (some (.int (Int32.ofInt 0))) (mx_pb h1 171 0 y) := by
  obtain ⟨f, hf⟩ := c9_out s1
  obtain ⟨f1, f2⟩ := c9_Fr (y := y) hf
  have j1 := lj_fr (MJ := MJ) mj_MJ hJ hw F
  have j2 := lj_fr (MJ := MJ) (wr := [(21888, 21889)]) mj_MJ j1 (by decide) f1
  refine ⟨0, y, rfl, Or.inl rfl, ⟨hS2, j2, by rw [f1.1, F.1]; omega, by rw [f1.2.1, F.2.1]; omega⟩, fun _ => ⟨_, f2, by unfold vp_updL; exact if_pos rfl⟩, hX _ (rq_fr s1 f1)⟩
theorem w9_thr {g : sm_H} {x : Nat} {k : Int} (hJ : lj_J MJ L xs h) (hw : ab_sub_wr wr mj_wr = true) (e : h1 = g ++ [sm_exc x]) (s1 : ab_Sh sx_sk g) (F : ab_Fr wr h g) (hk : k = 1 ∨ k = 2 ∨ k = 3) (hX : X k 0 h1) : WO9 X L xs h (some (.int (Int32.ofInt k))) h1 := by
  subst e
  have j1 := lj_fr (MJ := MJ) mj_MJ hJ hw F
  have hl := xs_len
  have gl := j1.2.1
  refine ⟨k, 0, rfl, Or.inr hk, ⟨lj_app (by omega) s1, ⟨mj_MJ.2 g _ gl j1.1, by rw [List.length_append]; omega, ?_⟩, by rw [List.length_append, F.1]; exact Nat.le_refl _, by rw [sm_sl_app, F.2.1]; exact Nat.le_refl _⟩, fun q => by omega, hX⟩
  rw [List.getElem?_append_left (by omega)]
  exact j1.2.2
set_option maxRecDepth 20000 in
theorem w9_seg0 (h : sm_H) (y : Int64) (v0 v1 : Value) (e : Option Value) : mo_path sw_0 sx_sk h 3 [] 16 [some (.ref 51), some v0, some v1, some (.ref 171), e] [.long y, .int (Int32.ofInt 0), .ref 171] [] = some (25, [some (.ref 51), some v0, some v1, some (.ref 171), e], [.int (Int32.ofInt 0)], [.inr (.inr (171, Int32.toNatClampNeg (Int32.ofInt 0), y))], [0 ≤ (Int32.ofInt 0).toInt ∧ (Int32.ofInt 0).toInt < ((1 : Nat) : Int), (-9223372036854775808) ≤ y.toInt ∧ y.toInt ≤ 9223372036854775807]) := rfl
set_option maxRecDepth 20000 in
theorem w9_type {p : Int32} {z : Int32} {d : Nat} (hSh : ab_Sh sx_sk h) (hJ : lj_J MJ L xs h) (hw : ab_sub_wr wr mj_wr = true) (k : ab_EndsX sc_P QT d 95 0 (sm_entry 3 [.ref 51, .int p, .int z]) [] h Q) (hQ : ∀ v h1, Q v h1 → ∃ z : Int32, v = some (.int z) ∧ ab_Sh sx_sk h1 ∧ ab_Fr wr h h1 ∧ ∀ h2, rq xq_W h1 h2 → X 0 (if z = Int32.ofInt 0 then Int64.ofNat 0 else Int64.ofNat 1) h2) (hT : ∀ x h1, QT x h1 → ∃ g, h1 = g ++ [sm_exc x] ∧ ab_Sh sx_sk g ∧ ab_Fr wr h g ∧ ((x = 12 ∧ X 1 0 h1))) : wb_Ends sc_P sc_PW (d + 1) 2000 0 (sm_entry 5 [.ref 51, .int p, .int z, .ref 171]) [] h (WO9 X L xs h) := by
  have hM : sc_PW 2000 = some ((5, 1, sw_0), sw_h0) := rfl
  refine wb_Ends.step hM (q := (.aload_n 3, 1, [])) rfl rfl ?_
  refine wb_Ends.step hM (q := (.iconst 0, 1, [])) rfl rfl ?_
  refine wb_Ends.step hM (q := (.aload_n 0, 1, [])) rfl rfl ?_
  refine wb_Ends.step hM (q := (.iload_n 1, 1, [])) rfl rfl ?_
  refine wb_Ends.step hM (q := (.iload_n 2, 1, [])) rfl rfl ?_
  refine wb_Ends.call (q := (.invokevirtual 7, 3, [0, 2, 0, 95])) (M' := (3, 4, sb_95)) (m' := 95) (as := [.ref 51, .int p, .int z]) (r := [.int (Int32.ofInt 0), .ref 171]) hM rfl (c3_own9 hSh rfl) rfl (by decide : (sm_slots [Value.ref 51, .int 0, .int 0]).length ≤ 3) (by simp [Value.category]) k (fun v h1 hq => ?_) (fun x h1 ht => ?_)
  · obtain ⟨zr, rfl, s1, F, hX⟩ := hQ v h1 hq
    by_cases hy : zr = Int32.ofInt 0
    · refine wb_Ends.step hM (q := (.ifCond .eq 7, 3, [])) (pc' := 15) (ls' := [some (.ref 51), some (.int p), some (.int z), some (.ref 171), none]) (st' := [.int (Int32.ofInt 0), .ref 171]) (h' := h1) rfl ?_ ?_
      · subst hy
        rfl
      · refine wb_Ends.step hM (q := (.lconst 0, 1, [])) rfl rfl ?_
        refine w9_end hM (w9_seg0 h1 _ _ _ _) rfl s1 (fun hS2 => w9_ok hJ hw s1 F hS2 (fun h2 r => ?_))
        have := hX h2 r
        rw [if_pos hy] at this
        exact this
    · refine wb_Ends.step hM (q := (.ifCond .eq 7, 3, [])) (pc' := 11) (ls' := [some (.ref 51), some (.int p), some (.int z), some (.ref 171), none]) (st' := [.int (Int32.ofInt 0), .ref 171]) (h' := h1) rfl ?_ ?_
      · show sm_if (sm_cmp .eq zr 0) 8 7 _ _ h1 = _
        have : sm_cmp .eq zr 0 = false := decide_eq_false hy
        rw [this]
        rfl
      · refine wb_Ends.step hM (q := (.lconst 1, 1, [])) rfl rfl ?_
        refine wb_Ends.step hM (q := (.goto 4, 3, [])) rfl rfl ?_
        refine w9_end hM (w9_seg0 h1 _ _ _ _) rfl s1 (fun hS2 => w9_ok hJ hw s1 F hS2 (fun h2 r => ?_))
        have := hX h2 r
        rw [if_neg hy] at this
        exact this
  · obtain ⟨g, e, s1, F, hx⟩ := hT x h1 ht
    obtain ⟨rfl, hx⟩ := hx
    refine ⟨20, rfl, ?_⟩
    refine wb_Ends.step hM (q := (.astore 4, 2, [])) rfl rfl ?_
    refine wb_Ends.step hM (q := (.iconst 1, 1, [])) rfl rfl ?_
    exact wb_Ends.ret (q := (.ireturn, 1, [])) (v := some (.int (Int32.ofInt 1))) hM rfl rfl rfl (w9_thr hJ hw e s1 F (by decide) hx)
set_option maxRecDepth 20000 in
theorem w9_seg1 (h : sm_H) (r : Int32) (v0 : Value) (e : Option Value) : mo_path sw_1 sx_sk h 4 [] 7 [some (.ref 51), some v0, some (.ref 171), e] [.int r, .int (Int32.ofInt 0), .ref 171] [] = some (16, [some (.ref 51), some v0, some (.ref 171), e], [.int (Int32.ofInt 0)], [.inr (.inr (171, Int32.toNatClampNeg (Int32.ofInt 0), r.toInt64))], [0 ≤ (Int32.ofInt 0).toInt ∧ (Int32.ofInt 0).toInt < ((1 : Nat) : Int), (-9223372036854775808) ≤ r.toInt64.toInt ∧ r.toInt64.toInt ≤ 9223372036854775807]) := rfl
set_option maxRecDepth 20000 in
theorem w9_clear {p : Int32} {d : Nat} (hSh : ab_Sh sx_sk h) (hJ : lj_J MJ L xs h) (hw : ab_sub_wr wr mj_wr = true) (k : ab_EndsX sc_P QT d 97 0 (sm_entry 3 [.ref 51, .int p]) [] h Q) (hQ : ∀ v h1, Q v h1 → ∃ z : Int32, v = some (.int z) ∧ ab_Sh sx_sk h1 ∧ ab_Fr wr h h1 ∧ ∀ h2, rq xq_W h1 h2 → X 0 z.toInt64 h2) (hT : ∀ x h1, QT x h1 → ∃ g, h1 = g ++ [sm_exc x] ∧ ab_Sh sx_sk g ∧ ab_Fr wr h g ∧ ((x = 12 ∧ X 1 0 h1))) : wb_Ends sc_P sc_PW (d + 1) 2001 0 (sm_entry 4 [.ref 51, .int p, .ref 171]) [] h (WO9 X L xs h) := by
  have hM : sc_PW 2001 = some ((4, 1, sw_1), sw_h1) := rfl
  refine wb_Ends.step hM (q := (.aload_n 2, 1, [])) rfl rfl ?_
  refine wb_Ends.step hM (q := (.iconst 0, 1, [])) rfl rfl ?_
  refine wb_Ends.step hM (q := (.aload_n 0, 1, [])) rfl rfl ?_
  refine wb_Ends.step hM (q := (.iload_n 1, 1, [])) rfl rfl ?_
  refine wb_Ends.call (q := (.invokevirtual 15, 3, [0, 1, 0, 97])) (M' := (3, 1, sb_97)) (m' := 97) (as := [.ref 51, .int p]) (r := [.int (Int32.ofInt 0), .ref 171]) hM rfl (c3_own9 hSh rfl) rfl (by decide : (sm_slots [Value.ref 51, .int 0]).length ≤ 3) (by simp [Value.category]) k (fun v h1 hq => ?_) (fun x h1 ht => ?_)
  · obtain ⟨zr, rfl, s1, F, hX⟩ := hQ v h1 hq
    exact w9_end hM (w9_seg1 h1 _ _ _) rfl s1 (fun hS2 => w9_ok hJ hw s1 F hS2 hX)
  · obtain ⟨g, e, s1, F, hx⟩ := hT x h1 ht
    obtain ⟨rfl, hx⟩ := hx
    refine ⟨12, rfl, ?_⟩
    refine wb_Ends.step hM (q := (.astore_n 3, 1, [])) rfl rfl ?_
    refine wb_Ends.step hM (q := (.iconst 1, 1, [])) rfl rfl ?_
    exact wb_Ends.ret (q := (.ireturn, 1, [])) (v := some (.int (Int32.ofInt 1))) hM rfl rfl rfl (w9_thr hJ hw e s1 F (by decide) hx)
set_option maxRecDepth 20000 in
theorem w9_seg2 (h : sm_H) (r : Int32) (v0 : Value) (e : Option Value) : mo_path sw_2 sx_sk h 4 [] 7 [some (.ref 51), some v0, some (.ref 171), e] [.int r, .int (Int32.ofInt 0), .ref 171] [] = some (16, [some (.ref 51), some v0, some (.ref 171), e], [.int (Int32.ofInt 0)], [.inr (.inr (171, Int32.toNatClampNeg (Int32.ofInt 0), r.toInt64))], [0 ≤ (Int32.ofInt 0).toInt ∧ (Int32.ofInt 0).toInt < ((1 : Nat) : Int), (-9223372036854775808) ≤ r.toInt64.toInt ∧ r.toInt64.toInt ≤ 9223372036854775807]) := rfl
set_option maxRecDepth 20000 in
theorem w9_sample {p : Int32} {d : Nat} (hSh : ab_Sh sx_sk h) (hJ : lj_J MJ L xs h) (hw : ab_sub_wr wr mj_wr = true) (k : ab_EndsX sc_P QT d 98 0 (sm_entry 2 [.ref 51, .int p]) [] h Q) (hQ : ∀ v h1, Q v h1 → ∃ z : Int32, v = some (.int z) ∧ ab_Sh sx_sk h1 ∧ ab_Fr wr h h1 ∧ ∀ h2, rq xq_W h1 h2 → X 0 z.toInt64 h2) (hT : ∀ x h1, QT x h1 → ∃ g, h1 = g ++ [sm_exc x] ∧ ab_Sh sx_sk g ∧ ab_Fr wr h g ∧ ((x = 13 ∧ X 1 0 h1))) : wb_Ends sc_P sc_PW (d + 1) 2002 0 (sm_entry 4 [.ref 51, .int p, .ref 171]) [] h (WO9 X L xs h) := by
  have hM : sc_PW 2002 = some ((4, 1, sw_2), sw_h2) := rfl
  refine wb_Ends.step hM (q := (.aload_n 2, 1, [])) rfl rfl ?_
  refine wb_Ends.step hM (q := (.iconst 0, 1, [])) rfl rfl ?_
  refine wb_Ends.step hM (q := (.aload_n 0, 1, [])) rfl rfl ?_
  refine wb_Ends.step hM (q := (.iload_n 1, 1, [])) rfl rfl ?_
  refine wb_Ends.call (q := (.invokevirtual 19, 3, [0, 1, 0, 98])) (M' := (2, 1, sb_98)) (m' := 98) (as := [.ref 51, .int p]) (r := [.int (Int32.ofInt 0), .ref 171]) hM rfl (c3_own9 hSh rfl) rfl (by decide : (sm_slots [Value.ref 51, .int 0]).length ≤ 2) (by simp [Value.category]) k (fun v h1 hq => ?_) (fun x h1 ht => ?_)
  · obtain ⟨zr, rfl, s1, F, hX⟩ := hQ v h1 hq
    exact w9_end hM (w9_seg2 h1 _ _ _) rfl s1 (fun hS2 => w9_ok hJ hw s1 F hS2 hX)
  · obtain ⟨g, e, s1, F, hx⟩ := hT x h1 ht
    obtain ⟨rfl, hx⟩ := hx
    refine ⟨12, rfl, ?_⟩
    refine wb_Ends.step hM (q := (.astore_n 3, 1, [])) rfl rfl ?_
    refine wb_Ends.step hM (q := (.iconst 1, 1, [])) rfl rfl ?_
    exact wb_Ends.ret (q := (.ireturn, 1, [])) (v := some (.int (Int32.ofInt 1))) hM rfl rfl rfl (w9_thr hJ hw e s1 F (by decide) hx)
set_option maxRecDepth 20000 in
theorem w9_seg4 (h : sm_H) (r : Int32) (e : Option Value) : mo_path sw_4 sx_sk h 4 [] 6 [some (.ref 51), some (.ref 171), e] [.int r, .int (Int32.ofInt 0), .ref 171] [] = some (18, [some (.ref 51), some (.ref 171), e], [.int (Int32.ofInt 0)], [.inr (.inr (171, Int32.toNatClampNeg (Int32.ofInt 0), r.toInt64))], [0 ≤ (Int32.ofInt 0).toInt ∧ (Int32.ofInt 0).toInt < ((1 : Nat) : Int), (-9223372036854775808) ≤ r.toInt64.toInt ∧ r.toInt64.toInt ≤ 9223372036854775807]) := rfl
set_option maxRecDepth 20000 in
theorem w9_parse  {d : Nat} (hSh : ab_Sh sx_sk h) (hJ : lj_J MJ L xs h) (hw : ab_sub_wr wr mj_wr = true) (k : ab_EndsX sc_P QT d 102 0 (sm_entry 1 [.ref 51]) [] h Q) (hQ : ∀ v h1, Q v h1 → ∃ z : Int32, v = some (.int z) ∧ ab_Sh sx_sk h1 ∧ ab_Fr wr h h1 ∧ ∀ h2, rq xq_W h1 h2 → X 0 z.toInt64 h2) (hT : ∀ x h1, QT x h1 → ∃ g, h1 = g ++ [sm_exc x] ∧ ab_Sh sx_sk g ∧ ab_Fr wr h g ∧ ((x = 14 ∧ X 1 0 h1) ∨ (x = 15 ∧ X 2 0 h1))) : wb_Ends sc_P sc_PW (d + 1) 2004 0 (sm_entry 3 [.ref 51, .ref 171]) [] h (WO9 X L xs h) := by
  have hM : sc_PW 2004 = some ((3, 1, sw_4), sw_h4) := rfl
  refine wb_Ends.step hM (q := (.aload_n 1, 1, [])) rfl rfl ?_
  refine wb_Ends.step hM (q := (.iconst 0, 1, [])) rfl rfl ?_
  refine wb_Ends.step hM (q := (.aload_n 0, 1, [])) rfl rfl ?_
  refine wb_Ends.call (q := (.invokevirtual 30, 3, [0, 0, 0, 102])) (M' := (1, 1, sb_102)) (m' := 102) (as := [.ref 51]) (r := [.int (Int32.ofInt 0), .ref 171]) hM rfl (c3_own9 hSh rfl) rfl (by decide : (sm_slots [Value.ref 51]).length ≤ 1) (by simp [Value.category]) k (fun v h1 hq => ?_) (fun x h1 ht => ?_)
  · obtain ⟨zr, rfl, s1, F, hX⟩ := hQ v h1 hq
    exact w9_end hM (w9_seg4 h1 _  _) rfl s1 (fun hS2 => w9_ok hJ hw s1 F hS2 hX)
  · obtain ⟨g, e, s1, F, hx⟩ := hT x h1 ht
    rcases hx with ⟨rfl, hx⟩ | ⟨rfl, hx⟩
    · refine ⟨11, rfl, ?_⟩
      refine wb_Ends.step hM (q := (.astore_n 2, 1, [])) rfl rfl ?_
      refine wb_Ends.step hM (q := (.iconst 1, 1, [])) rfl rfl ?_
      exact wb_Ends.ret (q := (.ireturn, 1, [])) (v := some (.int (Int32.ofInt 1))) hM rfl rfl rfl (w9_thr hJ hw e s1 F (by decide) hx)
    · refine ⟨14, rfl, ?_⟩
      refine wb_Ends.step hM (q := (.astore_n 2, 1, [])) rfl rfl ?_
      refine wb_Ends.step hM (q := (.iconst 2, 1, [])) rfl rfl ?_
      exact wb_Ends.ret (q := (.ireturn, 1, [])) (v := some (.int (Int32.ofInt 2))) hM rfl rfl rfl (w9_thr hJ hw e s1 F (by decide) hx)
set_option maxRecDepth 20000 in
theorem w9_seg5 (h : sm_H) (r : Int32) (v0 v1 : Value) (e : Option Value) : mo_path sw_5 sx_sk h 4 [] 9 [some (.ref 51), some v0, none, some v1, some (.ref 171), e] [.int r, .int (Int32.ofInt 0), .ref 171] [] = some (27, [some (.ref 51), some v0, none, some v1, some (.ref 171), e], [.int (Int32.ofInt 0)], [.inr (.inr (171, Int32.toNatClampNeg (Int32.ofInt 0), r.toInt64))], [0 ≤ (Int32.ofInt 0).toInt ∧ (Int32.ofInt 0).toInt < ((1 : Nat) : Int), (-9223372036854775808) ≤ r.toInt64.toInt ∧ r.toInt64.toInt ≤ 9223372036854775807]) := rfl
set_option maxRecDepth 20000 in
theorem w9_grow {zx : Int64} {f : Int32} {d : Nat} (hSh : ab_Sh sx_sk h) (hJ : lj_J MJ L xs h) (hw : ab_sub_wr wr mj_wr = true) (k : ab_EndsX sc_P QT d 158 0 (sm_entry 4 [.ref 51, .long zx, .int f]) [] h Q) (hQ : ∀ v h1, Q v h1 → ∃ z : Int32, v = some (.int z) ∧ ab_Sh sx_sk h1 ∧ ab_Fr wr h h1 ∧ ∀ h2, rq xq_W h1 h2 → X 0 z.toInt64 h2) (hT : ∀ x h1, QT x h1 → ∃ g, h1 = g ++ [sm_exc x] ∧ ab_Sh sx_sk g ∧ ab_Fr wr h g ∧ ((x = 13 ∧ X 1 0 h1) ∨ (x = 14 ∧ X 2 0 h1) ∨ (x = 15 ∧ X 3 0 h1))) : wb_Ends sc_P sc_PW (d + 1) 2005 0 (sm_entry 6 [.ref 51, .long zx, .int f, .ref 171]) [] h (WO9 X L xs h) := by
  have hM : sc_PW 2005 = some ((6, 1, sw_5), sw_h5) := rfl
  refine wb_Ends.step hM (q := (.aload 4, 2, [])) rfl rfl ?_
  refine wb_Ends.step hM (q := (.iconst 0, 1, [])) rfl rfl ?_
  refine wb_Ends.step hM (q := (.aload_n 0, 1, [])) rfl rfl ?_
  refine wb_Ends.step hM (q := (.lload_n 1, 1, [])) rfl rfl ?_
  refine wb_Ends.step hM (q := (.iload_n 3, 1, [])) rfl rfl ?_
  refine wb_Ends.call (q := (.invokevirtual 36, 3, [0, 2, 0, 158])) (M' := (4, 1, sb_158)) (m' := 158) (as := [.ref 51, .long zx, .int f]) (r := [.int (Int32.ofInt 0), .ref 171]) hM rfl (c3_own9 hSh rfl) rfl (by decide : (sm_slots [Value.ref 51, .long 0, .int 0]).length ≤ 4) (by simp [Value.category]) k (fun v h1 hq => ?_) (fun x h1 ht => ?_)
  · obtain ⟨zr, rfl, s1, F, hX⟩ := hQ v h1 hq
    exact w9_end hM (w9_seg5 h1 _ _ _ _) rfl s1 (fun hS2 => w9_ok hJ hw s1 F hS2 hX)
  · obtain ⟨g, e, s1, F, hx⟩ := hT x h1 ht
    rcases hx with ⟨rfl, hx⟩ | ⟨rfl, hx⟩ | ⟨rfl, hx⟩
    · refine ⟨14, rfl, ?_⟩
      refine wb_Ends.step hM (q := (.astore 5, 2, [])) rfl rfl ?_
      refine wb_Ends.step hM (q := (.iconst 1, 1, [])) rfl rfl ?_
      exact wb_Ends.ret (q := (.ireturn, 1, [])) (v := some (.int (Int32.ofInt 1))) hM rfl rfl rfl (w9_thr hJ hw e s1 F (by decide) hx)
    · refine ⟨18, rfl, ?_⟩
      refine wb_Ends.step hM (q := (.astore 5, 2, [])) rfl rfl ?_
      refine wb_Ends.step hM (q := (.iconst 2, 1, [])) rfl rfl ?_
      exact wb_Ends.ret (q := (.ireturn, 1, [])) (v := some (.int (Int32.ofInt 2))) hM rfl rfl rfl (w9_thr hJ hw e s1 F (by decide) hx)
    · refine ⟨22, rfl, ?_⟩
      refine wb_Ends.step hM (q := (.astore 5, 2, [])) rfl rfl ?_
      refine wb_Ends.step hM (q := (.iconst 3, 1, [])) rfl rfl ?_
      exact wb_Ends.ret (q := (.ireturn, 1, [])) (v := some (.int (Int32.ofInt 3))) hM rfl rfl rfl (w9_thr hJ hw e s1 F (by decide) hx)
set_option maxRecDepth 20000 in
theorem w9_seg6 (h : sm_H) (y : Int64) (v0 v1 : Value) (e : Option Value) : mo_path sw_6 sx_sk h 3 [] 8 [some (.ref 51), some v0, some v1, some (.ref 171), e] [.long y, .int (Int32.ofInt 0), .ref 171] [] = some (21, [some (.ref 51), some v0, some v1, some (.ref 171), e], [.int (Int32.ofInt 0)], [.inr (.inr (171, Int32.toNatClampNeg (Int32.ofInt 0), y))], [0 ≤ (Int32.ofInt 0).toInt ∧ (Int32.ofInt 0).toInt < ((1 : Nat) : Int), (-9223372036854775808) ≤ y.toInt ∧ y.toInt ≤ 9223372036854775807]) := rfl
set_option maxRecDepth 20000 in
theorem w9_node {p : Int32} {q : Int32} {d : Nat} (hSh : ab_Sh sx_sk h) (hJ : lj_J MJ L xs h) (hw : ab_sub_wr wr mj_wr = true) (k : ab_EndsX sc_P QT d 160 0 (sm_entry 3 [.ref 51, .int p, .int q]) [] h Q) (hQ : ∀ v h1, Q v h1 → ∃ z : Int64, v = some (.long z) ∧ ab_Sh sx_sk h1 ∧ ab_Fr wr h h1 ∧ ∀ h2, rq xq_W h1 h2 → X 0 z h2) (hT : ∀ x h1, QT x h1 → ∃ g, h1 = g ++ [sm_exc x] ∧ ab_Sh sx_sk g ∧ ab_Fr wr h g ∧ ((x = 16 ∧ X 1 0 h1) ∨ (x = 13 ∧ X 2 0 h1))) : wb_Ends sc_P sc_PW (d + 1) 2006 0 (sm_entry 5 [.ref 51, .int p, .int q, .ref 171]) [] h (WO9 X L xs h) := by
  have hM : sc_PW 2006 = some ((5, 1, sw_6), sw_h6) := rfl
  refine wb_Ends.step hM (q := (.aload_n 3, 1, [])) rfl rfl ?_
  refine wb_Ends.step hM (q := (.iconst 0, 1, [])) rfl rfl ?_
  refine wb_Ends.step hM (q := (.aload_n 0, 1, [])) rfl rfl ?_
  refine wb_Ends.step hM (q := (.iload_n 1, 1, [])) rfl rfl ?_
  refine wb_Ends.step hM (q := (.iload_n 2, 1, [])) rfl rfl ?_
  refine wb_Ends.call (q := (.invokevirtual 40, 3, [0, 2, 0, 160])) (M' := (3, 2, sb_160)) (m' := 160) (as := [.ref 51, .int p, .int q]) (r := [.int (Int32.ofInt 0), .ref 171]) hM rfl (c3_own9 hSh rfl) rfl (by decide : (sm_slots [Value.ref 51, .int 0, .int 0]).length ≤ 3) (by simp [Value.category]) k (fun v h1 hq => ?_) (fun x h1 ht => ?_)
  · obtain ⟨zr, rfl, s1, F, hX⟩ := hQ v h1 hq
    exact w9_end hM (w9_seg6 h1 _ _ _ _) rfl s1 (fun hS2 => w9_ok hJ hw s1 F hS2 hX)
  · obtain ⟨g, e, s1, F, hx⟩ := hT x h1 ht
    rcases hx with ⟨rfl, hx⟩ | ⟨rfl, hx⟩
    · refine ⟨12, rfl, ?_⟩
      refine wb_Ends.step hM (q := (.astore 4, 2, [])) rfl rfl ?_
      refine wb_Ends.step hM (q := (.iconst 1, 1, [])) rfl rfl ?_
      exact wb_Ends.ret (q := (.ireturn, 1, [])) (v := some (.int (Int32.ofInt 1))) hM rfl rfl rfl (w9_thr hJ hw e s1 F (by decide) hx)
    · refine ⟨16, rfl, ?_⟩
      refine wb_Ends.step hM (q := (.astore 4, 2, [])) rfl rfl ?_
      refine wb_Ends.step hM (q := (.iconst 2, 1, [])) rfl rfl ?_
      exact wb_Ends.ret (q := (.ireturn, 1, [])) (v := some (.int (Int32.ofInt 2))) hM rfl rfl rfl (w9_thr hJ hw e s1 F (by decide) hx)
set_option maxRecDepth 20000 in
theorem w9_seg7 (h : sm_H) (y : Int64) (v0 v1 : Value) (e : Option Value) : mo_path sw_7 sx_sk h 3 [] 17 [some (.ref 51), some v0, some v1, none, some (.ref 171), e] [.long y, .int (Int32.ofInt 0), .ref 171] [] = some (26, [some (.ref 51), some v0, some v1, none, some (.ref 171), e], [.int (Int32.ofInt 0)], [.inr (.inr (171, Int32.toNatClampNeg (Int32.ofInt 0), y))], [0 ≤ (Int32.ofInt 0).toInt ∧ (Int32.ofInt 0).toInt < ((1 : Nat) : Int), (-9223372036854775808) ≤ y.toInt ∧ y.toInt ≤ 9223372036854775807]) := rfl
set_option maxRecDepth 20000 in
theorem w9_set {p : Int32} {zv : Int64} {d : Nat} (hSh : ab_Sh sx_sk h) (hJ : lj_J MJ L xs h) (hw : ab_sub_wr wr mj_wr = true) (k : ab_EndsX sc_P QT d 162 0 (sm_entry 6 [.ref 51, .int p, .long zv]) [] h Q) (hQ : ∀ v h1, Q v h1 → ∃ z : Int32, v = some (.int z) ∧ ab_Sh sx_sk h1 ∧ ab_Fr wr h h1 ∧ ∀ h2, rq xq_W h1 h2 → X 0 (if z = Int32.ofInt 0 then Int64.ofNat 0 else Int64.ofNat 1) h2) (hT : ∀ x h1, QT x h1 → ∃ g, h1 = g ++ [sm_exc x] ∧ ab_Sh sx_sk g ∧ ab_Fr wr h g ∧ ((x = 16 ∧ X 1 0 h1))) : wb_Ends sc_P sc_PW (d + 1) 2007 0 (sm_entry 6 [.ref 51, .int p, .long zv, .ref 171]) [] h (WO9 X L xs h) := by
  have hM : sc_PW 2007 = some ((6, 1, sw_7), sw_h7) := rfl
  refine wb_Ends.step hM (q := (.aload 4, 2, [])) rfl rfl ?_
  refine wb_Ends.step hM (q := (.iconst 0, 1, [])) rfl rfl ?_
  refine wb_Ends.step hM (q := (.aload_n 0, 1, [])) rfl rfl ?_
  refine wb_Ends.step hM (q := (.iload_n 1, 1, [])) rfl rfl ?_
  refine wb_Ends.step hM (q := (.lload_n 2, 1, [])) rfl rfl ?_
  refine wb_Ends.call (q := (.invokevirtual 45, 3, [0, 2, 0, 162])) (M' := (6, 4, sb_162)) (m' := 162) (as := [.ref 51, .int p, .long zv]) (r := [.int (Int32.ofInt 0), .ref 171]) hM rfl (c3_own9 hSh rfl) rfl (by decide : (sm_slots [Value.ref 51, .int 0, .long 0]).length ≤ 6) (by simp [Value.category]) k (fun v h1 hq => ?_) (fun x h1 ht => ?_)
  · obtain ⟨zr, rfl, s1, F, hX⟩ := hQ v h1 hq
    by_cases hy : zr = Int32.ofInt 0
    · refine wb_Ends.step hM (q := (.ifCond .eq 7, 3, [])) (pc' := 16) (ls' := [some (.ref 51), some (.int p), some (.long zv), none, some (.ref 171), none]) (st' := [.int (Int32.ofInt 0), .ref 171]) (h' := h1) rfl ?_ ?_
      · subst hy
        rfl
      · refine wb_Ends.step hM (q := (.lconst 0, 1, [])) rfl rfl ?_
        refine w9_end hM (w9_seg7 h1 _ _ _ _) rfl s1 (fun hS2 => w9_ok hJ hw s1 F hS2 (fun h2 r => ?_))
        have := hX h2 r
        rw [if_pos hy] at this
        exact this
    · refine wb_Ends.step hM (q := (.ifCond .eq 7, 3, [])) (pc' := 12) (ls' := [some (.ref 51), some (.int p), some (.long zv), none, some (.ref 171), none]) (st' := [.int (Int32.ofInt 0), .ref 171]) (h' := h1) rfl ?_ ?_
      · show sm_if (sm_cmp .eq zr 0) 9 7 _ _ h1 = _
        have : sm_cmp .eq zr 0 = false := decide_eq_false hy
        rw [this]
        rfl
      · refine wb_Ends.step hM (q := (.lconst 1, 1, [])) rfl rfl ?_
        refine wb_Ends.step hM (q := (.goto 4, 3, [])) rfl rfl ?_
        refine w9_end hM (w9_seg7 h1 _ _ _ _) rfl s1 (fun hS2 => w9_ok hJ hw s1 F hS2 (fun h2 r => ?_))
        have := hX h2 r
        rw [if_neg hy] at this
        exact this
  · obtain ⟨g, e, s1, F, hx⟩ := hT x h1 ht
    obtain ⟨rfl, hx⟩ := hx
    refine ⟨21, rfl, ?_⟩
    refine wb_Ends.step hM (q := (.astore 5, 2, [])) rfl rfl ?_
    refine wb_Ends.step hM (q := (.iconst 1, 1, [])) rfl rfl ?_
    exact wb_Ends.ret (q := (.ireturn, 1, [])) (v := some (.int (Int32.ofInt 1))) hM rfl rfl rfl (w9_thr hJ hw e s1 F (by decide) hx)
set_option maxRecDepth 20000 in
theorem w9_seg8 (h : sm_H) (r : Int32) (e : Option Value) : mo_path sw_8 sx_sk h 4 [] 6 [some (.ref 51), some (.ref 171), e] [.int r, .int (Int32.ofInt 0), .ref 171] [] = some (18, [some (.ref 51), some (.ref 171), e], [.int (Int32.ofInt 0)], [.inr (.inr (171, Int32.toNatClampNeg (Int32.ofInt 0), r.toInt64))], [0 ≤ (Int32.ofInt 0).toInt ∧ (Int32.ofInt 0).toInt < ((1 : Nat) : Int), (-9223372036854775808) ≤ r.toInt64.toInt ∧ r.toInt64.toInt ≤ 9223372036854775807]) := rfl
set_option maxRecDepth 20000 in
theorem w9_print  {d : Nat} (hSh : ab_Sh sx_sk h) (hJ : lj_J MJ L xs h) (hw : ab_sub_wr wr mj_wr = true) (k : ab_EndsX sc_P QT d 164 0 (sm_entry 1 [.ref 51]) [] h Q) (hQ : ∀ v h1, Q v h1 → ∃ z : Int32, v = some (.int z) ∧ ab_Sh sx_sk h1 ∧ ab_Fr wr h h1 ∧ ∀ h2, rq xq_W h1 h2 → X 0 z.toInt64 h2) (hT : ∀ x h1, QT x h1 → ∃ g, h1 = g ++ [sm_exc x] ∧ ab_Sh sx_sk g ∧ ab_Fr wr h g ∧ ((x = 14 ∧ X 1 0 h1) ∨ (x = 15 ∧ X 2 0 h1))) : wb_Ends sc_P sc_PW (d + 1) 2008 0 (sm_entry 3 [.ref 51, .ref 171]) [] h (WO9 X L xs h) := by
  have hM : sc_PW 2008 = some ((3, 1, sw_8), sw_h8) := rfl
  refine wb_Ends.step hM (q := (.aload_n 1, 1, [])) rfl rfl ?_
  refine wb_Ends.step hM (q := (.iconst 0, 1, [])) rfl rfl ?_
  refine wb_Ends.step hM (q := (.aload_n 0, 1, [])) rfl rfl ?_
  refine wb_Ends.call (q := (.invokevirtual 49, 3, [0, 0, 0, 164])) (M' := (1, 1, sb_164)) (m' := 164) (as := [.ref 51]) (r := [.int (Int32.ofInt 0), .ref 171]) hM rfl (c3_own9 hSh rfl) rfl (by decide : (sm_slots [Value.ref 51]).length ≤ 1) (by simp [Value.category]) k (fun v h1 hq => ?_) (fun x h1 ht => ?_)
  · obtain ⟨zr, rfl, s1, F, hX⟩ := hQ v h1 hq
    exact w9_end hM (w9_seg8 h1 _  _) rfl s1 (fun hS2 => w9_ok hJ hw s1 F hS2 hX)
  · obtain ⟨g, e, s1, F, hx⟩ := hT x h1 ht
    rcases hx with ⟨rfl, hx⟩ | ⟨rfl, hx⟩
    · refine ⟨11, rfl, ?_⟩
      refine wb_Ends.step hM (q := (.astore_n 2, 1, [])) rfl rfl ?_
      refine wb_Ends.step hM (q := (.iconst 1, 1, [])) rfl rfl ?_
      exact wb_Ends.ret (q := (.ireturn, 1, [])) (v := some (.int (Int32.ofInt 1))) hM rfl rfl rfl (w9_thr hJ hw e s1 F (by decide) hx)
    · refine ⟨14, rfl, ?_⟩
      refine wb_Ends.step hM (q := (.astore_n 2, 1, [])) rfl rfl ?_
      refine wb_Ends.step hM (q := (.iconst 2, 1, [])) rfl rfl ?_
      exact wb_Ends.ret (q := (.ireturn, 1, [])) (v := some (.int (Int32.ofInt 2))) hM rfl rfl rfl (w9_thr hJ hw e s1 F (by decide) hx)
end W9W
/-! walks once more; sizes -/
section GRP
variable {g g' : wk_g} {kw : Int → Bool} {E : pm_E}
theorem g9_at {n : Nat} {s : gm_S} {c : gm_C} (h : gm_to g kw n ([], s) c) : c = ([], s) := by
  cases n with
  | zero =>
    have h : ([], s) = c := h
    exact h.symm
  | succ n =>
    obtain ⟨e, r, c1, h1, -⟩ := h
    have h1 : ([] : List wk_E) = e :: r := h1
    cases h1
theorem g9_det {m : Option gm_C} {s t : gm_S} (a : gm_RO g kw m ([], s)) (b : gm_RO g kw m ([], t)) : s = t := by
  obtain ⟨c1, n1, e1, a⟩ := a
  obtain ⟨c2, n2, e2, b⟩ := b
  have e : c2 = c1 := Option.some.inj (e2.symm.trans e1)
  subst e
  rcases Nat.le_total n1 n2 with l | l
  · exact (congrArg Prod.snd (g9_at (gm_det n1 n2 _ a b l))).symm
  · exact congrArg Prod.snd (g9_at (gm_det n2 n1 _ b a l))
theorem g9_not {m : Option gm_C} {s : gm_S} (a : gm_RO g kw m ([], s)) (b : gm_NO g kw m) : False := by
  obtain ⟨c1, n1, e1, a⟩ := a
  rcases b with b | ⟨c2, n2, e2, b⟩
  · rw [e1] at b; cases b
  · have e : c2 = c1 := Option.some.inj (e2.symm.trans e1)
    subst e
    obtain ⟨-, k⟩ := gm_detn n1 n2 _ a b
    generalize n2 - n1 = j at k
    cases j with
    | zero =>
      obtain ⟨e, r, h1, -⟩ := k
      have h1 : ([] : List wk_E) = e :: r := h1
      cases h1
    | succ j =>
      obtain ⟨e, r, c1, h1, -⟩ := k
      have h1 : ([] : List wk_E) = e :: r := h1
      cases h1
theorem gc9_0 (g : wk_g) (zx : Int64) (zf : Int) : gc_0 g zx zf = some (gr_c0 g zx zf) := rfl
theorem gr9_c0 (hg : wk_gc g g') (zx : Int64) (zf : Int) : gr_c0 g' zx zf = gr_c0 g zx zf := by
  unfold gr_c0
  rw [hg 114 (by decide)]
theorem pc9_0 (hg : wk_gc g g') : pc_0 g' 0 = pc_0 g 0 := by
  rw [pc_0_e, pc_0_e, hg 114 (by decide)]
theorem pm_NO_g (hg : wk_gc g g') (k : pm_NO g' E (pc_0 g' 0)) : pm_NO g E (pc_0 g 0) := by
  intro c1 hc n s' hs
  rw [pc9_0 hg] at k
  exact k c1 hc n s' (by rw [pm_st_g hg]; exact hs)
theorem pm_RO_g {c : gm_C} (hg : wk_gc g g') (k : pm_RO g' E (pc_0 g' 0) c) : pm_RO g E (pc_0 g 0) c := by
  obtain ⟨c1, n, e1, k⟩ := k
  rw [pc9_0 hg] at e1
  rw [pm_st_g hg] at k
  exact ⟨c1, n, e1, k⟩
theorem pm_RO_u {m : Option gm_C} {s t : gm_S} (a : pm_RO g E m ([], s)) (b : pm_RO g E m ([], t)) : t = s := by
  obtain ⟨c1, n1, e1, a⟩ := a
  obtain ⟨c2, n2, e2, b⟩ := b
  have e : c2 = c1 := Option.some.inj (e2.symm.trans e1)
  subst e
  exact pw_u a b
theorem pm_x_NO {m : Option gm_C} {s : gm_S} (a : pm_RO g E m ([], s)) (k : pm_K E s = 0) (b : pm_NO g E m) : False := by
  obtain ⟨c1, n1, e1, a⟩ := a
  exact b c1 e1 n1 s a k
end GRP
theorem sz_vT (V : Int → Int) : ∀ T : List (Int × Int × Int), sz (vT V T) = sz T := by
  intro T
  induction T with
  | nil => rfl
  | cons x A ih =>
    have tl : ∀ (l : Int) (B : List (Int × Int × Int)), ((vT V B).takeWhile (fun y => decide (l < y.2.2))).length = (B.takeWhile (fun y => decide (l < y.2.2))).length := by
      intro l B
      induction B with
      | nil => rfl
      | cons b B ihB =>
        have e : vT V (b :: B) = (b.1, V (b.1 / 10), b.2.2) :: vT V B := rfl
        rw [e, List.takeWhile_cons, List.takeWhile_cons]
        by_cases c : l < b.2.2
        · have d1 : decide (l < ((b.1, V (b.1 / 10), b.2.2) : Int × Int × Int).2.2) = true := decide_eq_true c
          have d2 : decide (l < b.2.2) = true := decide_eq_true c
          rw [if_pos d1, if_pos d2, List.length_cons, List.length_cons, ihB]
        · have d1 : ¬ decide (l < ((b.1, V (b.1 / 10), b.2.2) : Int × Int × Int).2.2) = true := fun q => c (of_decide_eq_true q)
          have d2 : ¬ decide (l < b.2.2) = true := fun q => c (of_decide_eq_true q)
          rw [if_neg d1, if_neg d2]
    show ((((vT V A).takeWhile (fun y => decide (x.2.2 < y.2.2))).length : Int) :: sz (vT V A)) = _
    rw [tl, ih]
    rfl
theorem fo_vT {V : Int → Int} {T : List (Int × Int × Int)} {D : Int} (h : fo D T) : fo D (vT V T) := by
  refine ⟨fun x hx => ?_, fun x B e => ?_⟩
  · obtain ⟨y, y1, y2⟩ := List.mem_map.mp hx
    rw [← y2]
    exact h.1 y y1
  · cases T with
    | nil => cases e
    | cons b T =>
      have e : (b.1, V (b.1 / 10), b.2.2) :: vT V T = x :: B := e
      injection e with e1 e2
      rw [← e1]
      exact h.2 b T rfl
theorem vT_get {V : Int → Int} {T : List (Int × Int × Int)} {k : Nat} {x : Int × Int × Int} (h : T[k]? = some x) : (vT V T)[k]? = some (x.1, V (x.1 / 10), x.2.2) := by
  unfold vT
  rw [List.getElem?_map, h]
  rfl
