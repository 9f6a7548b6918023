/-! the law's calls that change texts: the class's half -/
section WOP
variable {P : Nat → Option sm_M} {PW : Nat → Option sm_MW} {sk : ab_K} {h : sm_H}
theorem wo_path_ok {Q : Option Value → sm_H → Prop} {d m nl k : Nat} {tab : List (Option sm_I)} {al : List (Nat × Nat × Nat × Nat × Nat)} (hM : PW m = some ((nl, k, tab), al)) (hP : mx_Sp sk h) : ∀ (n : Nat) (bs : List Nat) (pc : Nat) (ls : sm_L) (st : List Value) (O : List mx_U) (R : mo_R), mo_path tab sk h n bs pc ls st O = some R → mx_oO sk O → ab_Sh sk (mx_ap O h) → (∀ p ∈ R.2.2.2.2, p) → (ab_Sh sk (mx_ap R.2.2.2.1 h) → mx_oO sk R.2.2.2.1 → wb_Ends P PW d m R.1 R.2.1 R.2.2.1 (mx_ap R.2.2.2.1 h) Q) → wb_Ends P PW d m pc ls st (mx_ap O h) Q := by
  intro n
  induction n with
  | zero =>
    intro bs pc ls st O R hp hO hS ho hk
    simp only [mo_path] at hp
    cases hp
    exact hk hS hO
  | succ n ih =>
    intro bs pc ls st O R hp hO hS ho hk
    simp only [mo_path] at hp
    split at hp
    · next q hq =>
      split at hp
      · next pc' ls' st' O' ob hs =>
        split at hp
        · next pc2 ls2 st2 O2 ob2 hp2 =>
          cases hp
          have ho1 : ∀ p ∈ ob, p := fun p hm => ho p (List.mem_append_left _ hm)
          have ho2 : ∀ p ∈ ob2, p := fun p hm => ho p (List.mem_append_right _ hm)
          obtain ⟨e1, e2, e3⟩ := mo_step_ok hs hP hO hS ho1
          exact wb_Ends.step (M := ((nl, k, tab), al)) hM hq e1 (ih _ _ _ _ _ _ hp2 e3 e2 ho2 hk)
        · cases hp
      · cases hp
    · cases hp
theorem lo_path_ok {QL : sm_H → Prop} {d : Nat} {tab : List (Option sm_I)} (hP : mx_Sp sk h) : ∀ (n : Nat) (bs : List Nat) (pc : Nat) (ls : sm_L) (st : List Value) (O : List mx_U) (R : mo_R), mo_path tab sk h n bs pc ls st O = some R → mx_oO sk O → ab_Sh sk (mx_ap O h) → (∀ p ∈ R.2.2.2.2, p) → (ab_Sh sk (mx_ap R.2.2.2.1 h) → mx_oO sk R.2.2.2.1 → lb_Ends P PW tab d R.1 R.2.1 R.2.2.1 (mx_ap R.2.2.2.1 h) QL) → lb_Ends P PW tab d pc ls st (mx_ap O h) QL := by
  intro n
  induction n with
  | zero =>
    intro bs pc ls st O R hp hO hS ho hk
    simp only [mo_path] at hp
    cases hp
    exact hk hS hO
  | succ n ih =>
    intro bs pc ls st O R hp hO hS ho hk
    simp only [mo_path] at hp
    split at hp
    · next q hq =>
      split at hp
      · next pc' ls' st' O' ob hs =>
        split at hp
        · next pc2 ls2 st2 O2 ob2 hp2 =>
          cases hp
          have ho1 : ∀ p ∈ ob, p := fun p hm => ho p (List.mem_append_left _ hm)
          have ho2 : ∀ p ∈ ob2, p := fun p hm => ho p (List.mem_append_right _ hm)
          obtain ⟨e1, e2, e3⟩ := mo_step_ok hs hP hO hS ho1
          exact lb_Ends.step hq e1 (ih _ _ _ _ _ _ hp2 e3 e2 ho2 hk)
        · cases hp
      · cases hp
    · cases hp
end WOP
/-- a cell that is not written -/
theorem lj_cell {wr : List (Nat × Nat)} {h h' : sm_H} {k : Nat} {x : Nat × vp_A} (hF : ab_Fr wr h h') (hk : h[k]? = some (.inl x)) (hn : ab_in wr (k * 128) = false) : h'[k]? = some (.inl x) := hF.2.2 k _ hk hn
/-- the law's array: what lies in it -/
theorem c2_out {h : sm_H} (hS : ab_Sh sx_sk h) : ∃ f, h[171]? = some (.inl (1, 1, .inr (.inl f))) := by
  obtain ⟨f, e, -⟩ := mx_arrL (a := 171) (n := 1) (lo := -9223372036854775808) (hi := 9223372036854775807) (ex := []) hS rfl
  exact ⟨f, e⟩
theorem c2_Fr {h : sm_H} {f : Nat → Int64} {y : Int64} (e : h[171]? = some (.inl (1, 1, .inr (.inl f)))) : ab_Fr [(21888, 21889)] h (mx_pb h 171 0 y) ∧ (mx_pb h 171 0 y)[171]? = some (.inl (1, 1, .inr (.inl (vp_updL f 0 y)))) := by
  have e2 : mx_pb h 171 0 y = h.set 171 (.inl (1, 1, .inr (.inl (vp_updL f 0 y)))) := by
    unfold mx_pb
    rw [e]
  rw [e2]
  exact ⟨ab_Fr_arr e rfl (by decide), List.getElem?_set_self (List.getElem?_eq_some_iff.mp e).1⟩
/-- the texts stand in relation T: the reference's length and characters, the class's -/
abbrev rg_T : Type := Int → (Nat → Int) → Int → (Nat → Int) → Prop
def RG (T : rg_T) (h : sm_H) : Prop := (∀ k, k ∈ [51, 52, 60, 109] → ∃ x, h[k]? = some (.inr x)) ∧ (∀ k, k ∈ rl_ks → ∃ x, h[k]? = some (.inl x)) ∧ T (mi_f h 13953) (mi_a h 110) (mi_f h 6657) (mi_a h 53) ∧ rl_c h
def T0 : rg_T := fun n c n' c' => n' = n ∧ c' = c ∧ ∀ i : Nat, (i : Int) < n → tx_al (c i)
theorem RG_0 {h : sm_H} : RG T0 h ↔ RR h := by
  unfold RG RR T0 rl_t cx_ok
  constructor
  · rintro ⟨a, b, ⟨c1, c2, c3⟩, d⟩
    exact ⟨a, b, ⟨c1, c2, fun i hi => by rw [c1] at hi; rw [c2]; exact c3 i hi⟩, d⟩
  · rintro ⟨a, b, ⟨c1, c2, c3⟩, d⟩
    exact ⟨a, b, ⟨c1, c2, fun i hi => by rw [← c1] at hi; rw [← c2]; exact c3 i hi⟩, d⟩
section RGL
variable {T : rg_T} {h h' : sm_H} {wr : List (Nat × Nat)}
theorem rl_c_eq (ha : ∀ k, k ∈ rl_ks → h'[k]? = h[k]?) (hf : ∀ c, c ∈ rl_fs → ab_fld h' c = ab_fld h c) (k : rl_c h) : rl_c h' := by
  have a : ∀ k, k ∈ rl_ks → mi_a h' k = mi_a h k := fun k hk => funext fun i => by
    unfold mi_a mx_a
    rw [ha k hk]
  have b : ∀ k, k ∈ rl_ks → mx_b h' k = mx_b h k := fun k hk => funext fun i => by
    unfold mx_b
    rw [ha k hk]
  have f : ∀ c, c ∈ rl_fs → mi_f h' c = mi_f h c := fun c hc => by
    unfold mi_f mx_i
    rw [hf c hc]
  unfold rl_c SR at *
  rw [f 6542 (by decide), f 7680 (by decide), f 13959 (by decide), f 13961 (by decide), a 79 (by decide), a 82 (by decide), a 114 (by decide), a 133 (by decide), a 144 (by decide), b 80 (by decide), b 81 (by decide), b 136 (by decide), b 138 (by decide)]
  exact k
/-- rl_c where the texts change -/
def rc_no (wr : List (Nat × Nat)) : Bool := [79, 80, 81, 82, 114, 133, 136, 138, 144].all (fun k => !ab_in wr (k * 128)) && [6542, 7680, 13959, 13961].all (fun c => !ab_in wr c)
theorem rl_c_fr (hR : rl_c h) (hS : ab_Sh sx_sk h) (hF : ab_Fr wr h h') (hw : rc_no wr = true) : rl_c h' := by
  unfold rc_no at hw
  rw [Bool.and_eq_true] at hw
  have w1 : ∀ k, k ∈ [79, 80, 81, 82, 114, 133, 136, 138, 144] → ab_in wr (k * 128) = false := fun k hk => by have := List.all_eq_true.mp hw.1 k hk; simpa using this
  have w2 : ∀ c, c ∈ [6542, 7680, 13959, 13961] → ab_in wr c = false := fun c hc => by have := List.all_eq_true.mp hw.2 c hc; simpa using this
  unfold rl_c SR at *
  rw [me_f (c := 6542) hF hS rfl (w2 _ (by decide)), me_f (c := 7680) hF hS rfl (w2 _ (by decide)), me_f (c := 13959) hF hS rfl (w2 _ (by decide)), me_f (c := 13961) hF hS rfl (w2 _ (by decide)), show mi_a h' 79 = mi_a h 79 from funext fun i => me_a (k := 79) hF hS rfl (w1 79 (by decide)), show mi_a h' 82 = mi_a h 82 from funext fun i => me_a (k := 82) hF hS rfl (w1 82 (by decide)), show mi_a h' 114 = mi_a h 114 from funext fun i => me_a (k := 114) hF hS rfl (w1 114 (by decide)), show mi_a h' 133 = mi_a h 133 from funext fun i => me_a (k := 133) hF hS rfl (w1 133 (by decide)), show mi_a h' 144 = mi_a h 144 from funext fun i => me_a (k := 144) hF hS rfl (w1 144 (by decide)), show mx_b h' 80 = mx_b h 80 from funext fun i => me_b (k := 80) hF hS rfl (w1 80 (by decide)), show mx_b h' 81 = mx_b h 81 from funext fun i => me_b (k := 81) hF hS rfl (w1 81 (by decide)), show mx_b h' 136 = mx_b h 136 from funext fun i => me_b (k := 136) hF hS rfl (w1 136 (by decide)), show mx_b h' 138 = mx_b h 138 from funext fun i => me_b (k := 138) hF hS rfl (w1 138 (by decide))]
  exact hR
theorem RG_of (hS : ab_Sh sx_sk h) (h1 : T (mi_f h 13953) (mi_a h 110) (mi_f h 6657) (mi_a h 53)) (h2 : rl_c h) : RG T h := by
  refine ⟨fun k hk => ?_, fun k hk => ?_, h1, h2⟩
  · obtain ⟨⟨ci, fl⟩, e⟩ := rl_O k hk
    obtain ⟨fs, e1, -⟩ := hS _ _ e
    exact ⟨_, e1⟩
  · have hk := rl_A k hk
    have : ∃ t n lo hi ex, sx_sk[k]? = some (some (.inl (t, n, lo, hi, ex))) := by
      unfold mx_isA mx_isB at hk
      split at hk
      · next t n lo hi ex hsk => exact ⟨t, n, lo, hi, ex, hsk⟩
      · cases hk
    obtain ⟨t, n, lo, hi, ex, hsk⟩ := this
    obtain ⟨c, e1, -⟩ := hS _ _ hsk
    exact ⟨_, e1⟩
theorem RG_frS (hR : RG T h) (hS : ab_Sh sx_sk h) (hS' : ab_Sh sx_sk h') (hF : ab_Fr wr h h') (hw : rl_no wr = true) : RG T h' := by
  obtain ⟨r1, r2, r3, r4⟩ := hR
  unfold rl_no at hw
  rw [Bool.and_eq_true] at hw
  have w1 : ∀ k, k ∈ rl_ks → ab_in wr (k * 128) = false := fun k hk => by have := List.all_eq_true.mp hw.1 k hk; simpa using this
  have w2 : ∀ c, c ∈ rl_fs → ab_in wr c = false := fun c hc => by have := List.all_eq_true.mp hw.2 c hc; simpa using this
  refine RG_of hS' ?_ (rl_c_fr r4 hS hF (by unfold rc_no; rw [Bool.and_eq_true, List.all_eq_true, List.all_eq_true]; exact ⟨fun k hk => by rw [w1 k (by revert k; decide)]; rfl, fun c hc => by rw [w2 c (by revert c; decide)]; rfl⟩))
  rw [me_f (c := 13953) hF hS rfl (w2 _ (by decide)), me_f (c := 6657) hF hS rfl (w2 _ (by decide)), show mi_a h' 110 = mi_a h 110 from funext fun i => me_a (k := 110) hF hS rfl (w1 110 (by decide)), show mi_a h' 53 = mi_a h 53 from funext fun i => me_a (k := 53) hF hS rfl (w1 53 (by decide))]
  exact r3
theorem RG_app {e : sm_E} (hl : 172 ≤ h.length) (hR : RG T h) : RG T (h ++ [e]) := by
  have hk : ∀ k, k < 172 → (h ++ [e])[k]? = h[k]? := fun k hk => List.getElem?_append_left (by omega)
  obtain ⟨r1, r2, r3, r4⟩ := hR
  have l1 : ∀ k, k ∈ [51, 52, 60, 109] → k < 172 := by decide
  have l2 : ∀ k, k ∈ rl_ks → k < 172 := by decide
  have l3 : ∀ c, c ∈ rl_fs → c / 128 < 172 := by decide
  have ha : ∀ k, k ∈ rl_ks → (h ++ [e])[k]? = h[k]? := fun k hk2 => hk k (l2 k hk2)
  have hf : ∀ c, c ∈ rl_fs → ab_fld (h ++ [e]) c = ab_fld h c := fun c hc => by unfold ab_fld; rw [hk _ (l3 c hc)]
  refine ⟨fun k hk2 => by rw [hk k (l1 k hk2)]; exact r1 k hk2, fun k hk2 => by rw [hk k (l2 k hk2)]; exact r2 k hk2, ?_, rl_c_eq ha hf r4⟩
  have a : ∀ k, k ∈ rl_ks → mi_a (h ++ [e]) k = mi_a h k := fun k hk => funext fun i => by
    unfold mi_a mx_a
    rw [ha k hk]
  have f : ∀ c, c ∈ rl_fs → mi_f (h ++ [e]) c = mi_f h c := fun c hc => by
    unfold mi_f mx_i
    rw [hf c hc]
  rw [f 13953 (by decide), f 6657 (by decide), a 110 (by decide), a 53 (by decide)]
  exact r3
end RGL
/-- half way through a pair of calls -/
def lh_J (T : rg_T) (L : Nat) (xs : Nat → Int32) (h : sm_H) : Prop := lj_J MJ L xs h ∧ RG T h
theorem lh_0 {L : Nat} {xs : Nat → Int32} {h : sm_H} : lh_J T0 L xs h ↔ lj_J MR L xs h := by
  unfold lh_J lj_J MR
  rw [RG_0]
  constructor
  · rintro ⟨⟨a, b, c⟩, d⟩; exact ⟨⟨a, d⟩, b, c⟩
  · rintro ⟨⟨a, d⟩, b, c⟩; exact ⟨⟨a, b, c⟩, d⟩
theorem me_run {d m : Nat} {M : sm_M} {as : List mi_V} {vs : List Value} {h : sm_H} {Q : Option mi_V → sm_H → Prop} (e : as.map mi_c = vs) (k : me_E d m 0 (mi_entry M.1 as) [] h Q) : ab_Ends sc_P d m 0 (sm_entry M.1 vs) [] h (fun v h' => ∃ w, v = w.map mi_c ∧ (∀ x, w = some x → mi_ok x) ∧ Q w h') := by
  unfold me_E at k
  rw [← mi_entry_eq, e] at k
  exact k
/-- what a wrapper leaves -/
def ww_Q (T : rg_T) (L : Nat) (xs : Nat → Int32) (h : sm_H) (v : Option Value) (h' : sm_H) : Prop := (∃ k, v = some (.int k)) ∧ ab_Sh sx_sk h' ∧ lh_J T L xs h' ∧ h'.length ≤ h.length + 1 ∧ sm_sl h' ≤ sm_sl h + 6
theorem lh_fr {T : rg_T} {L : Nat} {xs : Nat → Int32} {h h' : sm_H} {wr : List (Nat × Nat)} (hJ : lh_J T L xs h) (hS : ab_Sh sx_sk h) (hS' : ab_Sh sx_sk h') (hF : ab_Fr wr h h') (hw : (ab_sub_wr wr mj_wr && rl_no wr) = true) : lh_J T L xs h' := by
  rw [Bool.and_eq_true] at hw
  exact ⟨lj_fr mj_MJ hJ.1 hw.1 hF, RG_frS hJ.2 hS hS' hF hw.2⟩
theorem lh_app {T : rg_T} {L : Nat} {xs : Nat → Int32} {h : sm_H} {e : sm_E} (hJ : lh_J T L xs h) : lh_J T L xs (h ++ [e]) := by
  obtain ⟨⟨j1, j2, j3⟩, r⟩ := hJ
  refine ⟨⟨mj_MJ.2 h e j2 j1, by rw [List.length_append]; omega, ?_⟩, RG_app j2 r⟩
  rw [List.getElem?_append_left (by omega)]
  exact j3
/-- the wrapper's array -/
theorem ww_out {T : rg_T} {L : Nat} {xs : Nat → Int32} {h h1 : sm_H} {y : Int64} (hS1 : ab_Sh sx_sk h1) (hS2 : ab_Sh sx_sk (mx_pb h1 171 0 y)) (hJ : lh_J T L xs h1) (hl : h1.length = h.length) (hs : sm_sl h1 = sm_sl h) : lh_J T L xs (mx_pb h1 171 0 y) ∧ (mx_pb h1 171 0 y).length ≤ h.length + 1 ∧ sm_sl (mx_pb h1 171 0 y) ≤ sm_sl h + 6 ∧ ∃ f, (mx_pb h1 171 0 y)[171]? = some (.inl (1, 1, .inr (.inl f))) ∧ f 0 = y := by
  obtain ⟨f, hf⟩ := c2_out hS1
  obtain ⟨f1, f2⟩ := c2_Fr (y := y) hf
  exact ⟨lh_fr (wr := [(21888, 21889)]) hJ hS1 hS2 f1 (by decide), by rw [f1.1]; omega, by rw [f1.2.1]; omega, _, f2, by unfold vp_updL; exact if_pos rfl⟩
