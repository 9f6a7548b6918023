/-! the law's calls that change texts: the class's half -/
section WOP
variable {P : Nat → Option sm_M} {PW : Nat → Option sm_MW} {sk : ab_K} {h : sm_H}
theorem wo_path_ok {Q : Option Value → sm_H → Prop} {d m nl k : Nat} {tab : List (Option sm_I)} {al : List (Nat × Nat × Nat × Nat × Nat)} (hM : PW m = some ((nl, k, tab), al)) (hP : mx_Sp sk h) : ∀ (n : Nat) (bs : List Nat) (pc : Nat) (ls : sm_L) (st : List Value) (O : List mx_U) (R : mo_R), mo_path tab sk h n bs pc ls st O = some R → mx_oO sk O → ab_Sh sk (mx_ap O h) → (∀ p ∈ R.2.2.2.2, p) → (ab_Sh sk (mx_ap R.2.2.2.1 h) → mx_oO sk R.2.2.2.1 → wb_Ends P PW d m R.1 R.2.1 R.2.2.1 (mx_ap R.2.2.2.1 h) Q) → wb_Ends P PW d m pc ls st (mx_ap O h) Q := by
  intro n
  induction n with
  | zero =>
    intro bs pc ls st O R hp hO hS ho hk
    simp only [mo_path] at hp
    cases hp
    exact hk hS hO
  | succ n ih =>
    intro bs pc ls st O R hp hO hS ho hk
    simp only [mo_path] at hp
    split at hp
    · next q hq =>
      split at hp
      · next pc' ls' st' O' ob hs =>
        split at hp
        · next pc2 ls2 st2 O2 ob2 hp2 =>
          cases hp
          have ho1 : ∀ p ∈ ob, p := fun p hm => ho p (List.mem_append_left _ hm)
          have ho2 : ∀ p ∈ ob2, p := fun p hm => ho p (List.mem_append_right _ hm)
          obtain ⟨e1, e2, e3⟩ := mo_step_ok hs hP hO hS ho1
          exact wb_Ends.step (M := ((nl, k, tab), al)) hM hq e1 (ih _ _ _ _ _ _ hp2 e3 e2 ho2 hk)
        · cases hp
      · cases hp
    · cases hp
theorem lo_path_ok {QL : sm_H → Prop} {d : Nat} {tab : List (Option sm_I)} (hP : mx_Sp sk h) : ∀ (n : Nat) (bs : List Nat) (pc : Nat) (ls : sm_L) (st : List Value) (O : List mx_U) (R : mo_R), mo_path tab sk h n bs pc ls st O = some R → mx_oO sk O → ab_Sh sk (mx_ap O h) → (∀ p ∈ R.2.2.2.2, p) → (ab_Sh sk (mx_ap R.2.2.2.1 h) → mx_oO sk R.2.2.2.1 → lb_Ends P PW tab d R.1 R.2.1 R.2.2.1 (mx_ap R.2.2.2.1 h) QL) → lb_Ends P PW tab d pc ls st (mx_ap O h) QL := by
  intro n
  induction n with
  | zero =>
    intro bs pc ls st O R hp hO hS ho hk
    simp only [mo_path] at hp
    cases hp
    exact hk hS hO
  | succ n ih =>
    intro bs pc ls st O R hp hO hS ho hk
    simp only [mo_path] at hp
    split at hp
    · next q hq =>
      split at hp
      · next pc' ls' st' O' ob hs =>
        split at hp
        · next pc2 ls2 st2 O2 ob2 hp2 =>
          cases hp
          have ho1 : ∀ p ∈ ob, p := fun p hm => ho p (List.mem_append_left _ hm)
          have ho2 : ∀ p ∈ ob2, p := fun p hm => ho p (List.mem_append_right _ hm)
          obtain ⟨e1, e2, e3⟩ := mo_step_ok hs hP hO hS ho1
          exact lb_Ends.step hq e1 (ih _ _ _ _ _ _ hp2 e3 e2 ho2 hk)
        · cases hp
      · cases hp
    · cases hp
end WOP
/-- a cell that is not written -/
theorem lj_cell {wr : List (Nat × Nat)} {h h' : sm_H} {k : Nat} {x : Nat × vp_A} (hF : ab_Fr wr h h') (hk : h[k]? = some (.inl x)) (hn : ab_in wr (k * 128) = false) : h'[k]? = some (.inl x) := hF.2.2 k _ hk hn
/-- the law's array: what lies in it -/
theorem c2_out {h : sm_H} (hS : ab_Sh sx_sk h) : ∃ f, h[171]? = some (.inl (1, 1, .inr (.inl f))) := by
  obtain ⟨f, e, -⟩ := mx_arrL (a := 171) (n := 1) (lo := -9223372036854775808) (hi := 9223372036854775807) (ex := []) hS rfl
  exact ⟨f, e⟩
theorem c2_Fr {h : sm_H} {f : Nat → Int64} {y : Int64} (e : h[171]? = some (.inl (1, 1, .inr (.inl f)))) : ab_Fr [(21888, 21889)] h (mx_pb h 171 0 y) ∧ (mx_pb h 171 0 y)[171]? = some (.inl (1, 1, .inr (.inl (vp_updL f 0 y)))) := by
  have e2 : mx_pb h 171 0 y = h.set 171 (.inl (1, 1, .inr (.inl (vp_updL f 0 y)))) := by
    unfold mx_pb
    rw [e]
  rw [e2]
  exact ⟨ab_Fr_arr e rfl (by decide), List.getElem?_set_self (List.getElem?_eq_some_iff.mp e).1⟩
/-- the texts stand in relation T: the reference's length and characters, the class's -/
abbrev rg_T : Type := Int → (Nat → Int) → Int → (Nat → Int) → Prop
def RG (T : rg_T) (h : sm_H) : Prop := (∀ k, k ∈ [51, 52, 60, 109] → ∃ x, h[k]? = some (.inr x)) ∧ (∀ k, k ∈ r8_ks → ∃ x, h[k]? = some (.inl x)) ∧ T (mi_f h 13953) (mi_a h 110) (mi_f h 6657) (mi_a h 53) ∧ r8_c h
def T0 : rg_T := fun n c n' c' => n' = n ∧ c' = c ∧ ∀ i : Nat, (i : Int) < n → tx_al (c i)
theorem RG_0 {h : sm_H} : RG T0 h ↔ R8 h := by
  unfold RG R8 T0 rl_t cx_ok
  constructor
  · rintro ⟨a, b, ⟨c1, c2, c3⟩, d⟩
    exact ⟨a, b, ⟨c1, c2, fun i hi => by rw [c1] at hi; rw [c2]; exact c3 i hi⟩, d⟩
  · rintro ⟨a, b, ⟨c1, c2, c3⟩, d⟩
    exact ⟨a, b, ⟨c1, c2, fun i hi => by rw [← c1] at hi; rw [← c2]; exact c3 i hi⟩, d⟩
section RGL
variable {T : rg_T} {h h' : sm_H} {wr : List (Nat × Nat)}
/-- r8_c where the texts change -/
def rc_no (wr : List (Nat × Nat)) : Bool := r8_kc.all (fun k => !ab_in wr (k * 128)) && r8_fc.all (fun c => !ab_in wr c)
set_option maxRecDepth 20000 in
theorem r8_AF : (∀ k, k ∈ r8_kc → (mx_isA sx_sk k || mx_isB sx_sk k) = true) ∧ ∀ c, c ∈ r8_fc → mx_isF sx_sk c = true := by decide +kernel
theorem r8_c_fr (hR : r8_c h) (hS : ab_Sh sx_sk h) (hF : ab_Fr wr h h') (hw : rc_no wr = true) : r8_c h' := by
  unfold rc_no at hw
  rw [Bool.and_eq_true] at hw
  have w1 : ∀ k, k ∈ r8_kc → ab_in wr (k * 128) = false := fun k hk => by have := List.all_eq_true.mp hw.1 k hk; simpa using this
  have w2 : ∀ c, c ∈ r8_fc → ab_in wr c = false := fun c hc => by have := List.all_eq_true.mp hw.2 c hc; simpa using this
  exact r8_c_eq (fun k hk => me_arr hF hS (r8_AF.1 k hk) (w1 k hk)) (fun c hc => me_fld hS hF (r8_AF.2 c hc) (w2 c hc)) hR
theorem RG_of (hS : ab_Sh sx_sk h) (h1 : T (mi_f h 13953) (mi_a h 110) (mi_f h 6657) (mi_a h 53)) (h2 : r8_c h) : RG T h := by
  refine ⟨fun k hk => ?_, fun k hk => ?_, h1, h2⟩
  · obtain ⟨⟨ci, fl⟩, e⟩ := r8_O k hk
    obtain ⟨fs, e1, -⟩ := hS _ _ e
    exact ⟨_, e1⟩
  · have hk := r8_A k hk
    have : ∃ t n lo hi ex, sx_sk[k]? = some (some (.inl (t, n, lo, hi, ex))) := by
      unfold mx_isA mx_isB at hk
      split at hk
      · next t n lo hi ex hsk => exact ⟨t, n, lo, hi, ex, hsk⟩
      · cases hk
    obtain ⟨t, n, lo, hi, ex, hsk⟩ := this
    obtain ⟨c, e1, -⟩ := hS _ _ hsk
    exact ⟨_, e1⟩
theorem RG_frS (hR : RG T h) (hS : ab_Sh sx_sk h) (hS' : ab_Sh sx_sk h') (hF : ab_Fr wr h h') (hw : r8_no wr = true) : RG T h' := by
  obtain ⟨r1, r2, r3, r4⟩ := hR
  unfold r8_no at hw
  rw [Bool.and_eq_true] at hw
  have w1 : ∀ k, k ∈ r8_ks → ab_in wr (k * 128) = false := fun k hk => by have := List.all_eq_true.mp hw.1 k hk; simpa using this
  have w2 : ∀ c, c ∈ r8_fs → ab_in wr c = false := fun c hc => by have := List.all_eq_true.mp hw.2 c hc; simpa using this
  refine RG_of hS' ?_ (r8_c_fr r4 hS hF (by unfold rc_no; rw [Bool.and_eq_true, List.all_eq_true, List.all_eq_true]; exact ⟨fun k hk => by rw [w1 k (by revert k; decide)]; rfl, fun c hc => by rw [w2 c (by revert c; decide)]; rfl⟩))
  rw [me_f (c := 13953) hF hS rfl (w2 _ (by decide)), me_f (c := 6657) hF hS rfl (w2 _ (by decide)), show mi_a h' 110 = mi_a h 110 from funext fun i => me_a (k := 110) hF hS rfl (w1 110 (by decide)), show mi_a h' 53 = mi_a h 53 from funext fun i => me_a (k := 53) hF hS rfl (w1 53 (by decide))]
  exact r3
theorem RG_app {e : sm_E} (hl : 172 ≤ h.length) (hR : RG T h) : RG T (h ++ [e]) := by
  have hk : ∀ k, k < 172 → (h ++ [e])[k]? = h[k]? := fun k hk => List.getElem?_append_left (by omega)
  obtain ⟨r1, r2, r3, r4⟩ := hR
  have l1 : ∀ k, k ∈ [51, 52, 60, 109] → k < 172 := by decide
  have l2 : ∀ k, k ∈ r8_ks → k < 172 := by decide
  have l3 : ∀ c, c ∈ r8_fs → c / 128 < 172 := by decide
  have ha : ∀ k, k ∈ r8_ks → (h ++ [e])[k]? = h[k]? := fun k hk2 => hk k (l2 k hk2)
  have hf : ∀ c, c ∈ r8_fs → ab_fld (h ++ [e]) c = ab_fld h c := fun c hc => by unfold ab_fld; rw [hk _ (l3 c hc)]
  refine ⟨fun k hk2 => by rw [hk k (l1 k hk2)]; exact r1 k hk2, fun k hk2 => by rw [hk k (l2 k hk2)]; exact r2 k hk2, ?_, r8_c_eq (fun k hk => ha k ((by decide : ∀ k, k ∈ r8_kc → k ∈ r8_ks) k hk)) (fun c hc => hf c ((by decide : ∀ c, c ∈ r8_fc → c ∈ r8_fs) c hc)) r4⟩
  have a : ∀ k, k ∈ r8_ks → mi_a (h ++ [e]) k = mi_a h k := fun k hk => funext fun i => by
    unfold mi_a mx_a
    rw [ha k hk]
  have f : ∀ c, c ∈ r8_fs → mi_f (h ++ [e]) c = mi_f h c := fun c hc => by
    unfold mi_f mx_i
    rw [hf c hc]
  rw [f 13953 (by decide), f 6657 (by decide), a 110 (by decide), a 53 (by decide)]
  exact r3
end RGL
/-- half way through a pair of calls -/
def lh_J (T : rg_T) (L : Nat) (xs : Nat → Int32) (h : sm_H) : Prop := lj_J MJ L xs h ∧ RG T h
theorem lh_0 {L : Nat} {xs : Nat → Int32} {h : sm_H} : lh_J T0 L xs h ↔ lj_J M8 L xs h := by
  unfold lh_J lj_J M8
  rw [RG_0]
  constructor
  · rintro ⟨⟨a, b, c⟩, d⟩; exact ⟨⟨a, d⟩, b, c⟩
  · rintro ⟨⟨a, d⟩, b, c⟩; exact ⟨⟨a, b, c⟩, d⟩
theorem me_run {d m : Nat} {M : sm_M} {as : List mi_V} {vs : List Value} {h : sm_H} {Q : Option mi_V → sm_H → Prop} (e : as.map mi_c = vs) (k : me_E d m 0 (mi_entry M.1 as) [] h Q) : ab_Ends sc_P d m 0 (sm_entry M.1 vs) [] h (fun v h' => ∃ w, v = w.map mi_c ∧ (∀ x, w = some x → mi_ok x) ∧ Q w h') := by
  unfold me_E at k
  rw [← mi_entry_eq, e] at k
  exact k
/-- what a wrapper leaves -/
def ww_Q (T : rg_T) (L : Nat) (xs : Nat → Int32) (h : sm_H) (v : Option Value) (h' : sm_H) : Prop := (∃ k, v = some (.int k)) ∧ ab_Sh sx_sk h' ∧ lh_J T L xs h' ∧ h'.length ≤ h.length + 1 ∧ sm_sl h' ≤ sm_sl h + 6
theorem lh_fr {T : rg_T} {L : Nat} {xs : Nat → Int32} {h h' : sm_H} {wr : List (Nat × Nat)} (hJ : lh_J T L xs h) (hS : ab_Sh sx_sk h) (hS' : ab_Sh sx_sk h') (hF : ab_Fr wr h h') (hw : (ab_sub_wr wr mj_wr && r8_no wr) = true) : lh_J T L xs h' := by
  rw [Bool.and_eq_true] at hw
  exact ⟨lj_fr mj_MJ hJ.1 hw.1 hF, RG_frS hJ.2 hS hS' hF hw.2⟩
theorem lh_app {T : rg_T} {L : Nat} {xs : Nat → Int32} {h : sm_H} {e : sm_E} (hJ : lh_J T L xs h) : lh_J T L xs (h ++ [e]) := by
  obtain ⟨⟨j1, j2, j3⟩, r⟩ := hJ
  refine ⟨⟨mj_MJ.2 h e j2 j1, by rw [List.length_append]; omega, ?_⟩, RG_app j2 r⟩
  rw [List.getElem?_append_left (by omega)]
  exact j3
/-- the wrapper's array -/
theorem ww_out {T : rg_T} {L : Nat} {xs : Nat → Int32} {h h1 : sm_H} {y : Int64} (hS1 : ab_Sh sx_sk h1) (hS2 : ab_Sh sx_sk (mx_pb h1 171 0 y)) (hJ : lh_J T L xs h1) (hl : h1.length = h.length) (hs : sm_sl h1 = sm_sl h) : lh_J T L xs (mx_pb h1 171 0 y) ∧ (mx_pb h1 171 0 y).length ≤ h.length + 1 ∧ sm_sl (mx_pb h1 171 0 y) ≤ sm_sl h + 6 ∧ ∃ f, (mx_pb h1 171 0 y)[171]? = some (.inl (1, 1, .inr (.inl f))) ∧ f 0 = y := by
  obtain ⟨f, hf⟩ := c2_out hS1
  obtain ⟨f1, f2⟩ := c2_Fr (y := y) hf
  exact ⟨lh_fr (wr := [(21888, 21889)]) hJ hS1 hS2 f1 (by decide), by rw [f1.1]; omega, by rw [f1.2.1]; omega, _, f2, by unfold vp_updL; exact if_pos rfl⟩
