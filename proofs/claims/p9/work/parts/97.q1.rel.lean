/-! between the law's calls: the class beside the reference -/
def rl_ks : List Nat := [53, 79, 80, 81, 82, 110, 114, 133, 136, 138, 144]
def rl_fs : List Nat := [6542, 6657, 7680, 13953, 13959, 13961]
def rl_no (wr : List (Nat × Nat)) : Bool := rl_ks.all (fun k => !ab_in wr (k * 128)) && rl_fs.all (fun c => !ab_in wr c)
/-- the descriptions are the same -/
def rl_t (h : sm_H) : Prop := mi_f h 6657 = mi_f h 13953 ∧ mi_a h 53 = mi_a h 110 ∧ cx_ok h
/-- what was compiled is the same, as far as rule tells -/
def rl_c (h : sm_H) : Prop := (mi_f h 6542 ≠ 0 ↔ mi_f h 13959 ≠ 0) ∧ (mi_f h 13959 ≠ 0 → mi_f h 7680 = mi_f h 13961 ∧ SR h)
def RR (h : sm_H) : Prop := (∀ k, k ∈ [51, 52, 60, 109] → ∃ x, h[k]? = some (.inr x)) ∧ (∀ k, k ∈ rl_ks → ∃ x, h[k]? = some (.inl x)) ∧ rl_t h ∧ rl_c h
section RRL
variable {h h' : sm_H} {wr : List (Nat × Nat)}
theorem rl_eq (ha : ∀ k, k ∈ rl_ks → h'[k]? = h[k]?) (hf : ∀ c, c ∈ rl_fs → ab_fld h' c = ab_fld h c) (k : rl_t h ∧ rl_c h) : rl_t h' ∧ rl_c h' := by
  have a : ∀ k, k ∈ rl_ks → mi_a h' k = mi_a h k := fun k hk => funext fun i => by
    unfold mi_a mx_a
    rw [ha k hk]
  have b : ∀ k, k ∈ rl_ks → mx_b h' k = mx_b h k := fun k hk => funext fun i => by
    unfold mx_b
    rw [ha k hk]
  have f : ∀ c, c ∈ rl_fs → mi_f h' c = mi_f h c := fun c hc => by
    unfold mi_f mx_i
    rw [hf c hc]
  unfold rl_t rl_c SR cx_ok at *
  rw [f 6542 (by decide), f 6657 (by decide), f 7680 (by decide), f 13953 (by decide), f 13959 (by decide), f 13961 (by decide), a 53 (by decide), a 79 (by decide), a 82 (by decide), a 110 (by decide), a 114 (by decide), a 133 (by decide), a 144 (by decide), b 80 (by decide), b 81 (by decide), b 136 (by decide), b 138 (by decide)]
  exact k
theorem rl_fld (hF : ab_Fr wr h h') {c k : Nat} {x : Nat × List Value} (e : h[c / 128]? = some (.inr x)) (hk : c / 128 * 128 + c % 128 = c) (hn : ab_in wr c = false) : ab_fld h' c = ab_fld h c := by
  obtain ⟨ci, fs⟩ := x
  have hx := hF.2.2 (c / 128) _ e
  unfold ab_FrE at hx
  obtain ⟨fs', e1, e2⟩ := hx
  unfold ab_fld
  rw [e1, e]
  exact e2 _ (by rw [hk]; exact hn)
theorem RR_fr (hR : RR h) (hF : ab_Fr wr h h') (hw : rl_no wr = true) : RR h' := by
  obtain ⟨r1, r2, r3⟩ := hR
  unfold rl_no at hw
  rw [Bool.and_eq_true] at hw
  have w1 : ∀ k, k ∈ rl_ks → ab_in wr (k * 128) = false := fun k hk => by have := List.all_eq_true.mp hw.1 k hk; simpa using this
  have w2 : ∀ c, c ∈ rl_fs → ab_in wr c = false := fun c hc => by have := List.all_eq_true.mp hw.2 c hc; simpa using this
  have ha : ∀ k, k ∈ rl_ks → h'[k]? = h[k]? := fun k hk => by
    obtain ⟨x, ex⟩ := r2 k hk
    rw [ex]
    exact hF.2.2 k _ ex (w1 k hk)
  refine ⟨fun k hk => ?_, fun k hk => by rw [ha k hk]; exact r2 k hk, rl_eq ha (fun c hc => ?_) r3⟩
  · obtain ⟨⟨ci, fs⟩, ex⟩ := r1 k hk
    have hx := hF.2.2 k _ ex
    unfold ab_FrE at hx
    obtain ⟨fs', e1, -⟩ := hx
    exact ⟨_, e1⟩
  · have hn := w2 c hc
    simp only [rl_fs, List.mem_cons, List.not_mem_nil, or_false] at hc
    rcases hc with rfl | rfl | rfl | rfl | rfl | rfl
    · obtain ⟨x, ex⟩ := r1 51 (by decide); exact rl_fld (k := 0) hF (c := 6542) ex rfl hn
    · obtain ⟨x, ex⟩ := r1 52 (by decide); exact rl_fld (k := 0) hF (c := 6657) ex rfl hn
    · obtain ⟨x, ex⟩ := r1 60 (by decide); exact rl_fld (k := 0) hF (c := 7680) ex rfl hn
    · obtain ⟨x, ex⟩ := r1 109 (by decide); exact rl_fld (k := 0) hF (c := 13953) ex rfl hn
    · obtain ⟨x, ex⟩ := r1 109 (by decide); exact rl_fld (k := 0) hF (c := 13959) ex rfl hn
    · obtain ⟨x, ex⟩ := r1 109 (by decide); exact rl_fld (k := 0) hF (c := 13961) ex rfl hn
theorem RR_app {e : sm_E} (hl : 172 ≤ h.length) (hR : RR h) : RR (h ++ [e]) := by
  have hk : ∀ k, k < 172 → (h ++ [e])[k]? = h[k]? := fun k hk => List.getElem?_append_left (by omega)
  obtain ⟨r1, r2, r3⟩ := hR
  have l1 : ∀ k, k ∈ [51, 52, 60, 109] → k < 172 := by decide
  have l2 : ∀ k, k ∈ rl_ks → k < 172 := by decide
  refine ⟨fun k hk2 => by rw [hk k (l1 k hk2)]; exact r1 k hk2, fun k hk2 => by rw [hk k (l2 k hk2)]; exact r2 k hk2, rl_eq (fun k hk2 => hk k (l2 k hk2)) (fun c hc => ?_) r3⟩
  have l3 : ∀ c, c ∈ rl_fs → c / 128 < 172 := by decide
  unfold ab_fld
  rw [hk _ (l3 c hc)]
set_option maxRecDepth 20000 in
theorem rl_A : ∀ k, k ∈ rl_ks → (mx_isA sx_sk k || mx_isB sx_sk k) = true := by decide +kernel
theorem rl_O : ∀ k, k ∈ [51, 52, 60, 109] → ∃ x, sx_sk[k]? = some (some (.inr x)) := by
  intro k hk
  simp only [List.mem_cons, List.not_mem_nil, or_false] at hk
  rcases hk with rfl | rfl | rfl | rfl <;> exact ⟨_, rfl⟩
theorem RR_of (hS : ab_Sh sx_sk h) (h1 : rl_t h) (h2 : rl_c h) : RR h := by
  refine ⟨fun k hk => ?_, fun k hk => ?_, h1, h2⟩
  · obtain ⟨⟨ci, fl⟩, e⟩ := rl_O k hk
    obtain ⟨fs, e1, -⟩ := hS _ _ e
    exact ⟨_, e1⟩
  · have hk := rl_A k hk
    have : ∃ t n lo hi ex, sx_sk[k]? = some (some (.inl (t, n, lo, hi, ex))) := by
      unfold mx_isA mx_isB at hk
      split at hk
      · next t n lo hi ex hsk => exact ⟨t, n, lo, hi, ex, hsk⟩
      · cases hk
    obtain ⟨t, n, lo, hi, ex, hsk⟩ := this
    obtain ⟨c, e1, -⟩ := hS _ _ hsk
    exact ⟨_, e1⟩
end RRL
/-- what holds between the law's calls -/
def MR (h : sm_H) : Prop := MJ h ∧ RR h
section LJR
variable {L : Nat} {xs : Nat → Int32} {wr : List (Nat × Nat)} {h g : sm_H}
theorem lq_fr (hJ : lj_J MR L xs h) (hw : (ab_sub_wr wr mj_wr && rl_no wr) = true) (hF : ab_Fr wr h g) : lj_J MR L xs g := by
  rw [Bool.and_eq_true] at hw
  obtain ⟨j1, j2, j3⟩ := lj_fr (MJ := MJ) mj_MJ ⟨hJ.1.1, hJ.2⟩ hw.1 hF
  exact ⟨⟨j1, RR_fr hJ.1.2 hF hw.2⟩, j2, j3⟩
theorem lq_P {c : ab_C} (hok : ab_Ok sc_P sx_sk c) (hpre : c.2.2.1 = []) (hw : (ab_sub_wr c.2.2.2.2.1 mj_wr && rl_no c.2.2.2.2.1) = true) : lb_OkP sc_P sx_sk (lj_J MR L xs) c := by
  intro h as M hM hSh hJ has
  refine (hok h as M hM hSh has (by rw [hpre]; exact fun e he => absurd he List.not_mem_nil)).imp fun v h' hp => ?_
  obtain ⟨p1, p2, p, pm, pr, -⟩ := hp
  exact ⟨p1, lq_fr hJ hw p2, p2.1, p2.2.1, p, pm, pr⟩
theorem lq_W {env : List (List Nat × ab_C)} {m d fuel : Nat} {args posts : List ab_V} (henv : ∀ e ∈ env, ab_OkX sc_P sx_sk e.1 e.2) (hg : wb_good sc_P sc_PW sx_sk wr env m d fuel args posts = true) (hw : (ab_sub_wr wr mj_wr && rl_no wr) = true) : lb_OkW sc_P sc_PW sx_sk (lj_J MR L xs) (m, args, posts, d) := by
  intro h as M hM hSh hJ has
  obtain ⟨g1, n, v, h', hr, g, e1, e2, e3, p, pm, pr⟩ := wb_good_ok hg henv hM hSh has
  refine ⟨g1, n, v, h', hr, ?_⟩
  have hJg := lq_fr hJ hw e2
  have hgl := hJg.2.1
  have hl := xs_len
  rcases e3 with rfl | ⟨x, rfl⟩
  · exact ⟨e1, hJg, by rw [e2.1]; omega, by rw [e2.2.1]; omega, p, pm, pr⟩
  · refine ⟨lj_app (by omega) e1, ⟨⟨mj_MJ.2 g _ hgl hJg.1.1, RR_app hgl hJg.1.2⟩, by rw [List.length_append]; omega, ?_⟩, by rw [List.length_append, e2.1]; exact Nat.le_refl _, ?_, p, pm, pr⟩
    · rw [List.getElem?_append_left (by omega)]
      exact hJg.2.2
    · rw [sm_sl_app, e2.2.1]
      exact Nat.le_refl _
theorem mq_post {h' : sm_H} (hJ : lj_J MR L xs h) (hS' : ab_Sh sx_sk h') (hF : ab_Fr mq_W h h') (h0 : mj_0 h') : ab_Sh sx_sk h' ∧ lj_J MR L xs h' ∧ h'.length = h.length ∧ sm_sl h' = sm_sl h := by
  refine ⟨hS', ⟨⟨mj_of hS' h0, RR_fr hJ.1.2 hF (by decide)⟩, by rw [hF.1]; exact hJ.2.1, ?_⟩, hF.1, hF.2.1⟩
  exact hF.2.2 0 _ hJ.2.2 (by decide)
theorem mq_parse : lb_OkP sc_P sx_sk (lj_J MR L xs) xm_parse := by
  intro h as M hM hS hJ has
  have eM : M = (1, 1, sb_228) := Option.some.inj (hM.symm.trans rfl)
  subst eM
  cases as with
  | nil => exact absurd has id
  | cons a r =>
    cases r with
    | cons b s => exact absurd has.2 id
    | nil =>
      have e := ab_kd3 has.1 rfl
      have e : a = mi_c (.inr (.inr 109)) := Option.some.inj e
      subst e
      refine ab_Ends.imp (me_parsef (d := 40) hS hJ.1.1.2.2) (fun v h' hw => ?_)
      obtain ⟨w, rfl, -, ⟨z, rfl, oz⟩, q1, q2, q3⟩ := hw
      obtain ⟨p1, p2, p3, p4⟩ := mq_post hJ q1 q2 q3
      exact ⟨p1, p2, p3, p4, _, List.mem_cons_self .., fun _ => me_nv1 oz oz.1 oz.2, fun z => by cases z⟩
theorem mq_print : lb_OkP sc_P sx_sk (lj_J MR L xs) xm_print := by
  intro h as M hM hS hJ has
  have eM : M = (2, 1, sb_205) := Option.some.inj (hM.symm.trans rfl)
  subst eM
  cases as with
  | nil => exact absurd has id
  | cons a r =>
    cases r with
    | cons b s => exact absurd has.2 id
    | nil =>
      have e := ab_kd3 has.1 rfl
      have e : a = mi_c (.inr (.inr 109)) := Option.some.inj e
      subst e
      refine ab_Ends.imp (me_printf (d := 40) hS hJ.1.1.2.2) (fun v h' hw => ?_)
      obtain ⟨w, rfl, -, ⟨z, rfl, oz⟩, q1, q2, q3⟩ := hw
      obtain ⟨p1, p2, p3, p4⟩ := mq_post hJ q1 q2 q3
      exact ⟨p1, p2, p3, p4, _, List.mem_cons_self .., fun _ => me_nv1 oz oz.1 oz.2, fun z => by cases z⟩
theorem mq_grow : lb_OkP sc_P sx_sk (lj_J MR L xs) xm_grow := by
  intro h as M hM hS hJ has
  have eM : M = (4, 1, sb_232) := Option.some.inj (hM.symm.trans rfl)
  subst eM
  match as, has with
  | [a, b, c], has =>
    have e := ab_kd3 has.1 rfl
    have e : a = mi_c (.inr (.inr 109)) := Option.some.inj e
    subst e
    obtain ⟨x, ex, -⟩ := ab_kd2 has.2.1 rfl
    have ex : b = mi_c (.inr (.inl x)) := Option.some.inj ex
    subst ex
    obtain ⟨y, ey, -⟩ := ab_kd1 has.2.2.1 rfl
    have ey : c = .int y := Option.some.inj ey
    have ey : c = mi_c (.inl y.toInt) := by rw [ey, mi_cT]
    subst ey
    refine ab_Ends.imp (me_growf (d := 40) hS hJ.1.1.2.2 (mi_inT y)) (fun v h' hw => ?_)
    obtain ⟨w, rfl, -, ⟨z, rfl, oz⟩, q1, q2, q3⟩ := hw
    obtain ⟨p1, p2, p3, p4⟩ := mq_post hJ q1 q2 q3
    exact ⟨p1, p2, p3, p4, _, List.mem_cons_self .., fun _ => me_nv1 oz oz.1 oz.2, fun z => by cases z⟩
theorem mq_set : lb_OkP sc_P sx_sk (lj_J MR L xs) xm_set := by
  intro h as M hM hS hJ has
  have eM : M = (6, 4, sb_235) := Option.some.inj (hM.symm.trans rfl)
  subst eM
  match as, has with
  | [a, b, c], has =>
    have e := ab_kd3 has.1 rfl
    have e : a = mi_c (.inr (.inr 109)) := Option.some.inj e
    subst e
    obtain ⟨y, ey, -⟩ := ab_kd1 has.2.1 rfl
    have ey : b = .int y := Option.some.inj ey
    have ey : b = mi_c (.inl y.toInt) := by rw [ey, mi_cT]
    subst ey
    obtain ⟨x, ex, -⟩ := ab_kd2 has.2.2.1 rfl
    have ex : c = mi_c (.inr (.inl x)) := Option.some.inj ex
    subst ex
    refine ab_Ends.imp (me_setf (d := 40) hS hJ.1.1.2.2 (mi_inT y)) (fun v h' hw => ?_)
    obtain ⟨w, rfl, -, ⟨z, rfl, z0, z1⟩, q1, q2, q3⟩ := hw
    obtain ⟨p1, p2, p3, p4⟩ := mq_post hJ q1 q2 q3
    exact ⟨p1, p2, p3, p4, _, List.mem_cons_self .., fun _ => me_nv1 ⟨by omega, by omega⟩ z0 z1, fun z => by cases z⟩
end LJR
