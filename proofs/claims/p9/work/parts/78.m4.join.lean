/-! the reference's calls, as the law asks for them; compile is still asked for -/
def mj_ks : List Nat := wk_gk ++ [155, 162]
def MJ (h : sm_H) : Prop := (∃ x, h[109]? = some (.inr x)) ∧ (∀ k, k ∈ mj_ks → ∃ x, h[k]? = some (.inl x)) ∧ mj_0 h
section MJI
variable {h h' : sm_H} {L : Nat} {xs : Nat → Int32}
theorem mj_0_eq (ha : ∀ k, k ∈ mj_ks → h'[k]? = h[k]?) (f1 : ab_fld h' 13959 = ab_fld h 13959) (f2 : ab_fld h' 14015 = ab_fld h 14015) (hJ : mj_0 h) : mj_0 h' := by
  have hg : wk_gc (mi_a h) (mi_a h') := fun k hk i => by
    unfold mi_a mx_a
    rw [ha k (List.mem_append.mpr (Or.inl hk))]
  have hK : wk_K 2 h' = wk_K 2 h := funext fun k => by
    unfold wk_K
    rw [if_pos rfl, if_pos rfl]
    unfold mi_a mx_a
    rw [ha 155 (by decide)]
  have hV : wk_V 2 h' = wk_V 2 h := funext fun k => by
    unfold wk_V
    rw [if_pos rfl, if_pos rfl]
    unfold mx_b
    rw [ha 162 (by decide)]
  have e1 : mi_f h' 13959 = mi_f h 13959 := by unfold mi_f mx_i; rw [f1]
  have e2 : mi_f h' 14015 = mi_f h 14015 := by unfold mi_f mx_i; rw [f2]
  unfold mj_0 mj_N
  rw [e1, e2, hK, hV]
  exact ⟨fun a => mj_L_g hg (hJ.1 a), fun a => ⟨mj_L_g hg (hJ.2 a).1, tp_N_g hg (hJ.2 a).2⟩⟩
theorem mj_ks_lt : ∀ k, k ∈ mj_ks → k < 172 := by decide
theorem mj_ks_wr : ∀ k, k ∈ mj_ks → ab_in mj_wr (k * 128) = false := by decide
theorem mj_MJ : mj_I MJ := by
  refine ⟨fun h h' hJ hF => ?_, fun h e hl hJ => ?_⟩
  · obtain ⟨⟨⟨ci, fs⟩, j1⟩, j2, j3⟩ := hJ
    have hx := hF.2.2 109 _ j1
    unfold ab_FrE at hx
    obtain ⟨fs', e1, e2⟩ := hx
    have ha : ∀ k, k ∈ mj_ks → h'[k]? = h[k]? := fun k hk => by
      obtain ⟨x, ex⟩ := j2 k hk
      rw [ex]
      exact hF.2.2 k _ ex (mj_ks_wr k hk)
    refine ⟨⟨_, e1⟩, fun k hk => ?_, mj_0_eq ha ?_ ?_ j3⟩
    · rw [ha k hk]
      exact j2 k hk
    · have a1 : ab_fld h' 13959 = fs'[7]? := by
        unfold ab_fld
        rw [show h'[13959 / 128]? = some (.inr (ci, fs')) from e1]
      have a2 : ab_fld h 13959 = fs[7]? := by
        unfold ab_fld
        rw [show h[13959 / 128]? = some (.inr (ci, fs)) from j1]
      rw [a1, a2]
      exact e2 7 (by decide)
    · have a1 : ab_fld h' 14015 = fs'[63]? := by
        unfold ab_fld
        rw [show h'[14015 / 128]? = some (.inr (ci, fs')) from e1]
      have a2 : ab_fld h 14015 = fs[63]? := by
        unfold ab_fld
        rw [show h[14015 / 128]? = some (.inr (ci, fs)) from j1]
      rw [a1, a2]
      exact e2 63 (by decide)
  · have hk : ∀ k, k < 172 → (h ++ [e])[k]? = h[k]? := fun k hk => List.getElem?_append_left (by omega)
    obtain ⟨j1, j2, j3⟩ := hJ
    refine ⟨by rw [hk 109 (by decide)]; exact j1, fun k hk2 => by rw [hk k (mj_ks_lt k hk2)]; exact j2 k hk2, mj_0_eq (fun k hk2 => hk k (mj_ks_lt k hk2)) ?_ ?_ j3⟩
    · unfold ab_fld
      rw [hk (13959 / 128) (by decide)]
    · unfold ab_fld
      rw [hk (14015 / 128) (by decide)]
set_option maxRecDepth 20000 in
theorem mj_ks_A : ∀ k, k ∈ mj_ks → (mx_isA sx_sk k || mx_isB sx_sk k) = true := by decide +kernel
set_option maxRecDepth 20000 in
theorem mj_sk109 : ∃ x, sx_sk[109]? = some (some (.inr x)) := by
  have hf : mx_isF sx_sk 13952 = true := by decide +kernel
  unfold mx_isF at hf
  split at hf
  · next ci fl hsk => exact ⟨(ci, fl), hsk⟩
  · cases hf
theorem mj_of (hS : ab_Sh sx_sk h) (hJ : mj_0 h) : MJ h := by
  refine ⟨?_, fun k hk => ?_, hJ⟩
  · obtain ⟨⟨ci, fl⟩, e⟩ := mj_sk109
    obtain ⟨fs, e1, -⟩ := hS _ _ e
    exact ⟨_, e1⟩
  · have hk := mj_ks_A k hk
    have : ∃ t n lo hi ex, sx_sk[k]? = some (some (.inl (t, n, lo, hi, ex))) := by
      unfold mx_isA mx_isB at hk
      split at hk
      · next t n lo hi ex hsk => exact ⟨t, n, lo, hi, ex, hsk⟩
      · cases hk
    obtain ⟨t, n, lo, hi, ex, hsk⟩ := this
    obtain ⟨c, e1, -⟩ := hS _ _ hsk
    exact ⟨_, e1⟩
theorem mj_post (hJ : lj_J MJ L xs h) (hS' : ab_Sh sx_sk h') (hF : ab_Fr mj_W h h') (h0 : mj_0 h') : ab_Sh sx_sk h' ∧ lj_J MJ L xs h' ∧ h'.length = h.length ∧ sm_sl h' = sm_sl h := by
  refine ⟨hS', ⟨mj_of hS' h0, by rw [hF.1]; exact hJ.2.1, ?_⟩, hF.1, hF.2.1⟩
  exact hF.2.2 0 _ hJ.2.2 (by decide)
theorem mj_parse : lb_OkP sc_P sx_sk (lj_J MJ L xs) xm_parse := by
  intro h as M hM hS hJ has
  have eM : M = (1, 1, sb_228) := Option.some.inj (hM.symm.trans rfl)
  subst eM
  cases as with
  | nil => exact absurd has id
  | cons a r =>
    cases r with
    | cons b s => exact absurd has.2 id
    | nil =>
      have e := ab_kd3 has.1 rfl
      have e : a = mi_c (.inr (.inr 109)) := Option.some.inj e
      subst e
      refine ab_Ends.imp (me_parse (d := 40) hS hJ.1.2.2) (fun v h' hw => ?_)
      obtain ⟨w, rfl, -, ⟨z, rfl, oz⟩, q1, q2, q3⟩ := hw
      obtain ⟨p1, p2, p3, p4⟩ := mj_post hJ q1 q2 q3
      exact ⟨p1, p2, p3, p4, _, List.mem_cons_self .., fun _ => me_nv1 oz oz.1 oz.2, fun z => by cases z⟩
theorem mj_print : lb_OkP sc_P sx_sk (lj_J MJ L xs) xm_print := by
  intro h as M hM hS hJ has
  have eM : M = (2, 1, sb_205) := Option.some.inj (hM.symm.trans rfl)
  subst eM
  cases as with
  | nil => exact absurd has id
  | cons a r =>
    cases r with
    | cons b s => exact absurd has.2 id
    | nil =>
      have e := ab_kd3 has.1 rfl
      have e : a = mi_c (.inr (.inr 109)) := Option.some.inj e
      subst e
      refine ab_Ends.imp (me_print (d := 40) hS hJ.1.2.2) (fun v h' hw => ?_)
      obtain ⟨w, rfl, -, ⟨z, rfl, oz⟩, q1, q2, q3⟩ := hw
      obtain ⟨p1, p2, p3, p4⟩ := mj_post hJ q1 q2 q3
      exact ⟨p1, p2, p3, p4, _, List.mem_cons_self .., fun _ => me_nv1 oz oz.1 oz.2, fun z => by cases z⟩
theorem mj_grow : lb_OkP sc_P sx_sk (lj_J MJ L xs) xm_grow := by
  intro h as M hM hS hJ has
  have eM : M = (4, 1, sb_232) := Option.some.inj (hM.symm.trans rfl)
  subst eM
  match as, has with
  | [a, b, c], has =>
    have e := ab_kd3 has.1 rfl
    have e : a = mi_c (.inr (.inr 109)) := Option.some.inj e
    subst e
    obtain ⟨x, ex, -⟩ := ab_kd2 has.2.1 rfl
    have ex : b = mi_c (.inr (.inl x)) := Option.some.inj ex
    subst ex
    obtain ⟨y, ey, -⟩ := ab_kd1 has.2.2.1 rfl
    have ey : c = .int y := Option.some.inj ey
    have ey : c = mi_c (.inl y.toInt) := by rw [ey, mi_cT]
    subst ey
    refine ab_Ends.imp (me_grow (d := 40) hS hJ.1.2.2 (mi_inT y)) (fun v h' hw => ?_)
    obtain ⟨w, rfl, -, ⟨z, rfl, oz⟩, q1, q2, q3⟩ := hw
    obtain ⟨p1, p2, p3, p4⟩ := mj_post hJ q1 q2 q3
    exact ⟨p1, p2, p3, p4, _, List.mem_cons_self .., fun _ => me_nv1 oz oz.1 oz.2, fun z => by cases z⟩
theorem mj_set : lb_OkP sc_P sx_sk (lj_J MJ L xs) xm_set := by
  intro h as M hM hS hJ has
  have eM : M = (6, 4, sb_235) := Option.some.inj (hM.symm.trans rfl)
  subst eM
  match as, has with
  | [a, b, c], has =>
    have e := ab_kd3 has.1 rfl
    have e : a = mi_c (.inr (.inr 109)) := Option.some.inj e
    subst e
    obtain ⟨y, ey, -⟩ := ab_kd1 has.2.1 rfl
    have ey : b = .int y := Option.some.inj ey
    have ey : b = mi_c (.inl y.toInt) := by rw [ey, mi_cT]
    subst ey
    obtain ⟨x, ex, -⟩ := ab_kd2 has.2.2.1 rfl
    have ex : c = mi_c (.inr (.inl x)) := Option.some.inj ex
    subst ex
    refine ab_Ends.imp (me_set (d := 40) hS hJ.1.2.2 (mi_inT y)) (fun v h' hw => ?_)
    obtain ⟨w, rfl, -, ⟨z, rfl, z0, z1⟩, q1, q2, q3⟩ := hw
    obtain ⟨p1, p2, p3, p4⟩ := mj_post hJ q1 q2 q3
    exact ⟨p1, p2, p3, p4, _, List.mem_cons_self .., fun _ => me_nv1 ⟨by omega, by omega⟩ z0 z1, fun z => by cases z⟩
end MJI
