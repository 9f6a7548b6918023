/-! BETWEEN THE LAW'S CALLS: MJ, an invariant of the reference's cells; the script lies at 0 -/
/-- what MJ does not look at: the class's cells, the reference's texts, its code, what is kept, the law's own array -/
def mj_wr : List (Nat × Nat) := [(6528, 13952), (13952, 13956), (14017, 14018), (14080, 14464), (20608, 20609), (20992, 20993), (21888, 21889)]
def mj_I (MJ : sm_H → Prop) : Prop := (∀ h h', MJ h → ab_Fr mj_wr h h' → MJ h') ∧ ∀ (h : sm_H) (e : sm_E), 172 ≤ h.length → MJ h → MJ (h ++ [e])
def lj_J (MJ : sm_H → Prop) (L : Nat) (xs : Nat → Int32) (h : sm_H) : Prop := MJ h ∧ 172 ≤ h.length ∧ h[0]? = some (.inl (0, L, .inl xs))
section LJJ
variable {P : Nat → Option sm_M} {PW : Nat → Option sm_MW} {sk : ab_K} {MJ : sm_H → Prop} {L : Nat} {xs : Nat → Int32} {wr : List (Nat × Nat)}
theorem lj_app {h : sm_H} {e : sm_E} (hl : sk.length ≤ h.length) (hS : ab_Sh sk h) : ab_Sh sk (h ++ [e]) := by
  intro k s hk
  have : k < sk.length := (List.getElem?_eq_some_iff.mp hk).1
  rw [List.getElem?_append_left (by omega)]
  exact hS k s hk
theorem lj_fr {h g : sm_H} (hI : mj_I MJ) (hJ : lj_J MJ L xs h) (hw : ab_sub_wr wr mj_wr = true) (hF : ab_Fr wr h g) : lj_J MJ L xs g := by
  refine ⟨hI.1 h g hJ.1 (hF.wide (fun c hc => ab_swr_ok hw hc)), by rw [hF.1]; exact hJ.2.1, ?_⟩
  have := hF.2.2 0 _ hJ.2.2
  refine this ?_
  cases hc : ab_in wr (0 * 128) with
  | false => rfl
  | true =>
    have := ab_swr_ok hw hc
    revert this
    decide
theorem lj_P {c : ab_C} (hI : mj_I MJ) (hok : ab_Ok P sk c) (hpre : c.2.2.1 = []) (hw : ab_sub_wr c.2.2.2.2.1 mj_wr = true) : lb_OkP P sk (lj_J MJ L xs) c := by
  intro h as M hM hSh hJ has
  refine (hok h as M hM hSh has (by rw [hpre]; exact fun e he => absurd he List.not_mem_nil)).imp fun v h' hp => ?_
  obtain ⟨p1, p2, p, pm, pr, -⟩ := hp
  exact ⟨p1, lj_fr hI hJ hw p2, p2.1, p2.2.1, p, pm, pr⟩
theorem lj_W {env : List (List Nat × ab_C)} {m d fuel : Nat} {args posts : List ab_V} (hI : mj_I MJ) (hl : sk.length ≤ 172) (henv : ∀ e ∈ env, ab_OkX P sk e.1 e.2) (hg : wb_good P PW sk wr env m d fuel args posts = true) (hw : ab_sub_wr wr mj_wr = true) : lb_OkW P PW sk (lj_J MJ L xs) (m, args, posts, d) := by
  intro h as M hM hSh hJ has
  obtain ⟨g1, n, v, h', hr, g, e1, e2, e3, p, pm, pr⟩ := wb_good_ok hg henv hM hSh has
  refine ⟨g1, n, v, h', hr, ?_⟩
  have hJg := lj_fr hI hJ hw e2
  have hgl := hJg.2.1
  rcases e3 with rfl | ⟨x, rfl⟩
  · exact ⟨e1, hJg, by rw [e2.1]; omega, by rw [e2.2.1]; omega, p, pm, pr⟩
  · refine ⟨lj_app (by omega) e1, ⟨hI.2 g _ hgl hJg.1, by rw [List.length_append]; omega, ?_⟩, by rw [List.length_append, e2.1]; exact Nat.le_refl _, ?_, p, pm, pr⟩
    · rw [List.getElem?_append_left (by omega)]
      exact hJg.2.2
    · rw [sm_sl_app, e2.2.1]
      exact Nat.le_refl _
end LJJ
