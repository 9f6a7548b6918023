/-! THE REFERENCE'S METHODS over integers: rules -/
def mi_loc (u : mi_U) : Nat := match u with
  | .inl (c, _) => c
  | .inr (.inl (c, _)) => c
  | .inr (.inr (.inl (k, _, _))) => k * 128
  | .inr (.inr (.inr (k, _, _))) => k * 128
def mi_wr (wr : List (Nat × Nat)) (O : List mi_U) : Bool := O.all (fun u => ab_in wr (mi_loc u))
section MEA
variable {sk : ab_K} {h h' : sm_H} {wr : List (Nat × Nat)}
theorem mi_Fr1 {u : mi_U} (hw : ab_in wr (mi_loc u) = true) : ab_Fr wr h (mx_ap1 (mi_cU u) h) := by
  rcases u with ⟨c, z⟩ | ⟨c, x⟩ | ⟨k, i, z⟩ | ⟨k, i, x⟩
  · have e : c / 128 * 128 + c % 128 = c := by omega
    show ab_Fr wr h (mx_pf h c (.int (Int32.ofInt z)))
    unfold mx_pf
    split
    · next ci fs hk => exact ab_Fr_obj hk (by rw [e]; exact hw)
    · exact ab_Fr.refl
  · have e : c / 128 * 128 + c % 128 = c := by omega
    show ab_Fr wr h (mx_pf h c (.long x))
    unfold mx_pf
    split
    · next ci fs hk => exact ab_Fr_obj hk (by rw [e]; exact hw)
    · exact ab_Fr.refl
  · show ab_Fr wr h (mx_pa h k i (Int32.ofInt z))
    unfold mx_pa
    split
    · next t n f hk => exact ab_Fr_arr hk (by simp [sm_sz]) hw
    · exact ab_Fr.refl
  · show ab_Fr wr h (mx_pb h k i x)
    unfold mx_pb
    split
    · next t n f hk => exact ab_Fr_arr hk (by simp [sm_sz]) hw
    · exact ab_Fr.refl
theorem mi_Fr : ∀ O : List mi_U, mi_wr wr O = true → ab_Fr wr h (mi_ap O h) := by
  intro O
  induction O with
  | nil => intro _; exact ab_Fr.refl
  | cons u r ih =>
    intro hw
    unfold mi_wr at hw
    rw [List.all_cons, Bool.and_eq_true] at hw
    exact (ih hw.2).trans (mi_Fr1 hw.1)
/-- what a frame keeps -/
theorem me_fld {c : Nat} (hS : ab_Sh sk h) (hF : ab_Fr wr h h') (hc : mx_isF sk c = true) (hn : ab_in wr c = false) : ab_fld h' c = ab_fld h c := by
  unfold mx_isF at hc
  split at hc
  · next ci fl hsk =>
    rw [decide_eq_true_eq] at hc
    obtain ⟨fs, e1, e2, -⟩ := hS _ _ hsk
    have hlt : c % 128 < fs.length := by rw [e2]; exact hc
    have e : ab_fld h c = some fs[c % 128] := by
      unfold ab_fld
      rw [e1]
      exact List.getElem?_eq_getElem hlt
    rw [e]
    exact ab_Fr_fld hF hn e
  · cases hc
theorem me_f {c : Nat} (hF : ab_Fr wr h h') (hS : ab_Sh sk h) (hc : mx_isF sk c = true) (hn : ab_in wr c = false) : mi_f h' c = mi_f h c := by
  unfold mi_f mx_i
  rw [me_fld hS hF hc hn]
theorem me_l {c : Nat} (hF : ab_Fr wr h h') (hS : ab_Sh sk h) (hc : mx_isF sk c = true) (hn : ab_in wr c = false) : mx_l h' c = mx_l h c := by
  unfold mx_l
  rw [me_fld hS hF hc hn]
theorem me_arr {k : Nat} (hF : ab_Fr wr h h') (hS : ab_Sh sk h) (hk : (mx_isA sk k || mx_isB sk k) = true) (hn : ab_in wr (k * 128) = false) : h'[k]? = h[k]? := by
  have : ∃ t n lo hi ex, sk[k]? = some (some (.inl (t, n, lo, hi, ex))) := by
    unfold mx_isA mx_isB at hk
    split at hk
    · next t n lo hi ex hsk => exact ⟨t, n, lo, hi, ex, hsk⟩
    · cases hk
  obtain ⟨t, n, lo, hi, ex, hsk⟩ := this
  obtain ⟨c, e1, -⟩ := hS _ _ hsk
  rw [e1]
  exact hF.2.2 k _ e1 hn
theorem me_a {k i : Nat} (hF : ab_Fr wr h h') (hS : ab_Sh sk h) (hk : (mx_isA sk k || mx_isB sk k) = true) (hn : ab_in wr (k * 128) = false) : mi_a h' k i = mi_a h k i := by
  unfold mi_a mx_a
  rw [me_arr hF hS hk hn]
theorem me_b {k i : Nat} (hF : ab_Fr wr h h') (hS : ab_Sh sk h) (hk : (mx_isA sk k || mx_isB sk k) = true) (hn : ab_in wr (k * 128) = false) : mx_b h' k i = mx_b h k i := by
  unfold mx_b
  rw [me_arr hF hS hk hn]
/-- bounds -/
theorem me_fb {c : Nat} {lo hi : Int} (hS : ab_Sh sk h) (hd : ab_dflt sk c = some (1, lo, hi, [])) : lo ≤ mi_f h c ∧ mi_f h c ≤ hi := mx_i_bd hS hd
theorem me_ab {k t n i : Nat} {lo hi : Int} {ex : List Int} (hS : ab_Sh sk h) (hk : sk[k]? = some (some (.inl (t, n, lo, hi, ex)))) (ht : t ≠ 1) (hi' : i < n) : lo ≤ mi_a h k i ∧ mi_a h k i ≤ hi := mx_a_bd hS hk ht hi'
theorem me_nv1 {z lo hi : Int} (hz : mi_in z) (h1 : lo ≤ z) (h2 : z ≤ hi) : ab_nv (1, lo, hi, []) (some (mi_c (.inl z))) := ⟨Int32.ofInt z, rfl, by rw [mi_ti hz]; exact h1, by rw [mi_ti hz]; exact h2, fun _ ht => absurd ht List.not_mem_nil⟩
theorem me_nvf {c : Nat} {lo hi lo0 hi0 : Int} (hS : ab_Sh sk h) (hd : ab_dflt sk c = some (1, lo0, hi0, [])) (h1 : lo ≤ mi_f h c) (h2 : mi_f h c ≤ hi) : ab_nv (1, lo, hi, []) (ab_fld h c) := by
  obtain ⟨x, e, -, -, -⟩ := ab_kd1 (ab_dflt_ok (ls := []) (L0 := []) (h0 := []) hS hd) rfl
  have e2 : mi_f h c = x.toInt := by
    unfold mi_f mx_i
    rw [e]
  rw [e2] at h1 h2
  rw [e]
  exact ⟨x, rfl, h1, h2, fun _ ht => absurd ht List.not_mem_nil⟩
theorem me_fnv {c : Nat} {lo hi : Int} {ts : List ab_T} (hv : ab_nv (1, lo, hi, ts) (ab_fld h c)) : lo ≤ mi_f h c ∧ mi_f h c ≤ hi := by
  obtain ⟨x, e, h1, h2, -⟩ := ab_kd1 hv rfl
  unfold mi_f mx_i
  rw [e]
  exact ⟨h1, h2⟩
end MEA
theorem sx_109 : ∃ fl, sx_sk[109]? = some (some (.inr (11, fl))) := ⟨_, rfl⟩
/-- what lies in the cells behind a path -/
def me_W (O : List mi_U) (h h' : sm_H) : Prop := ab_Sh sx_sk h' ∧ (∀ c, mi_f h' c = mi_ri O c h) ∧ (∀ k i, mi_a h' k i = mi_ra O k i h) ∧ (∀ c, mx_l h' c = mi_rl O c h) ∧ (∀ k i, mx_b h' k i = mi_rb O k i h) ∧ ∀ wr, mi_wr wr O = true → ab_Fr wr h h'
theorem me_W_ap {O : List mi_U} {h : sm_H} (hP : mx_Sp sx_sk h) (hS : ab_Sh sx_sk (mi_ap O h)) (ho : mx_oO sx_sk (O.map mi_cU)) (hU : mi_okO O) : me_W O h (mi_ap O h) := by
  refine ⟨hS, fun c => ?_, fun k i => ?_, fun c => ?_, fun k i => ?_, fun wr hw => mi_Fr O hw⟩
  · unfold mi_f mi_ap
    rw [mx_i_ap hP _ ho, mi_ri_eq, mi_ti (mi_ri_in c O hU)]
  · unfold mi_a mi_ap
    rw [mx_a_ap hP _ ho, mi_ra_eq, mi_ti (mi_ra_in k i O hU)]
  · unfold mi_ap
    rw [mx_l_ap hP _ ho, mi_rl_eq]
  · unfold mi_ap
    rw [mx_b_ap hP _ ho, mi_rb_eq]
/-- a run of one of the reference's methods from here ends with Q -/
def me_E (d m pc : Nat) (ls : mi_L) (st : List mi_V) (h : sm_H) (Q : Option mi_V → sm_H → Prop) : Prop := ab_Ends sc_P d m pc (mi_cl ls) (st.map mi_c) h (fun v h' => ∃ w, v = w.map mi_c ∧ (∀ x, w = some x → mi_ok x) ∧ Q w h')
section MEB
variable {d m pc : Nat} {ls : mi_L} {st : List mi_V} {h : sm_H} {Q Q' : Option mi_V → sm_H → Prop} {M M' : sm_M} {q : sm_I}
theorem me_E.imp (k : me_E d m pc ls st h Q) (hQ : ∀ w h', Q w h' → Q' w h') : me_E d m pc ls st h Q' := ab_Ends.imp k (fun v h' ⟨w, e1, e2, e3⟩ => ⟨w, e1, e2, hQ w h' e3⟩)
theorem me_E.deep {d' : Nat} (k : me_E d m pc ls st h Q) (hd : d ≤ d') : me_E d' m pc ls st h Q := ab_Ends.deep k hd
theorem me_seg {T : mi_T} {n d' m' pc' : Nat} {bs : List Nat} {ls' : mi_L} {st' : List mi_V} {O : List mi_U} {ob : List Prop} (hp : mi_path T sx_sk h n bs (d, m, pc, ls, st, [], []) = some ((d', m', pc', ls', st', O, []), ob)) (hT : ∀ e ∈ T, sc_P e.1 = some e.2) (hS : ab_Sh sx_sk h) (hl : mi_okL ls) (hst : mi_okS st) (ho : ∀ p ∈ ob, p) (k : ∀ h', me_W O h h' → mi_okL ls' → mi_okS st' → me_E d' m' pc' ls' st' h' Q) : me_E d m pc ls st h Q := by
  have hP := mx_Sh_Sp hS
  have := mi_path_ok (P := sc_P) (QT := fun _ _ => False) (Q := fun v h' => ∃ w, v = w.map mi_c ∧ (∀ x, w = some x → mi_ok x) ∧ Q w h') hT sx_109 hP n bs _ _ ob hp ⟨hS, (fun u hu => by cases hu), hl, hst, (fun u hu => by cases hu), (fun f hf => by cases hf)⟩ ho (fun hA => by
    obtain ⟨a1, a2, a3, a4, a5, -⟩ := hA
    exact Or.inl (k _ (me_W_ap hP a1 a2 a5) a3 a4))
  rcases this with this | ⟨n, x, h', -, hf⟩
  · exact this
  · exact hf.elim
theorem me_call {m' : Nat} {as r : List mi_V} {Q1 : Option mi_V → sm_H → Prop} (hM : sc_P m = some M) (hq : M.2.2[pc]? = some (some q)) (hc : mi_call q st = some (m', as, r)) (hM' : sc_P m' = some M') (hsl : (mi_slots as).length ≤ M'.1) (hcat : (r.map mi_cat).sum ≤ 8) (hS : ab_Sh sx_sk h) (k : me_E d m' 0 (mi_entry M'.1 as) [] h Q1) (kk : ∀ w h', (∀ x, w = some x → mi_ok x) → Q1 w h' → me_E (d + 1) m (pc + 3) ls (mi_back w r) h' Q) : me_E (d + 1) m pc ls st h Q := by
  obtain ⟨e1, -⟩ := mi_call_ok (pc := pc) (ls := mi_cl ls) sx_109 hS hc
  refine ab_Ends.call hM hq e1 hM' (by rw [mi_slots_len]; exact hsl) (by rw [mi_cats_eq]; exact hcat) ?_
  rw [mi_entry_eq]
  refine ab_Ends.imp k (fun v h' hw => ?_)
  obtain ⟨w, rfl, hw, hQ⟩ := hw
  rw [mi_back_eq]
  exact kk w h' hw hQ
theorem me_ret {rv : Option mi_V} {ob : List Prop} (hM : sc_P m = some M) (hq : M.2.2[pc]? = some (some q)) (hr : mi_ret q M.2.1 st = some (rv, ob)) (hst : mi_okS st) (ho : ∀ p ∈ ob, p) (hQ : Q rv h) : me_E d m pc ls st h Q := by
  obtain ⟨e1, e2, e3⟩ := mi_ret_ok (pc := pc) (ls := mi_cl ls) (H := h) hr hst ho
  exact ab_Ends.ret hM hq e1 e2 ⟨rv, rfl, e3, hQ⟩
/-- an answer within bounds -/
def mi_res (k : Nat) (a : ab_V) (w : Option mi_V) : Prop := if k = 0 then w = none else (a.1 = 1 ∧ ∃ z, w = some (.inl z) ∧ a.2.1 ≤ z ∧ z ≤ a.2.2.1) ∨ (a.1 = 2 ∧ ∃ x, w = some (.inr (.inl x)) ∧ a.2.1 ≤ x.toInt ∧ x.toInt ≤ a.2.2.1) ∨ (a.1 = 3 ∧ w = some (.inr (.inr a.2.1.toNat)))
theorem me_abs {c : ab_C} {as : List mi_V} (hok : ab_Ok sc_P sx_sk c) (hM : sc_P c.1 = some M) (hS : ab_Sh sx_sk h) (has : ab_nvs c.2.1 (as.map mi_c)) (hpre : ab_nvH c.2.2.1 h) (hk : c.2.2.2.1.all (fun p => M.2.1 == 0 || p.1.1 == 1 || p.1.1 == 2 || p.1.1 == 3) = true) : me_E c.2.2.2.2.2 c.1 0 (mi_entry M.1 as) [] h (fun w h' => ab_Sh sx_sk h' ∧ ab_Fr c.2.2.2.2.1 h h' ∧ ∃ p ∈ c.2.2.2.1, mi_res M.2.1 p.1 w ∧ ab_nvH p.2 h') := by
  have := hok h (as.map mi_c) M hM hS has hpre
  rw [mi_entry_eq] at this
  refine ab_Ends.imp this (fun v h' hp => ?_)
  obtain ⟨p1, p2, p, pm, pr, ph⟩ := hp
  have hkp := List.all_eq_true.mp hk p pm
  unfold ab_res at pr
  by_cases hk0 : M.2.1 = 0
  · rw [if_pos hk0] at pr
    refine ⟨none, pr, (fun x hx => by cases hx), p1, p2, p, pm, ?_, ph⟩
    unfold mi_res
    rw [if_pos hk0]
  · rw [if_neg hk0] at pr
    simp only [Bool.or_eq_true, beq_iff_eq] at hkp
    rcases hkp with ((hkp | hkp) | hkp) | hkp
    · exact absurd hkp hk0
    · obtain ⟨x, e, h1, h2, -⟩ := ab_kd1 (pr.1 (by omega)) hkp
      refine ⟨some (.inl x.toInt), by rw [e, Option.map_some, mi_cT], (fun y hy => by cases hy; exact mi_inT x), p1, p2, p, pm, ?_, ph⟩
      unfold mi_res
      rw [if_neg hk0]
      exact Or.inl ⟨hkp, x.toInt, rfl, h1, h2⟩
    · obtain ⟨x, e, h1, h2⟩ := ab_kd2 (pr.1 (by omega)) hkp
      refine ⟨some (.inr (.inl x)), e, (fun y hy => by cases hy; trivial), p1, p2, p, pm, ?_, ph⟩
      unfold mi_res
      rw [if_neg hk0]
      exact Or.inr (Or.inl ⟨hkp, x, rfl, h1, h2⟩)
    · have e := ab_kd3 (pr.1 (by omega)) hkp
      refine ⟨some (.inr (.inr p.1.2.1.toNat)), e, (fun y hy => by cases hy; trivial), p1, p2, p, pm, ?_, ph⟩
      unfold mi_res
      rw [if_neg hk0]
      exact Or.inr (Or.inr ⟨hkp, rfl⟩)
end MEB
