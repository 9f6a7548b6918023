/-! a path, calls and ends -/
def mi_cF (f : mi_F) : ab_CF := (f.1, f.2.1, mi_cl f.2.2.1, f.2.2.2.map mi_c)
def mi_okF (F : List mi_F) : Prop := ∀ f ∈ F, mi_okL f.2.2.1 ∧ mi_okS f.2.2.2
def mi_ap (O : List mi_U) (h : sm_H) : sm_H := mx_ap (O.map mi_cU) h
def mi_K (P : Nat → Option sm_M) (QT : Nat → sm_H → Prop) (Q : Option Value → sm_H → Prop) (h : sm_H) (S : mi_S) : Prop := ab_EndsK P QT Q (S.2.2.2.2.2.2.map mi_cF) S.1 S.2.1 S.2.2.1 (mi_cl S.2.2.2.1) (S.2.2.2.2.1.map mi_c) (mi_ap S.2.2.2.2.2.1 h)
def mi_okA (sk : ab_K) (h : sm_H) (S : mi_S) : Prop := ab_Sh sk (mi_ap S.2.2.2.2.2.1 h) ∧ mx_oO sk (S.2.2.2.2.2.1.map mi_cU) ∧ mi_okL S.2.2.2.1 ∧ mi_okS S.2.2.2.2.1 ∧ mi_okO S.2.2.2.2.2.1 ∧ mi_okF S.2.2.2.2.2.2
section MIQ
variable {sk : ab_K} {h : sm_H} {P : Nat → Option sm_M} {QT : Nat → sm_H → Prop} {Q : Option Value → sm_H → Prop} {T : mi_T}
theorem mi_find_mem : ∀ (T : mi_T) {m : Nat} {M : sm_M}, mi_find T m = some M → (m, M) ∈ T := by
  intro T
  induction T with
  | nil => intro m M hf; cases hf
  | cons e r ih =>
    intro m M hf
    unfold mi_find at hf
    split at hf
    · next he =>
      cases hf
      rw [← he]
      exact List.mem_cons_self
    · exact List.mem_cons_of_mem _ (ih hf)
theorem mi_pre_inv {ob ob2 : List Prop} {X : Option (mi_S × List Prop)} {R : mi_S} (hx : mi_pre ob X = some (R, ob2)) : ∃ ob3, X = some (R, ob3) ∧ ob2 = ob ++ ob3 := by
  unfold mi_pre at hx
  split at hx
  · next S ob3 => cases hx; exact ⟨ob3, rfl, rfl⟩
  · cases hx
theorem mi_slots_eq : ∀ as : List mi_V, sm_slots (as.map mi_c) = mi_cl (mi_slots as) := by
  intro as
  induction as with
  | nil => rfl
  | cons v r ih =>
    simp only [List.map_cons, sm_slots, mi_slots, mi_catv]
    split
    · rw [ih]; rfl
    · rw [ih]; rfl
theorem mi_entry_eq (n : Nat) (as : List mi_V) : sm_entry n (as.map mi_c) = mi_cl (mi_entry n as) := by
  unfold sm_entry mi_entry
  rw [mi_slots_eq]
  unfold mi_cl
  rw [List.map_append, List.length_map, List.map_replicate]
  rfl
theorem mi_slots_len (as : List mi_V) : (sm_slots (as.map mi_c)).length = (mi_slots as).length := by
  rw [mi_slots_eq]
  unfold mi_cl
  rw [List.length_map]
theorem mi_cats_eq (r : List mi_V) : ((r.map mi_c).map fun v => v.category) = r.map mi_cat := by
  rw [List.map_map]
  exact List.map_congr_left (fun v _ => mi_catv v)
theorem mi_slots_ok : ∀ as : List mi_V, mi_okS as → mi_okL (mi_slots as) := by
  intro as
  induction as with
  | nil => intro _ v hv; cases hv
  | cons a r ih =>
    intro hs v hv
    have ih := ih (mi_okS_tl hs)
    unfold mi_slots at hv
    split at hv
    · rcases List.mem_cons.mp hv with e | hv
      · cases e; exact mi_okS_hd hs
      · rcases List.mem_cons.mp hv with e | hv
        · cases e
        · exact ih v hv
    · rcases List.mem_cons.mp hv with e | hv
      · cases e; exact mi_okS_hd hs
      · exact ih v hv
theorem mi_entry_ok {n : Nat} {as : List mi_V} (hs : mi_okS as) : mi_okL (mi_entry n as) := fun v hv => by
  rcases List.mem_append.mp hv with hv | hv
  · exact mi_slots_ok as hs v hv
  · cases (List.mem_replicate.mp hv).2
theorem mi_args_inv {n : Nat} {st as r : List mi_V} (ha : mi_args n st = some (as, r)) : sm_args n (st.map mi_c) = some (as.map mi_c, r.map mi_c) ∧ (mi_okS st → mi_okS as ∧ mi_okS r) := by
  unfold mi_args at ha
  split at ha
  · next hn =>
    cases ha
    refine ⟨?_, fun hs => ⟨fun v hv => hs v (List.mem_of_mem_take (List.mem_reverse.mp hv)), fun v hv => hs v (List.mem_of_mem_drop hv)⟩⟩
    unfold sm_args
    rw [List.length_map, if_pos hn, List.map_reverse, List.map_take, List.map_drop]
  · cases ha
theorem mi_call_ok {q : sm_I} {st as r : List mi_V} {m pc : Nat} {ls : sm_L} {H : sm_H} (hv : ∃ fl, sk[109]? = some (some (.inr (11, fl)))) (hS : ab_Sh sk H) (hc : mi_call q st = some (m, as, r)) : sm_step q pc ls (st.map mi_c) H = some (.inr (.inr (m, as.map mi_c, r.map mi_c))) ∧ (mi_okS st → mi_okS as ∧ mi_okS r) := by
  obtain ⟨i, len, rs⟩ := q
  unfold mi_call at hc
  split at hc
  · next idx k m1 n hi hrs =>
    dsimp only at hi hrs
    subst hi
    subst hrs
    split at hc
    · next as1 r1 ha =>
      cases hc
      obtain ⟨e1, e2⟩ := mi_args_inv ha
      refine ⟨?_, e2⟩
      simp only [sm_step, sm_callS]
      rw [e1]
      rfl
    · cases hc
  · next idx k n ci m1 hi hrs =>
    dsimp only at hi hrs
    subst hi
    subst hrs
    split at hc
    · next hci =>
      subst hci
      split at hc
      · next a as1 r1 ha =>
        split at hc
        · next h109 =>
          cases hc
          subst h109
          obtain ⟨e1, e2⟩ := mi_args_inv ha
          refine ⟨?_, e2⟩
          obtain ⟨fl, hk⟩ := hv
          obtain ⟨fs, ho, -, -⟩ := mx_obj hS hk
          simp only [sm_step, sm_callV]
          rw [e1]
          simp only [List.map_cons, mi_c]
          rw [ho]
          rfl
        · cases hc
      · cases hc
    · cases hc
  · cases hc
theorem mi_ret_ok {q : sm_I} {k pc : Nat} {st : List mi_V} {rv : Option mi_V} {ob : List Prop} {ls : sm_L} {H : sm_H} (hr : mi_ret q k st = some (rv, ob)) (hst : mi_okS st) (ho : ∀ p ∈ ob, p) : sm_step q pc ls (st.map mi_c) H = some (.inr (.inl (rv.map mi_c))) ∧ sm_okret k (rv.map mi_c) = true ∧ ∀ v, rv = some v → mi_ok v := by
  obtain ⟨i, len, rs⟩ := q
  unfold mi_ret at hr
  split at hr
  · next hrs =>
    dsimp only at hrs
    subst hrs
    split at hr
    · next hk =>
      cases hr
      subst hk
      exact ⟨rfl, rfl, fun v hv => by cases hv; exact mi_okS_hd hst⟩
    · split at hr
      · next hk =>
        cases hr
        subst hk
        refine ⟨rfl, ?_, fun v hv => by cases hv; exact mi_okS_hd hst⟩
        have h1 := ho _ List.mem_cons_self
        rcases h1 with rfl | rfl <;> rfl
      · cases hr
  · next hrs =>
    dsimp only at hrs
    subst hrs
    split at hr
    · next hk =>
      cases hr
      subst hk
      exact ⟨rfl, rfl, fun v hv => by cases hv; trivial⟩
    · cases hr
  · next hrs =>
    dsimp only at hrs
    subst hrs
    split at hr
    · next hk =>
      cases hr
      subst hk
      exact ⟨rfl, rfl, fun v hv => by cases hv⟩
    · cases hr
  · cases hr
theorem mi_back_eq (rv : Option mi_V) (r : List mi_V) : sm_back (rv.map mi_c) (r.map mi_c) = (mi_back rv r).map mi_c := by
  cases rv <;> rfl
theorem mi_back_ok {rv : Option mi_V} {r : List mi_V} (hv : ∀ v, rv = some v → mi_ok v) (hr : mi_okS r) : mi_okS (mi_back rv r) := by
  cases rv with
  | none => exact hr
  | some v => exact mi_okS_cons (hv v rfl) hr
set_option maxHeartbeats 1000000 in
theorem mi_path_ok (hT : ∀ e ∈ T, P e.1 = some e.2) (hv : ∃ fl, sk[109]? = some (some (.inr (11, fl)))) (hP : mx_Sp sk h) : ∀ (n : Nat) (bs : List Nat) (S R : mi_S) (ob : List Prop), mi_path T sk h n bs S = some (R, ob) → mi_okA sk h S → (∀ p ∈ ob, p) → (mi_okA sk h R → mi_K P QT Q h R) → mi_K P QT Q h S := by
  intro n
  induction n with
  | zero =>
    intro bs S R ob hp hA ho hk
    simp only [mi_path] at hp
    cases hp
    exact hk hA
  | succ n ih =>
    intro bs S R ob hp hA ho hk
    obtain ⟨d, m, pc, ls, st, O, F⟩ := S
    obtain ⟨hS, hO, hl, hst, hU, hF⟩ := hA
    simp only [mi_path] at hp
    split at hp
    · cases hp
    · next nl k tab hfm =>
      have hM := hT _ (mi_find_mem T hfm)
      split at hp
      · next q hq =>
        split at hp
        · next pc' ls' st' O' ob1 hs =>
          obtain ⟨ob2, hp2, rfl⟩ := mi_pre_inv hp
          obtain ⟨⟨ob', hm, hob'⟩, g1, g2, g3⟩ := mi_step_ok hs hl hst hU (fun p hp => ho p (List.mem_append_left _ hp))
          obtain ⟨e1, e2, e3⟩ := mo_step_ok hm hP hO hS hob'
          exact ab_EndsK.step (M := (nl, k, tab)) hM hq e1 (ih _ _ _ _ hp2 ⟨e2, e3, g1, g2, g3, hF⟩ (fun p hp => ho p (List.mem_append_right _ hp)) hk)
        · split at hp
          · next m' as r hc =>
            obtain ⟨e1, e2⟩ := mi_call_ok (pc := pc) (ls := mi_cl ls) hv hS hc
            obtain ⟨k1, k2⟩ := e2 hst
            split at hp
            · next d' nl' k' tab' hfm' =>
              split at hp
              · next hcc =>
                have hM' := hT _ (mi_find_mem T hfm')
                refine ab_EndsK.inl (M := (nl, k, tab)) (M' := (nl', k', tab')) hM hq e1 hM' (by rw [mi_slots_len]; exact hcc.1) (by rw [mi_cats_eq]; exact hcc.2) ?_
                have := ih _ _ _ _ hp ⟨hS, hO, mi_entry_ok k1, (fun v hv => by cases hv), hU, fun f hf => by
                  rcases List.mem_cons.mp hf with rfl | hf
                  · exact ⟨hl, k2⟩
                  · exact hF f hf⟩ ho hk
                rw [mi_entry_eq]
                exact this
              · cases hp
            · cases hp
          · split at hp
            · next rv ob1 f F' hr =>
              obtain ⟨ob2, hp2, rfl⟩ := mi_pre_inv hp
              obtain ⟨e1, e2, e3⟩ := mi_ret_ok (pc := pc) (ls := mi_cl ls) (H := mi_ap O h) hr hst (fun p hp => ho p (List.mem_append_left _ hp))
              have hf := hF f List.mem_cons_self
              refine ab_EndsK.ret (c := mi_cF f) (M := (nl, k, tab)) hM hq e1 e2 ?_
              have := ih _ _ _ _ hp2 ⟨hS, hO, hf.1, mi_back_ok e3 hf.2, hU, fun g hg => hF g (List.mem_cons_of_mem _ hg)⟩ (fun p hp => ho p (List.mem_append_right _ hp)) hk
              show ab_EndsK P QT Q (F'.map mi_cF) (d + 1) f.1 (f.2.1 + 3) (mi_cl f.2.2.1) (sm_back (rv.map mi_c) (f.2.2.2.map mi_c)) (mi_ap O h)
              rw [mi_back_eq]
              exact this
            · cases hp
      · cases hp
end MIQ
