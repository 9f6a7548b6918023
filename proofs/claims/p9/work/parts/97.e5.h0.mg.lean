/-! runs that may throw -/
def mg_E (QT : Nat → sm_H → Prop) (d m pc : Nat) (ls : mi_L) (st : List mi_V) (h : sm_H) (Q : Option mi_V → sm_H → Prop) : Prop := ab_EndsX sc_P QT d m pc (mi_cl ls) (st.map mi_c) h (fun v h' => ∃ w, v = w.map mi_c ∧ (∀ x, w = some x → mi_ok x) ∧ Q w h')
section MGB
variable {QT : Nat → sm_H → Prop} {d m pc : Nat} {ls : mi_L} {st : List mi_V} {h : sm_H} {Q Q' : Option mi_V → sm_H → Prop} {M M' : sm_M} {q : sm_I}
theorem mg_seg {T : mi_T} {n d' m' pc' : Nat} {bs : List Nat} {ls' : mi_L} {st' : List mi_V} {O : List mi_U} {ob : List Prop} (hp : mj_path T sx_sk h n bs (d, m, pc, ls, st, [], []) = some ((d', m', pc', ls', st', O, []), ob)) (hT : ∀ e ∈ T, sc_P e.1 = some e.2) (hS : ab_Sh sx_sk h) (hl : mi_okL ls) (hst : mi_okS st) (ho : ∀ p ∈ ob, p) (k : ∀ h', me_W O h h' → mi_okL ls' → mi_okS st' → mg_E QT d' m' pc' ls' st' h' Q) : mg_E QT d m pc ls st h Q := by
  have hP := mx_Sh_Sp hS
  have := mj_path_ok (P := sc_P) (QT := QT) (Q := fun v h' => ∃ w, v = w.map mi_c ∧ (∀ x, w = some x → mi_ok x) ∧ Q w h') hT hP n bs _ _ ob hp ⟨hS, (fun u hu => by cases hu), hl, hst, (fun u hu => by cases hu), (fun f hf => by cases hf)⟩ ho (fun hA => by
    obtain ⟨a1, a2, a3, a4, a5, -⟩ := hA
    exact k _ (me_W_ap hP a1 a2 a5) a3 a4)
  exact this
theorem mg_call {m' : Nat} {as r : List mi_V} {Q1 : Option mi_V → sm_H → Prop} (hM : sc_P m = some M) (hq : M.2.2[pc]? = some (some q)) (hc : mj_call sx_sk q st = some (m', as, r)) (hM' : sc_P m' = some M') (hsl : (mi_slots as).length ≤ M'.1) (hcat : (r.map mi_cat).sum ≤ 8) (hS : ab_Sh sx_sk h) (k : me_E d m' 0 (mi_entry M'.1 as) [] h Q1) (kk : ∀ w h', (∀ x, w = some x → mi_ok x) → Q1 w h' → mg_E QT (d + 1) m (pc + 3) ls (mi_back w r) h' Q) : mg_E QT (d + 1) m pc ls st h Q := by
  obtain ⟨e1, -⟩ := mj_call_ok (pc := pc) (ls := mi_cl ls) hS hc
  refine ab_EndsX.call hM hq e1 hM' (by rw [mi_slots_len]; exact hsl) (by rw [mi_cats_eq]; exact hcat) ?_
  rw [mi_entry_eq]
  refine ab_Ends.imp k (fun v h' hw => ?_)
  obtain ⟨w, rfl, hw, hQ⟩ := hw
  rw [mi_back_eq]
  exact kk w h' hw hQ
theorem mg_ret {rv : Option mi_V} {ob : List Prop} (hM : sc_P m = some M) (hq : M.2.2[pc]? = some (some q)) (hr : mj_ret q M.2.1 st = some (rv, ob)) (hst : mi_okS st) (ho : ∀ p ∈ ob, p) (hQ : Q rv h) : mg_E QT d m pc ls st h Q := Or.inl (mf_ret hM hq hr hst ho hQ)
theorem mg_thr {x : Nat} (hM : sc_P m = some M) (hq : M.2.2[pc]? = some (some q)) (ht : sm_thr q = some x) (hQ : QT x (h ++ [sm_exc x])) : mg_E QT d m pc ls [] h Q := ab_EndsX.thr hM hq ht hQ
end MGB
