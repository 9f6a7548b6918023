/-! heaps alike; all at once -/
/-- heaps alike but for what is listed -/
def rq (wr : List (Nat × Nat)) (h h' : sm_H) : Prop := (∀ k, (mx_isA sx_sk k || mx_isB sx_sk k) = true → ab_in wr (k * 128) = false → h'[k]? = h[k]?) ∧ ∀ c, mx_isF sx_sk c = true → ab_in wr c = false → ab_fld h' c = ab_fld h c
section RQ9
variable {wr wr' : List (Nat × Nat)} {h h' h'' : sm_H}
theorem rq_fr (hS : ab_Sh sx_sk h) (hF : ab_Fr wr h h') : rq wr h h' := ⟨fun _ a b => me_arr hF hS a b, fun _ a b => me_fld hS hF a b⟩
theorem rq.trans (a : rq wr h h') (b : rq wr h' h'') : rq wr h h'' := ⟨fun k x y => (b.1 k x y).trans (a.1 k x y), fun c x y => (b.2 c x y).trans (a.2 c x y)⟩
theorem rq.wide (a : rq wr h h') (hw : ab_sub_wr wr wr' = true) : rq wr' h h' := by
  have n : ∀ c, ab_in wr' c = false → ab_in wr c = false := fun c hc => by
    cases e : ab_in wr c with
    | false => rfl
    | true => rw [ab_swr_ok hw e] at hc; cases hc
  exact ⟨fun k x y => a.1 k x (n _ y), fun c x y => a.2 c x (n _ y)⟩
theorem rq_app {e : sm_E} (hl : 172 ≤ h.length) : rq [] h (h ++ [e]) := by
  have xl := xs_len
  refine ⟨fun k a _ => List.getElem?_append_left ?_, fun c a _ => ?_⟩
  · by_cases q : k < sx_sk.length
    · omega
    · exfalso
      have : sx_sk[k]? = none := List.getElem?_eq_none (by omega)
      unfold mx_isA mx_isB at a
      rw [this] at a
      cases a
  · by_cases q : c / 128 < sx_sk.length
    · unfold ab_fld
      rw [List.getElem?_append_left (by omega)]
    · exfalso
      have : sx_sk[c / 128]? = none := List.getElem?_eq_none (by omega)
      unfold mx_isF at a
      rw [this] at a
      cases a
theorem rq.f (a : rq wr h h') {c : Nat} (hc : mx_isF sx_sk c = true) (hn : ab_in wr c = false) : mi_f h' c = mi_f h c := by
  unfold mi_f mx_i
  rw [a.2 c hc hn]
theorem rq.a (a : rq wr h h') {k : Nat} (hk : (mx_isA sx_sk k || mx_isB sx_sk k) = true) (hn : ab_in wr (k * 128) = false) (i : Nat) : mi_a h' k i = mi_a h k i := by
  unfold mi_a mx_a
  rw [a.1 k hk hn]
theorem rq.b (a : rq wr h h') {k : Nat} (hk : (mx_isA sx_sk k || mx_isB sx_sk k) = true) (hn : ab_in wr (k * 128) = false) (i : Nat) : mx_b h' k i = mx_b h k i := by
  unfold mx_b
  rw [a.1 k hk hn]
end RQ9
def xq_W : List (Nat × Nat) := [(21888, 21889)]
theorem mg_E.all {ι : Type} {d m pc : Nat} {ls : mi_L} {st : List mi_V} {h : sm_H} {QT : ι → Nat → sm_H → Prop} {Q : ι → Option mi_V → sm_H → Prop} (i0 : ι) (k : ∀ i, mg_E (QT i) d m pc ls st h (Q i)) : mg_E (fun x h' => ∀ i, QT i x h') d m pc ls st h (fun w h' => ∀ i, Q i w h') := by
  rcases k i0 with ⟨n, v, h1, r, w, e1, e2, -⟩ | ⟨n, x, h1, r, -⟩
  · refine Or.inl ⟨n, v, h1, r, w, e1, e2, fun i => ?_⟩
    rcases k i with ⟨n', v', h1', r', w', e1', e2', e3'⟩ | ⟨n', x', h1', r', -⟩
    · have := sm_run_same r r'
      injection this with ev eh
      subst eh
      have : w = w' := by
        rw [e1, e1'] at ev
        cases w with
        | none => cases w' with
          | none => rfl
          | some y => cases ev
        | some x => cases w' with
          | none => cases ev
          | some y =>
            have ev2 : some (mi_c x) = some (mi_c y) := ev
            injection ev2 with ev3
            rw [mi_c_inj (e2 x rfl) (e2' y rfl) ev3]
      rw [this]
      exact e3'
    · rw [sm_runT_run _ _ _ _ _ _ _ _ r' n] at r
      cases r
  · refine Or.inr ⟨n, x, h1, r, fun i => ?_⟩
    rcases k i with ⟨n', v', h1', r', -⟩ | ⟨n', x', h1', r', e⟩
    · rw [sm_runT_run _ _ _ _ _ _ _ _ r n'] at r'
      cases r'
    · have a := sm_runT_more _ _ _ _ _ _ _ _ r (max n n') d (Nat.le_max_left _ _) (Nat.le_refl _)
      have b := sm_runT_more _ _ _ _ _ _ _ _ r' (max n n') d (Nat.le_max_right _ _) (Nat.le_refl _)
      rw [a] at b
      injection b with b
      injection b with b1 b2
      subst b1
      subst b2
      exact e
