theorem sm_thr_step {q : sm_I} {x pc : Nat} {ls : sm_L} {st : List Value} {h : sm_H} (ht : sm_thr q = some x) : sm_step q pc ls st h = none := by
  unfold sm_thr at ht
  split at ht
  · next a y =>
    split at ht
    · next ha => subst ha; simp [sm_step, sm_newo]
    · cases ht
  · cases ht
/-! A STEP with unknown numbers is a step whatever they are -/
section SAS
variable {ρ : Nat → Int32} {μ : UInt64 → Int64}
theorem sa_cat (v : Value) : (sa_g ρ μ v).category = v.category := by cases v <;> rfl
theorem sa_cats (r : List Value) : ((r.map (sa_g ρ μ)).map fun v => v.category).sum = (r.map fun v => v.category).sum := by
  rw [List.map_map, show ((fun v : Value => v.category) ∘ sa_g ρ μ) = fun v : Value => v.category from funext fun v => sa_cat v]
theorem sa_lget (ls : sm_L) (i : Nat) : sm_lget (sa_gl ρ μ ls) i = (sm_lget ls i).map (sa_g ρ μ) := by
  unfold sm_lget
  rw [List.getElem?_map]
  cases ls[i]? with
  | none => rfl
  | some o => cases o <;> rfl
theorem sa_kill (ls : sm_L) (i : Nat) : sm_kill (sa_gl ρ μ ls) i = sa_gl ρ μ (sm_kill ls i) := by
  unfold sm_kill
  cases i with
  | zero => rfl
  | succ j =>
    dsimp only
    rw [List.getElem?_map]
    cases ls[j]? with
    | none => rfl
    | some o =>
      cases o with
      | none => rfl
      | some v =>
        simp only [Option.map_some, sa_cat]
        split
        · simp [List.map_set]
        · rfl
theorem sa_put1 {ls ls' : sm_L} {i : Nat} {v : Value} (h : sm_put1 ls i v = some ls') : sm_put1 (sa_gl ρ μ ls) i (sa_g ρ μ v) = some (sa_gl ρ μ ls') := by
  obtain ⟨hl, rfl⟩ := sm_put1_len h
  unfold sm_put1
  rw [if_pos (by simpa using hl), sa_kill]
  simp [List.map_set]
theorem sa_put2 {ls ls' : sm_L} {i : Nat} {v : Value} (h : sm_put2 ls i v = some ls') : sm_put2 (sa_gl ρ μ ls) i (sa_g ρ μ v) = some (sa_gl ρ μ ls') := by
  obtain ⟨hl, rfl⟩ := sm_put2_len h
  unfold sm_put2
  rw [if_pos (by simpa using hl), sa_kill]
  simp [List.map_set]
theorem sa_args {n : Nat} {st as r : List Value} (h : sm_args n st = some (as, r)) : sm_args n (sa_gs ρ μ st) = some (sa_gs ρ μ as, sa_gs ρ μ r) := by
  unfold sm_args at h ⊢
  split at h
  · next hl =>
    cases h
    rw [if_pos (by simpa using hl)]
    simp [List.map_take, List.map_drop]
  · cases h
theorem sa_fact_mem {c : Nat} {x y z : Value} : ∀ F : sa_F, sa_fact F c x y = some z → (c, x, y, z) ∈ F := by
  intro F
  induction F with
  | nil => intro h; simp [sa_fact] at h
  | cons f F ih =>
    obtain ⟨k, a, b, w⟩ := f
    intro h
    simp only [sa_fact] at h
    split at h
    · next hc => obtain ⟨rfl, rfl, rfl⟩ := hc; cases h; exact List.mem_cons_self
    · exact List.mem_cons_of_mem _ (ih h)
theorem sa_isI_g {v : Value} (h : sa_isI v = true) : sm_isI (sa_g ρ μ v) = true := by cases v <;> simp [sa_isI] at h <;> rfl
theorem sa_isL_g {v : Value} (h : sa_isL v = true) : ∃ x, sa_g ρ μ v = .long x := by cases v <;> simp [sa_isL] at h <;> exact ⟨_, rfl⟩
theorem sa_hget {h : sa_H} {a : Nat} {e : sa_E} (he : h[a]? = some e) : (sa_gh ρ μ h)[a]? = some (sa_ge ρ μ e) := by rw [List.getElem?_map, he]; rfl
theorem sa_upd (l : List (Nat × Value)) (k : Nat) (w : Value) : sa_fi ρ μ ((k, w) :: l) = upd (sa_fi ρ μ l) k (sa_i (sa_g ρ μ w)) := by
  funext j
  simp only [sa_fi, sa_look, upd]
  by_cases hj : j = k
  · simp [hj]
  · simp [hj]
theorem sa_updL (l : List (Nat × Value)) (k : Nat) (w : Value) : sa_fl ρ μ ((k, w) :: l) = vp_updL (sa_fl ρ μ l) k (sa_l (sa_g ρ μ w)) := by
  funext j
  simp only [sa_fl, sa_look, vp_updL]
  by_cases hj : j = k
  · simp [hj]
  · simp [hj]
/-- the instructions that look at the cells, and those that move numbers -/
def sa_heapI (i : Instr) : Bool := match i with
  | .iload_n _ | .iload _ | .lload_n _ | .lload _ | .istore_n _ | .istore _ | .lstore_n _ | .lstore _ => true
  | .iaload | .caload | .baload | .laload | .iastore | .castore | .bastore | .lastore | .arraylength | .getfield _ | .putfield _ | .new _ | .newarray _ | .invokevirtual _ => true
  | _ => false
set_option maxHeartbeats 4000000 in
theorem sa_pure_ok {q : sm_I} {pc : Nat} {ls : sm_L} {st : List Value} {h : sa_H} {r : sa_R} (hn : sa_heapI q.1 = false) (hs : sa_pure (sm_step q pc ls st []) h = some r) : sm_step q pc (sa_gl ρ μ ls) (sa_gs ρ μ st) (sa_gh ρ μ h) = some (sa_gr ρ μ r) := by
  obtain ⟨i, len, rs⟩ := q
  cases i with
  | iload_n _ | iload _ | lload_n _ | lload _ | istore_n _ | istore _ | lstore_n _ | lstore _ => cases hn
  | iaload | caload | baload | laload | iastore | castore | bastore | lastore | arraylength | getfield _ | putfield _ | new _ | newarray _ | invokevirtual _ => cases hn
  | aload_n k =>
    simp only [sm_step, sm_loadK] at hs ⊢
    rw [sa_lget]
    split at hs
    · next v hv =>
      split at hs
      · next hk =>
        cases hs
        rw [hv]
        cases v <;> simp [sm_isA] at hk
        rfl
      · cases hs
    · cases hs
  | aload k =>
    simp only [sm_step, sm_loadK] at hs ⊢
    rw [sa_lget]
    split at hs
    · next v hv =>
      split at hs
      · next hk =>
        cases hs
        rw [hv]
        cases v <;> simp [sm_isA] at hk
        rfl
      · cases hs
    · cases hs
  | astore_n k =>
    simp only [sm_step, sm_store1] at hs ⊢
    split at hs
    · next v r0 =>
      split at hs
      · next hk =>
        cases hp : sm_put1 ls k v with
        | none => rw [hp] at hs; cases hs
        | some l2 =>
          rw [hp] at hs
          cases hs
          cases v <;> simp [sm_isA] at hk
          have := sa_put1 (ρ := ρ) (μ := μ) hp
          simp only [sa_g] at this
          simp [sa_g, sm_isA, this, sm_nx, sa_gr]
      · cases hs
    · cases hs
  | astore k =>
    simp only [sm_step, sm_store1] at hs ⊢
    split at hs
    · next v r0 =>
      split at hs
      · next hk =>
        cases hp : sm_put1 ls k v with
        | none => rw [hp] at hs; cases hs
        | some l2 =>
          rw [hp] at hs
          cases hs
          cases v <;> simp [sm_isA] at hk
          have := sa_put1 (ρ := ρ) (μ := μ) hp
          simp only [sa_g] at this
          simp [sa_g, sm_isA, this, sm_nx, sa_gr]
      · cases hs
    · cases hs
  | iinc k n =>
    simp only [sm_step] at hs ⊢
    rw [sa_lget]
    split at hs
    · next x hx =>
      rw [hx]
      cases hp : sm_put1 ls k (.int (x + Int32.ofInt n)) with
      | none => rw [hp] at hs; cases hs
      | some l2 =>
        rw [hp] at hs
        cases hs
        have := sa_put1 (ρ := ρ) (μ := μ) hp
        simp only [sa_g] at this
        simp [sa_g, this, sm_nx, sa_gr]
    · cases hs
  | dup =>
    simp only [sm_step] at hs
    split at hs
    · next v r0 =>
      split at hs
      · next hc =>
        cases hs
        simp only [sm_step, sa_gs, List.map_cons, sa_cat]
        rw [if_pos hc]
        rfl
      · cases hs
    · cases hs
  | pop =>
    simp only [sm_step] at hs
    split at hs
    · next v r0 =>
      split at hs
      · next hc =>
        cases hs
        simp only [sm_step, sa_gs, List.map_cons, sa_cat]
        rw [if_pos hc]
        rfl
      · cases hs
    · cases hs
  | dup_x1 =>
    simp only [sm_step] at hs
    split at hs
    · next v w r0 =>
      split at hs
      · next hc =>
        cases hs
        simp only [sm_step, sa_gs, List.map_cons, sa_cat]
        rw [if_pos hc]
        rfl
      · cases hs
    · cases hs
  | dup_x2 =>
    simp only [sm_step] at hs
    split at hs
    · next v w u r0 =>
      split at hs
      · next hc =>
        cases hs
        simp only [sm_step, sa_gs, List.map_cons, sa_cat]
        rw [if_pos hc]
        rfl
      · cases hs
    · cases hs
  | dup2 =>
    simp only [sm_step] at hs
    split at hs
    · cases hs
      rfl
    · next v w r0 hnl =>
      split at hs
      · next hc =>
        cases hs
        obtain ⟨h1, h2⟩ := hc
        have h3 : (sa_g ρ μ w).category = 1 := by rw [sa_cat]; exact h2
        cases v <;> first
          | (cases h1; done)
          | (simp only [sm_step, sa_gs, List.map_cons]; exact if_pos ⟨rfl, h3⟩)
      · cases hs
    · cases hs
  | pop2 =>
    simp only [sm_step] at hs
    split at hs
    · cases hs
      rfl
    · next v w r0 hnl =>
      split at hs
      · next hc =>
        cases hs
        obtain ⟨h1, h2⟩ := hc
        have h3 : (sa_g ρ μ w).category = 1 := by rw [sa_cat]; exact h2
        cases v <;> first
          | (cases h1; done)
          | (simp only [sm_step, sa_gs, List.map_cons]; exact if_pos ⟨rfl, h3⟩)
      · cases hs
    · cases hs
  | invokestatic idx =>
    simp only [sm_step, sm_callS] at hs ⊢
    split at hs
    · split at hs
      · split at hs
        · next hc =>
          cases hs
          simp [sa_g, hc, sa_cats, sm_nx, sa_gr, ← List.map_map]
        · cases hs
      · cases hs
    · split at hs
      · split at hs
        · next hc =>
          cases hs
          simp [sa_g, hc, sa_cats, sm_nx, sa_gr, ← List.map_map]
        · cases hs
      · cases hs
    · split at hs
      · split at hs
        · next ha =>
          cases hs
          rw [sa_args ha]
          rfl
        · cases hs
      · cases hs
  | invokespecial idx =>
    simp only [sm_step, sm_callI] at hs ⊢
    split at hs
    · split at hs
      · split at hs
        · next hc =>
          cases hs
          simp [sa_g, hc, sa_cats, sm_nx, sa_gr, ← List.map_map]
        · cases hs
      · cases hs
    · split at hs
      · split at hs
        · next ha =>
          cases hs
          rw [sa_args ha]
          rfl
        · cases hs
      · cases hs
  | _ =>
    simp only [sm_step, sm_bin, sm_binL, sm_if, sm_nx, sm_ret] at hs
    repeat' split at hs
    all_goals first
      | (cases hs; done)
      | (cases hs; simp [sm_step, sm_bin, sm_binL, sm_if, sm_nx, sm_ret, sa_g, sa_gr, *]; done)
      | (cases hs; simp [sm_step, sm_bin, sm_binL, sm_if, sm_nx, sm_ret, sa_g, sa_gr, sa_cat, *]; done)
end SAS
