section SAT
variable {ρ : Nat → Int32} {μ : UInt64 → Int64}
theorem sa_ald_ok {t pc : Nat} {ls : sm_L} {st : List Value} {h : sa_H} {r : sa_R} (hs : sa_ald t pc ls st h = some r) : sm_ald t pc (sa_gl ρ μ ls) (sa_gs ρ μ st) (sa_gh ρ μ h) = some (sa_gr ρ μ r) ∧ ∀ t', t' ≠ t → sm_ald t' pc (sa_gl ρ μ ls) (sa_gs ρ μ st) (sa_gh ρ μ h) = none := by
  unfold sa_ald at hs
  split at hs
  · next i a r0 =>
    split at hs
    · next t' n l ha =>
      split at hs
      · next hc =>
        obtain ⟨rfl, ht, hi, hC⟩ := hc
        have e1 : sa_gs ρ μ (.int i :: .ref a :: r0) = .int i :: .ref a :: sa_gs ρ μ r0 := rfl
        have e2 : (sa_gh ρ μ h)[a]? = some (.inl (t', n, .inl (sa_fi ρ μ l))) := by rw [sa_hget ha]; simp [sa_ge, ht]
        refine ⟨?_, fun t2 h2 => ?_⟩
        · rw [e1]
          simp only [sm_ald, e2]
          rw [if_pos ⟨trivial, hi, hC⟩]
          split at hs
          · next x hx =>
            cases hs
            have : sa_fi ρ μ l i.toNatClampNeg = x := by
              unfold sa_fi
              cases hl : sa_look l i.toNatClampNeg with
              | none => rw [hl] at hx; cases hx; rfl
              | some v => rw [hl] at hx; cases hx; rfl
            rw [this]
            rfl
          · next k hx =>
            cases hs
            have : sa_fi ρ μ l i.toNatClampNeg = ρ k := by
              unfold sa_fi
              cases hl : sa_look l i.toNatClampNeg with
              | none => rw [hl] at hx; cases hx
              | some v => rw [hl] at hx; cases hx; rfl
            rw [this]
            rfl
          · cases hs
        · rw [e1]
          simp only [sm_ald, e2]
          rw [if_neg (fun z => h2 z.1.symm)]
      · cases hs
    · cases hs
  · cases hs
theorem sa_aldL_ok {pc : Nat} {ls : sm_L} {st : List Value} {h : sa_H} {r : sa_R} (hs : sa_aldL pc ls st h = some r) : sm_aldL pc (sa_gl ρ μ ls) (sa_gs ρ μ st) (sa_gh ρ μ h) = some (sa_gr ρ μ r) := by
  unfold sa_aldL at hs
  split at hs
  · next i a r0 =>
    split at hs
    · next t' n l ha =>
      split at hs
      · next hc =>
        obtain ⟨rfl, hi, hC⟩ := hc
        have e1 : sa_gs ρ μ (.int i :: .ref a :: r0) = .int i :: .ref a :: sa_gs ρ μ r0 := rfl
        have e2 : (sa_gh ρ μ h)[a]? = some (.inl (1, n, .inr (.inl (sa_fl ρ μ l)))) := by rw [sa_hget ha]; simp [sa_ge]
        rw [e1]
        simp only [sm_aldL, e2]
        rw [if_pos ⟨trivial, hi, hC⟩]
        split at hs
        · next x hx =>
          cases hs
          have : sa_fl ρ μ l i.toNatClampNeg = x := by
            unfold sa_fl
            cases hl : sa_look l i.toNatClampNeg with
            | none => rw [hl] at hx; cases hx; rfl
            | some v => rw [hl] at hx; cases hx; rfl
          rw [this]
          rfl
        · cases hs
      · cases hs
    · cases hs
  · cases hs
theorem sa_t1 {x y z : Value} (h : sa_true ρ μ (1, x, y, z)) : ∃ a b, sa_g ρ μ x = .int a ∧ sa_g ρ μ y = .int b ∧ sa_g ρ μ z = .int (a &&& b) := by
  rcases h with ⟨-, h⟩ | ⟨e, -⟩ | ⟨e, -⟩ | ⟨e, -⟩ | ⟨e, -⟩ | ⟨e, -⟩ | ⟨c, _, _, e, -⟩ | ⟨e, -⟩
  · exact h
  · cases e
  · cases e
  · cases e
  · cases e
  · cases e
  · cases c <;> cases e
  · cases e
theorem sa_t2 {x y z : Value} (h : sa_true ρ μ (2, x, y, z)) : ∃ a, sa_g ρ μ x = .int a ∧ sa_g ρ μ z = .int (sm_chr a) := by
  rcases h with ⟨e, -⟩ | ⟨-, h⟩ | ⟨e, -⟩ | ⟨e, -⟩ | ⟨e, -⟩ | ⟨e, -⟩ | ⟨c, _, _, e, -⟩ | ⟨e, -⟩
  · cases e
  · exact h
  · cases e
  · cases e
  · cases e
  · cases e
  · cases c <;> cases e
  · cases e
theorem sa_t3 {x y z : Value} (h : sa_true ρ μ (3, x, y, z)) : ∃ a, sa_g ρ μ x = .int a ∧ sa_g ρ μ z = .long a.toInt64 := by
  rcases h with ⟨e, -⟩ | ⟨e, -⟩ | ⟨-, h⟩ | ⟨e, -⟩ | ⟨e, -⟩ | ⟨e, -⟩ | ⟨c, _, _, e, -⟩ | ⟨e, -⟩
  · cases e
  · cases e
  · exact h
  · cases e
  · cases e
  · cases e
  · cases c <;> cases e
  · cases e
theorem sa_t4 {x y z : Value} (h : sa_true ρ μ (4, x, y, z)) : ∃ a b, sa_g ρ μ x = .long a ∧ sa_g ρ μ y = .int b ∧ sa_g ρ μ z = .long (a <<< (b.toInt64 &&& 63)) := by
  rcases h with ⟨e, -⟩ | ⟨e, -⟩ | ⟨e, -⟩ | ⟨-, h⟩ | ⟨e, -⟩ | ⟨e, -⟩ | ⟨c, _, _, e, -⟩ | ⟨e, -⟩
  · cases e
  · cases e
  · cases e
  · exact h
  · cases e
  · cases e
  · cases c <;> cases e
  · cases e
theorem sa_t5 {x y z : Value} (h : sa_true ρ μ (5, x, y, z)) : ∃ a b, sa_g ρ μ x = .long a ∧ sa_g ρ μ y = .long b ∧ sa_g ρ μ z = .long (a &&& b) := by
  rcases h with ⟨e, -⟩ | ⟨e, -⟩ | ⟨e, -⟩ | ⟨e, -⟩ | ⟨-, h⟩ | ⟨e, -⟩ | ⟨c, _, _, e, -⟩ | ⟨e, -⟩
  · cases e
  · cases e
  · cases e
  · cases e
  · exact h
  · cases e
  · cases c <;> cases e
  · cases e
theorem sa_t6 {x y z : Value} (h : sa_true ρ μ (6, x, y, z)) : ∃ a b, sa_g ρ μ x = .long a ∧ sa_g ρ μ y = .long b ∧ sa_g ρ μ z = .long (a ||| b) := by
  rcases h with ⟨e, -⟩ | ⟨e, -⟩ | ⟨e, -⟩ | ⟨e, -⟩ | ⟨e, -⟩ | ⟨-, h⟩ | ⟨c, _, _, e, -⟩ | ⟨e, -⟩
  · cases e
  · cases e
  · cases e
  · cases e
  · cases e
  · exact h
  · cases c <;> cases e
  · cases e
theorem sa_tc {c : ClassFile.Cond} {x y z : Value} (h : sa_true ρ μ (sa_cc c, x, y, z)) : ∃ a b, sa_g ρ μ x = .int a ∧ sa_g ρ μ y = .int b ∧ z = .int (if sm_cmp c a b then 1 else 0) := by
  rcases h with ⟨e, -⟩ | ⟨e, -⟩ | ⟨e, -⟩ | ⟨e, -⟩ | ⟨e, -⟩ | ⟨e, -⟩ | ⟨c2, a, b, e, h1, h2, h3⟩ | ⟨e, -⟩
  · cases c <;> cases e
  · cases c <;> cases e
  · cases c <;> cases e
  · cases c <;> cases e
  · cases c <;> cases e
  · cases c <;> cases e
  · have : c = c2 := by cases c <;> cases c2 <;> first | rfl | cases e
    subst this
    exact ⟨a, b, h1, h2, h3⟩
  · cases c <;> cases e
theorem sa_t30 {x y z : Value} (h : sa_true ρ μ (30, x, y, z)) : ∃ a b, sa_g ρ μ x = .int a ∧ y = .int b ∧ (a.toInt < 0 ∨ b.toInt < a.toInt) := by
  rcases h with ⟨e, -⟩ | ⟨e, -⟩ | ⟨e, -⟩ | ⟨e, -⟩ | ⟨e, -⟩ | ⟨e, -⟩ | ⟨c, _, _, e, -⟩ | ⟨-, h⟩
  · cases e
  · cases e
  · cases e
  · cases e
  · cases e
  · cases e
  · cases c <;> cases e
  · exact h
variable {F : sa_F}
theorem sa_in_ok (hF : ∀ f ∈ F, sa_true ρ μ f) {t : Nat} {v w : Value} (h : sa_in F t v = some w) : ∃ x, sa_g ρ μ v = .int x ∧ ((t = 0 ∧ sa_g ρ μ w = .int x) ∨ (t = 2 ∧ sa_g ρ μ w = .int (sm_chr x)) ∨ (t = 3 ∧ sa_g ρ μ w = .int (x &&& 1))) := by
  unfold sa_in at h
  split at h
  · cases h; exact ⟨_, rfl, Or.inl ⟨rfl, rfl⟩⟩
  · cases h; exact ⟨_, rfl, Or.inl ⟨rfl, rfl⟩⟩
  · cases h; exact ⟨_, rfl, Or.inr (Or.inl ⟨rfl, rfl⟩)⟩
  · next k =>
    split at h
    · next j hj =>
      cases h
      obtain ⟨a, h1, h2⟩ := sa_t2 (hF _ (sa_fact_mem F hj))
      exact ⟨a, h1, Or.inr (Or.inl ⟨rfl, h2⟩)⟩
    · cases h
  · cases h; exact ⟨_, rfl, Or.inr (Or.inr ⟨rfl, rfl⟩)⟩
  · cases h
theorem sa_ast_ok (hF : ∀ f ∈ F, sa_true ρ μ f) {t pc : Nat} {ls : sm_L} {st : List Value} {h : sa_H} {r : sa_R} {g : Int32 → Int32} (hg : (t = 0 ∧ g = fun x => x) ∨ (t = 2 ∧ g = sm_chr) ∨ (t = 3 ∧ g = fun x => x &&& 1)) (hs : sa_ast F t pc ls st h = some r) : sm_ast t g pc (sa_gl ρ μ ls) (sa_gs ρ μ st) (sa_gh ρ μ h) = some (sa_gr ρ μ r) := by
  unfold sa_ast at hs
  split at hs
  · next v i a r0 =>
    split at hs
    · next w hw =>
      split at hs
      · next t' n l ha =>
        split at hs
        · next hc =>
          obtain ⟨rfl, ht, hi, hC⟩ := hc
          cases hs
          obtain ⟨x, hx, hw2⟩ := sa_in_ok hF hw
          have e1 : sa_gs ρ μ (v :: .int i :: .ref a :: r0) = .int x :: .int i :: .ref a :: sa_gs ρ μ r0 := by simp only [sa_gs, List.map_cons, hx]; rfl
          have e2 : (sa_gh ρ μ h)[a]? = some (.inl (t', n, .inl (sa_fi ρ μ l))) := by rw [sa_hget ha]; simp [sa_ge, ht]
          have e3 : sa_i (sa_g ρ μ w) = g x := by
            rcases hw2 with ⟨rfl, hw2⟩ | ⟨rfl, hw2⟩ | ⟨rfl, hw2⟩
            · rcases hg with ⟨-, rfl⟩ | ⟨e, -⟩ | ⟨e, -⟩
              · rw [hw2]; rfl
              · cases e
              · cases e
            · rcases hg with ⟨e, -⟩ | ⟨-, rfl⟩ | ⟨e, -⟩
              · cases e
              · rw [hw2]; rfl
              · cases e
            · rcases hg with ⟨e, -⟩ | ⟨e, -⟩ | ⟨-, rfl⟩
              · cases e
              · cases e
              · rw [hw2]; rfl
          rw [e1]
          simp only [sm_ast, e2]
          rw [if_pos ⟨trivial, hi, hC⟩]
          simp only [sm_nx, sa_gr, sa_gh, List.map_set, sa_ge, if_neg ht, sa_upd, e3]
        · cases hs
      · cases hs
    · cases hs
  · cases hs
theorem sa_astL_ok {pc : Nat} {ls : sm_L} {st : List Value} {h : sa_H} {r : sa_R} (hs : sa_astL pc ls st h = some r) : sm_astL pc (sa_gl ρ μ ls) (sa_gs ρ μ st) (sa_gh ρ μ h) = some (sa_gr ρ μ r) := by
  unfold sa_astL at hs
  split at hs
  · next x i a r0 =>
    split at hs
    · next t' n l ha =>
      split at hs
      · next hc =>
        obtain ⟨rfl, hi, hC⟩ := hc
        cases hs
        have e1 : sa_gs ρ μ (.long x :: .int i :: .ref a :: r0) = .long x :: .int i :: .ref a :: sa_gs ρ μ r0 := rfl
        have e2 : (sa_gh ρ μ h)[a]? = some (.inl (1, n, .inr (.inl (sa_fl ρ μ l)))) := by rw [sa_hget ha]; simp [sa_ge]
        rw [e1]
        simp only [sm_astL, e2]
        rw [if_pos ⟨trivial, hi, hC⟩]
        simp only [sm_nx, sa_gr, sa_gh, List.map_set, sa_ge, if_true, sa_updL]
        rfl
      · cases hs
    · cases hs
  · cases hs
theorem sa_fit {t : Nat} {v : Value} (h : sm_fit t v = true) : sm_fit t (sa_g ρ μ v) = true := by
  cases v with
  | retAddr k => unfold sm_fit at h; split at h <;> first | contradiction | cases h
  | double u => unfold sm_fit at h; split at h <;> first | contradiction | cases h
  | _ => exact h
theorem sa_dflt (t : Nat) : sa_g ρ μ (sm_dflt t) = sm_dflt t := by unfold sm_dflt; split <;> rfl
theorem sa_dflts (ts : List Nat) : (ts.map sm_dflt).map (sa_g ρ μ) = ts.map sm_dflt := by
  rw [List.map_map]
  exact List.map_congr_left fun t _ => sa_dflt t
set_option maxHeartbeats 4000000 in
theorem sa_step_ok (hF : ∀ f ∈ F, sa_true ρ μ f) {q : sm_I} {pc : Nat} {ls : sm_L} {st : List Value} {h : sa_H} {r : sa_R} (hs : sa_step F q pc ls st h = some r) : sm_step q pc (sa_gl ρ μ ls) (sa_gs ρ μ st) (sa_gh ρ μ h) = some (sa_gr ρ μ r) := by
  obtain ⟨i, len, rs⟩ := q
  have hload : ∀ {k : Nat} {n : Nat}, sa_load sa_isI n k pc ls st h = some r → sm_loadK sm_isI n k pc (sa_gl ρ μ ls) (sa_gs ρ μ st) (sa_gh ρ μ h) = some (sa_gr ρ μ r) := by
    intro k n hs
    simp only [sa_load, sm_loadK] at hs ⊢
    rw [sa_lget]
    split at hs
    · next v hv =>
      split at hs
      · next hk => cases hs; rw [hv]; simp [sa_isI_g hk, sm_nx, sa_gr]
      · cases hs
    · cases hs
  have hloadL : ∀ {k : Nat} {n : Nat}, sa_load sa_isL n k pc ls st h = some r → sm_loadK sm_isL n k pc (sa_gl ρ μ ls) (sa_gs ρ μ st) (sa_gh ρ μ h) = some (sa_gr ρ μ r) := by
    intro k n hs
    simp only [sa_load, sm_loadK] at hs ⊢
    rw [sa_lget]
    split at hs
    · next v hv =>
      split at hs
      · next hk =>
        cases hs
        rw [hv]
        obtain ⟨x, hx⟩ := sa_isL_g (ρ := ρ) (μ := μ) hk
        simp [hx, sm_isL, sm_nx, sa_gr]
      · cases hs
    · cases hs
  have hstore : ∀ {k : Nat} {n : Nat}, sa_store1 n k pc ls st h = some r → sm_store1 sm_isI n k pc (sa_gl ρ μ ls) (sa_gs ρ μ st) (sa_gh ρ μ h) = some (sa_gr ρ μ r) := by
    intro k n hs
    unfold sa_store1 at hs
    split at hs
    · next v r0 =>
      split at hs
      · next hk =>
        split at hs
        · next l2 hp => cases hs; simp [sm_store1, sa_isI_g hk, sa_put1 hp, sm_nx, sa_gr]
        · cases hs
      · cases hs
    · cases hs
  have hstoreL : ∀ {k : Nat} {n : Nat}, sa_store2 n k pc ls st h = some r → sm_store2 n k pc (sa_gl ρ μ ls) (sa_gs ρ μ st) (sa_gh ρ μ h) = some (sa_gr ρ μ r) := by
    intro k n hs
    unfold sa_store2 at hs
    split at hs
    · next v r0 =>
      split at hs
      · next hk =>
        split at hs
        · next l2 hp =>
          cases hs
          obtain ⟨x, hx⟩ := sa_isL_g (ρ := ρ) (μ := μ) hk
          have h2 := sa_put2 (ρ := ρ) (μ := μ) hp
          rw [hx] at h2
          simp [sm_store2, hx, h2, sm_nx, sa_gr]
        · cases hs
      · cases hs
    · cases hs
  have hbr : ∀ {c : ClassFile.Cond} {x y : Value} {off : Int} {r0 : List Value}, sa_br F c x y pc off ls r0 h = some r → ∃ a b, sa_g ρ μ x = .int a ∧ sa_g ρ μ y = .int b ∧ sm_if (sm_cmp c a b) pc off (sa_gl ρ μ ls) (sa_gs ρ μ r0) (sa_gh ρ μ h) = some (sa_gr ρ μ r) := by
    intro c x y off r0 hs
    unfold sa_br at hs
    split at hs
    · next z hz =>
      obtain ⟨a, b, h1, h2, h3⟩ := sa_tc (hF _ (sa_fact_mem F hz))
      refine ⟨a, b, h1, h2, ?_⟩
      cases h3
      cases hb : sm_cmp c a b with
      | true => rw [hb] at hs; simp [sa_nx] at hs; subst hs; rfl
      | false => rw [hb] at hs; simp [sa_nx] at hs; subst hs; rfl
    · cases hs
  cases i with
  | iload_n k => exact hload hs
  | iload k => exact hload hs
  | lload_n k => exact hloadL hs
  | lload k => exact hloadL hs
  | istore_n k => exact hstore hs
  | istore k => exact hstore hs
  | lstore_n k => exact hstoreL hs
  | lstore k => exact hstoreL hs
  | iaload => exact (sa_ald_ok hs).1
  | caload => exact (sa_ald_ok hs).1
  | baload =>
    simp only [sa_step, sm_step] at hs ⊢
    split at hs
    · next r1 h1 => cases hs; rw [(sa_ald_ok h1).1]
    · rw [(sa_ald_ok (ρ := ρ) (μ := μ) hs).2 3 (by decide)]
      exact (sa_ald_ok hs).1
  | laload => exact sa_aldL_ok hs
  | iastore => exact sa_ast_ok hF (Or.inl ⟨rfl, rfl⟩) hs
  | castore => exact sa_ast_ok hF (Or.inr (Or.inl ⟨rfl, rfl⟩)) hs
  | bastore => exact sa_ast_ok hF (Or.inr (Or.inr ⟨rfl, rfl⟩)) hs
  | lastore => exact sa_astL_ok hs
  | arraylength =>
    simp only [sa_step, sa_alen] at hs
    split at hs
    · next a r0 =>
      split at hs
      · next t n l ha =>
        split at hs
        · next hc =>
          cases hs
          have e2 := sa_hget (ρ := ρ) (μ := μ) ha
          simp only [sm_step, sa_gs, List.map_cons, sa_g]
          rw [e2]
          simp [sa_ge, hc, sm_nx, sa_gr, sa_g]
        · cases hs
      · cases hs
    · cases hs
  | getfield idx =>
    simp only [sa_step, sa_getf] at hs
    split at hs
    · next a r0 k z cs =>
      split at hs
      · next ci fs ha =>
        split at hs
        · next hc =>
          split at hs
          · next v hv =>
            cases hs
            have e2 := sa_hget (ρ := ρ) (μ := μ) ha
            simp only [sm_step, sm_getf, sa_gs, List.map_cons, sa_g]
            rw [e2]
            simp only [sa_ge]
            rw [if_pos hc, List.getElem?_map, hv]
            rfl
          · cases hs
        · cases hs
      · cases hs
    · cases hs
  | putfield idx =>
    simp only [sa_step, sa_putf] at hs
    split at hs
    · next v a r0 k t z cs =>
      split at hs
      · next ci fs ha =>
        split at hs
        · next hc =>
          cases hs
          have e2 := sa_hget (ρ := ρ) (μ := μ) ha
          show sm_putf (k :: t :: z :: cs) pc (sa_gl ρ μ ls) (sa_g ρ μ v :: .ref a :: sa_gs ρ μ r0) (sa_gh ρ μ h) = _
          simp only [sm_putf]
          rw [e2]
          simp only [sa_ge]
          rw [if_pos ⟨hc.1, by rw [List.length_map]; exact hc.2.1, sa_fit hc.2.2.1, hc.2.2.2⟩]
          simp only [sm_nx, sa_gr, sa_gh, List.map_set, sa_ge]
        · cases hs
      · cases hs
    · cases hs
  | new idx =>
    simp only [sa_step, sa_newo] at hs
    split at hs
    · next ci ts =>
      split at hs
      · cases hs
      · next hc =>
        cases hs
        simp only [sm_step, sm_newo]
        rw [if_neg hc]
        simp only [sm_nx, sa_gr, sa_gh, sa_gs, List.map_append, List.map_cons, List.map_nil, List.length_map, sa_ge, sa_dflts, sa_g]
    · cases hs
  | newarray idx =>
    simp only [sa_step, sa_newa] at hs
    split at hs
    · next n r0 t =>
      split at hs
      · next hc =>
        cases hs
        simp only [sm_step, sm_newa, sa_gs, List.map_cons, sa_g]
        rw [if_pos hc]
        simp only [sm_nx, sa_gr, sa_gh, sa_gs, List.map_append, List.map_cons, List.map_nil, List.length_map, sa_ge, sa_g]
        rfl
      · cases hs
    · cases hs
  | invokevirtual idx =>
    simp only [sa_step, sa_callV] at hs
    split at hs
    · next k n ps =>
      split at hs
      · next a as r0 hargs =>
        split at hs
        · next ci fs ha =>
          split at hs
          · next m hm =>
            cases hs
            have e2 := sa_hget (ρ := ρ) (μ := μ) ha
            simp only [sm_step, sm_callV]
            rw [sa_args hargs]
            simp only [sa_gs, List.map_cons, sa_g]
            rw [e2]
            simp only [sa_ge, hm]
            rfl
          · cases hs
        · cases hs
      · cases hs
    · cases hs
  | iand =>
    simp only [sa_step] at hs
    split at hs
    · unfold sa_bin at hs
      split at hs
      · next y x r0 =>
        split at hs
        · next z hz =>
          cases hs
          obtain ⟨a, b, h1, h2, h3⟩ := sa_t1 (hF _ (sa_fact_mem F hz))
          simp [sm_step, sm_bin, h1, h2, h3, sm_nx, sa_gr]
        · cases hs
      · cases hs
    · exact sa_pure_ok rfl hs
  | i2c =>
    simp only [sa_step] at hs
    split at hs
    · unfold sa_un at hs
      split at hs
      · next x r0 =>
        split at hs
        · next z hz =>
          cases hs
          obtain ⟨a, h1, h3⟩ := sa_t2 (hF _ (sa_fact_mem F hz))
          simp [sm_step, h1, h3, sm_nx, sa_gr]
        · cases hs
      · cases hs
    · exact sa_pure_ok rfl hs
  | i2l =>
    simp only [sa_step] at hs
    split at hs
    · unfold sa_un at hs
      split at hs
      · next x r0 =>
        split at hs
        · next z hz =>
          cases hs
          obtain ⟨a, h1, h3⟩ := sa_t3 (hF _ (sa_fact_mem F hz))
          simp [sm_step, h1, h3, sm_nx, sa_gr]
        · cases hs
      · cases hs
    · exact sa_pure_ok rfl hs
  | lshl =>
    simp only [sa_step] at hs
    split at hs
    · unfold sa_bin at hs
      split at hs
      · next y x r0 =>
        split at hs
        · next z hz =>
          cases hs
          obtain ⟨a, b, h1, h2, h3⟩ := sa_t4 (hF _ (sa_fact_mem F hz))
          simp [sm_step, h1, h2, h3, sm_nx, sa_gr]
        · cases hs
      · cases hs
    · exact sa_pure_ok rfl hs
  | land =>
    simp only [sa_step] at hs
    split at hs
    · unfold sa_bin at hs
      split at hs
      · next y x r0 =>
        split at hs
        · next z hz =>
          cases hs
          obtain ⟨a, b, h1, h2, h3⟩ := sa_t5 (hF _ (sa_fact_mem F hz))
          simp [sm_step, sm_binL, h1, h2, h3, sm_nx, sa_gr]
        · cases hs
      · cases hs
    · exact sa_pure_ok rfl hs
  | lor =>
    simp only [sa_step] at hs
    split at hs
    · unfold sa_bin at hs
      split at hs
      · next y x r0 =>
        split at hs
        · next z hz =>
          cases hs
          obtain ⟨a, b, h1, h2, h3⟩ := sa_t6 (hF _ (sa_fact_mem F hz))
          simp [sm_step, sm_binL, h1, h2, h3, sm_nx, sa_gr]
        · cases hs
      · cases hs
    · exact sa_pure_ok rfl hs
  | if_icmp c off =>
    simp only [sa_step] at hs
    split at hs
    · split at hs
      · next y x r0 _ =>
        obtain ⟨a, b, h1, h2, h3⟩ := hbr hs
        simp only [sm_step, sa_gs, List.map_cons, h1, h2]
        exact h3
      · cases hs
    · exact sa_pure_ok rfl hs
  | ifCond c off =>
    simp only [sa_step] at hs
    split at hs
    · split at hs
      · next x r0 _ =>
        obtain ⟨a, b, h1, h2, h3⟩ := hbr hs
        cases h2
        simp only [sm_step, sa_gs, List.map_cons, h1]
        exact h3
      · cases hs
    · exact sa_pure_ok rfl hs
  | tableswitch d lo hi offs =>
    simp only [sa_step] at hs
    split at hs
    · split at hs
      · next x r0 _ =>
        split at hs
        · next hc =>
          split at hs
          · next z hz =>
            cases hs
            obtain ⟨a, b, h1, h2, h3⟩ := sa_t30 (hF _ (sa_fact_mem F hz))
            cases h2
            obtain ⟨c1, c2, c3⟩ := hc
            have hb : (Int32.ofInt hi).toInt = hi := Int32.toInt_ofInt_of_le (by omega) (by omega)
            rw [hb] at h3
            simp only [sm_step, sa_gs, List.map_cons, h1]
            rw [if_pos (by rw [c1]; exact h3)]
            rfl
          · cases hs
        · cases hs
      · cases hs
    · exact sa_pure_ok rfl hs
  | _ => exact sa_pure_ok rfl hs
end SAT
/-! RUNS with unknown numbers -/
def sa_run (F : sa_F) (P : Nat → Option sm_M) : Nat → Nat → Nat → Nat → sm_L → List Value → sa_H → Option (Option Value × sa_H)
  | 0, _, _, _, _, _, _ => none
  | n + 1, d, m, pc, ls, st, h => match P m with
    | none => none
    | some (_, k, tab) => match tab[pc]? with
      | some (some q) => match sa_step F q pc ls st h with
        | some (.inl (pc', ls', st', h')) => sa_run F P n d m pc' ls' st' h'
        | some (.inr (.inl v)) => if sm_okret k v then some (v, h) else none
        | some (.inr (.inr (m', as, r))) => match d, P m' with
          | d' + 1, some (nl, _, _) => if (sm_slots as).length ≤ nl ∧ (r.map fun v => v.category).sum ≤ 8 then (match sa_run F P n d' m' 0 (sm_entry nl as) [] h with
            | some (v, h') => sa_run F P n d m (pc + 3) ls (sm_back v r) h'
            | none => none) else none
          | _, _ => none
        | none => none
      | _ => none
section SAR
variable {ρ : Nat → Int32} {μ : UInt64 → Int64} {F : sa_F} {P : Nat → Option sm_M} {PW : Nat → Option sm_MW}
theorem sa_slots (as : List Value) : sm_slots (sa_gs ρ μ as) = sa_gl ρ μ (sm_slots as) := by
  induction as with
  | nil => rfl
  | cons v as ih =>
    simp only [sa_gs, List.map_cons, sm_slots, sa_cat]
    split
    · simp only [sa_gl, List.map_cons, Option.map_some, Option.map_none]
      exact congrArg _ (congrArg _ ih)
    · simp only [sa_gl, List.map_cons, Option.map_some]
      exact congrArg _ ih
theorem sa_entry (n : Nat) (as : List Value) : sm_entry n (sa_gs ρ μ as) = sa_gl ρ μ (sm_entry n as) := by
  unfold sm_entry
  rw [sa_slots]
  simp [sa_gl]
theorem sa_okret {k : Nat} {v : Option Value} (h : sm_okret k v = true) : sm_okret k (v.map (sa_g ρ μ)) = true := by
  cases v with
  | none => exact h
  | some v =>
    cases v with
    | retAddr a => unfold sm_okret at h; split at h <;> simp_all
    | double u => unfold sm_okret at h; split at h <;> simp_all
    | _ => exact h
theorem sa_back (v : Option Value) (r : List Value) : sm_back (v.map (sa_g ρ μ)) (sa_gs ρ μ r) = sa_gs ρ μ (sm_back v r) := by cases v <;> rfl
theorem sa_callc {as r : List Value} {nl : Nat} (hc : (sm_slots as).length ≤ nl ∧ (r.map fun v => v.category).sum ≤ 8) : (sm_slots (sa_gs ρ μ as)).length ≤ nl ∧ ((sa_gs ρ μ r).map fun v => v.category).sum ≤ 8 := by
  rw [sa_slots, sa_cats, List.length_map]
  exact hc
theorem sa_run_ok (hF : ∀ f ∈ F, sa_true ρ μ f) : ∀ (n d m pc : Nat) (ls : sm_L) (st : List Value) (h : sa_H) (v : Option Value) (h' : sa_H), sa_run F P n d m pc ls st h = some (v, h') → sm_run P n d m pc (sa_gl ρ μ ls) (sa_gs ρ μ st) (sa_gh ρ μ h) = some (v.map (sa_g ρ μ), sa_gh ρ μ h') := by
  intro n
  induction n with
  | zero => intro d m pc ls st h v h' hr; simp [sa_run] at hr
  | succ n ih =>
    intro d m pc ls st h v h' hr
    unfold sa_run at hr
    rw [sm_run]
    split at hr
    · cases hr
    · next nl0 k tab hP =>
      rw [hP]
      dsimp only
      split at hr
      · next q hq =>
        rw [hq]
        dsimp only
        split at hr
        · next pc1 ls1 st1 h1 hs => rw [sa_step_ok hF hs]; exact ih _ _ _ _ _ _ _ _ hr
        · next v1 hs =>
          rw [sa_step_ok hF hs]
          split at hr
          · next hk => cases hr; simp only [sa_gr]; rw [if_pos (sa_okret hk)]
          · cases hr
        · next m1 as r hs =>
          rw [sa_step_ok hF hs]
          simp only [sa_gr]
          split at hr
          · next d1 nl1 k1 t1 hm1 =>
            rw [hm1]
            dsimp only
            split at hr
            · next hc =>
              rw [if_pos (sa_callc hc), sa_entry]
              split at hr
              · next v1 h1 hcall =>
                have := ih _ _ _ _ _ _ _ _ hcall
                simp only [List.map_nil, sa_gs] at this
                rw [this]
                dsimp only
                rw [sa_back]
                exact ih _ _ _ _ _ _ _ _ hr
              · cases hr
            · cases hr
          · cases hr
        · cases hr
      · cases hr
/-- the run is good: it answers 1, and keeps to so many cells and slots -/
def sa_sz (e : sa_E) : Nat := match e with
  | .inl (_, n, _) => n
  | .inr (_, fs) => fs.length
end SAR
/-! CHECKING the tables of methods with handlers, of the law, of throws, by computation -/
theorem sm_find_mem {pc x hp : Nat} : ∀ (al : List (Nat × Nat × Nat × Nat × Nat)), sm_find pc x al = some hp → x ∈ al.map (fun q => q.2.2.2.2) := by
  intro al
  induction al with
  | nil => intro h; simp [sm_find] at h
  | cons q al ih =>
    obtain ⟨a, b, c, k, z⟩ := q
    intro h
    simp only [sm_find] at h
    rw [List.map_cons]
    split at h
    · split at h
      · next hz => subst hz; exact List.mem_cons_self
      · exact List.mem_cons_of_mem _ (ih h)
    · exact List.mem_cons_of_mem _ (ih h)
/-- in a method with handlers the only calls are virtual ones of one method -/
def sm_ckW (idx n m : Nat) (tab : List (Option sm_I)) : Bool := tab.all (fun o => match o with
  | some (.invokevirtual ix, _, rs) => decide (ix = idx ∧ rs = [0, n, 0, m])
  | some (.invokestatic _, _, _) => false
  | some (.invokespecial _, _, _) => false
  | _ => true)
theorem sm_okW_of {Ts : List Cond} {sx : List (String × Nat × String × Nat)} {zx : List (String × String × String × Nat)} {oc : (List (Nat × Nat × String × String × String × Value) × List (String × Nat × MethodName × String) × List MethodName)} {K : sm_H} {cl : List vw_C} {nc : List (Nat × Nat)} {Y YW : Nat → sm_Y} {mi idx0 n0 m0 : Nat} {M : sm_MW} {pool : List ((Nat × Nat) × List Nat)} (y : sm_Y) (hy : YW mi = y)
    (h1 : Cond.codeWith y.1 y.2.1 M.1.1 y.2.2 (M.2.map fun q => (q.1, q.2.1, q.2.2.1, q.2.2.2.1)) ∈ Ts) (h2 : plainName y.1.cls = true) (h3 : sm_nmh y.1.cls) (h4 : M.1.1 ≤ 45) (h5 : sm_rk M.1.2.1 y.2.2) (h6 : sm_ckw pool y.2.1 M.1.2.2 0 y.2.1.data.toList = true) (h7 : sm_poolOk Ts sx zx oc K cl Y y.1.cls y.1.name pool)
    (h8 : sm_ckW idx0 n0 m0 M.1.2.2 = true) (h9 : ∃ (C : String) (T : u_T) (N : Nat), cl[0]? = some (C, T, N) ∧ Cond.instanceMethod (Y m0).1 ∈ Ts ∧ Cond.initialized (Y m0).1.cls ∈ Ts ∧ Cond.methodLink y.1.cls idx0 (Y m0).1 ∈ Ts ∧ Cond.selects C (Y m0).1 (Y m0).1 ∈ Ts ∧ sm_par (Y m0).1.desc = some n0)
    (h10 : ∀ x ∈ M.2.map (fun q => q.2.2.2.2), (∃ X T, cl[x]? = some (X, T, 0)) ∧ ∀ z ∈ M.2, sm_okH Ts cl nc y.1.cls x z) : sm_okW Ts sx zx oc K cl nc Y YW mi M := by
  subst hy
  refine ⟨h1, h2, h3, h4, h5, fun pc q hq => ?_⟩
  obtain ⟨g1, g2, g3, g4⟩ := sm_ck_ok _ _ (sm_ckw_ck _ _ _ rfl h6) pc q hq
  rw [Nat.zero_add] at g1 g3
  have hk : sm_okI Ts sx zx oc K cl (YW mi).1.cls (YW mi).1.name pc q.1 q.2.2 ∧ sm_okC Ts oc cl Y (YW mi).1.cls q.1 q.2.2 := by
    cases hp : sm_poolI q.1 with
    | true => exact h7 _ (g4 hp) pc q.1 rfl
    | false => exact sm_okI_of g3 hp
  have hall := List.all_eq_true.mp h8 _ (List.mem_of_getElem? hq)
  obtain ⟨i, len, rs⟩ := q
  refine ⟨g1, g2, hk.1, hk.2, ?_, fun x hp hf => ⟨(h10 x (sm_find_mem _ hf)).1, fun z hz _ => (h10 x (sm_find_mem _ hf)).2 z hz⟩, fun _ => ⟨?_, ?_⟩⟩
  · intro ix k n ps ci m1 e1 e2 e3
    dsimp only at e1 e2
    subst e1
    dsimp only at hall
    obtain ⟨z1, z2⟩ := of_decide_eq_true hall
    subst z1
    rw [z2] at e2
    simp only [List.cons.injEq] at e2
    obtain ⟨rfl, rfl, e2⟩ := e2
    rw [← e2] at e3
    simp only [sm_pick] at e3
    split at e3
    · next hc => cases e3; subst hc; exact h9
    · cases e3
  · intro ix e1
    dsimp only at e1
    subst e1
    cases hall
  · intro ix e1
    dsimp only at e1
    subst e1
    cases hall
/-- what the law's table must hold of a call -/
def sm_okQ (Ts : List Cond) (oc : (List (Nat × Nat × String × String × String × Value) × List (String × Nat × MethodName × String) × List MethodName)) (cl : List vw_C) (Y YW : Nat → sm_Y) (PW : Nat → Option sm_MW) (own : String) (i : Instr) (rs : List Nat) : Prop :=
  (∀ k mi n, rs = [k, mi, n] → (PW mi).isSome → ∃ idx, i = .invokestatic idx ∧ Cond.static (YW mi).1 ∈ Ts ∧ Cond.initialized (YW mi).1.cls ∈ Ts ∧ sm_par (YW mi).1.desc = some n ∧ Cond.methodLink own idx (YW mi).1 ∈ Ts) ∧
  (∀ idx k n ps ci mi, i = .invokevirtual idx → rs = k :: n :: ps → sm_pick ci ps = some mi → PW mi = none) ∧
  ((∀ k mi n, rs = [k, mi, n] → PW mi = none) → sm_okC Ts oc cl Y own i rs)
theorem sm_pick_mem {ci mi : Nat} : ∀ (k : Nat) (ps : List Nat), ps.length ≤ k → sm_pick ci ps = some mi → mi ∈ ps := by
  intro k
  induction k with
  | zero => intro ps hl h; have : ps = [] := List.length_eq_zero_iff.mp (by omega); subst this; simp [sm_pick] at h
  | succ k ih =>
    intro ps hl h
    match ps, hl, h with
    | [], _, h => simp [sm_pick] at h
    | [_], _, h => simp [sm_pick] at h
    | c :: m :: r, hl, h =>
      simp only [sm_pick] at h
      split at h
      · cases h; simp
      · have := ih r (by simp at hl; omega) h
        simp [this]
theorem sm_okQ_of {Ts : List Cond} {oc : (List (Nat × Nat × String × String × String × Value) × List (String × Nat × MethodName × String) × List MethodName)} {cl : List vw_C} {Y YW : Nat → sm_Y} {PW : Nat → Option sm_MW} {own : String} {i : Instr} {rs : List Nat} (hPW : ∀ m, m < 2000 → PW m = none) (hrs : (decide (rs.length < 3) || rs.all (fun m => decide (m < 2000))) = true) (hc : sm_okC Ts oc cl Y own i rs) : sm_okQ Ts oc cl Y YW PW own i rs := by
  have key : ∀ m ∈ rs, 3 ≤ rs.length → PW m = none := fun m hm hl => by
    rw [Bool.or_eq_true, decide_eq_true_eq, List.all_eq_true] at hrs
    rcases hrs with h | h
    · omega
    · exact hPW m (of_decide_eq_true (h m hm))
  refine ⟨fun k mi n e h => ?_, fun idx k n ps ci mi _ e h => ?_, fun _ => hc⟩
  · rw [key mi (by rw [e]; simp) (by rw [e]; simp)] at h
    cases h
  · have hm := sm_pick_mem _ ps (Nat.le_refl _) h
    have hl : 0 < ps.length := List.length_pos_of_mem hm
    exact key mi (by rw [e]; simp [hm]) (by rw [e]; simp; omega)
/-- the law's pool -/
def sm_poolQ (Ts : List Cond) (sx : List (String × Nat × String × Nat)) (zx : List (String × String × String × Nat)) (oc : (List (Nat × Nat × String × String × String × Value) × List (String × Nat × MethodName × String) × List MethodName)) (K : sm_H) (cl : List vw_C) (Y YW : Nat → sm_Y) (PW : Nat → Option sm_MW) (own mn : String) (pool : List ((Nat × Nat) × List Nat)) : Prop := ∀ e ∈ pool, ∀ (pc : Nat) (i : Instr), sm_key i = e.1 → sm_okI Ts sx zx oc K cl own mn pc i e.2 ∧ sm_okQ Ts oc cl Y YW PW own i e.2
theorem sm_okL_of {Ts : List Cond} {sx : List (String × Nat × String × Nat)} {zx : List (String × String × String × Nat)} {oc : (List (Nat × Nat × String × String × String × Value) × List (String × Nat × MethodName × String) × List MethodName)} {K : sm_H} {cl : List vw_C} {Y YW : Nat → sm_Y} {P : Nat → Option sm_M} {PW : Nat → Option sm_MW} {own mn : String} {bytes : ByteArray} {tab : List (Option sm_I)} {pool : List ((Nat × Nat) × List Nat)} (hPW : ∀ m, m < 2000 → PW m = none)
    (h6 : sm_ck pool bytes 0 tab = true) (h7 : sm_poolQ Ts sx zx oc K cl Y YW PW own mn pool) (h8 : tab.all (fun o => match o with
      | some (i, _, rs) => sm_poolI i || decide (rs = [])
      | none => true) = true) : sm_okL Ts sx zx oc K cl Y YW P PW own mn bytes tab := by
  intro pc q hq
  obtain ⟨g1, g2, g3, g4⟩ := sm_ck_ok _ _ h6 pc q hq
  rw [Nat.zero_add] at g1 g3
  have hall := List.all_eq_true.mp h8 _ (List.mem_of_getElem? hq)
  obtain ⟨i, len, rs⟩ := q
  have hk : sm_okI Ts sx zx oc K cl own mn pc i rs ∧ sm_okQ Ts oc cl Y YW PW own i rs := by
    cases hp : sm_poolI i with
    | true => exact h7 _ (g4 hp) pc i rfl
    | false =>
      dsimp only at hall
      rw [hp, Bool.false_or, decide_eq_true_eq] at hall
      subst hall
      have := sm_okI_of (Ts := Ts) (sx := sx) (zx := zx) (oc := oc) (K := K) (cl := cl) (Y := Y) (own := own) (mn := mn) (rs := []) g3 hp
      exact ⟨this.1, sm_okQ_of hPW rfl this.2⟩
  exact ⟨g1, g2, hk.1, hk.2⟩
/-- methods in a list, one by one -/
theorem sm_lst {α : Type} {Q : Nat → α → Prop} {b : Nat} {x : α} {l : List α} (h : Q b x) (hl : ∀ i M, l[i]? = some M → Q (b + 1 + i) M) : ∀ i M, (x :: l)[i]? = some M → Q (b + i) M := fun i M hi => by
  cases i with
  | zero => simp at hi; subst hi; exact h
  | succ i => have := hl i M (by simpa using hi); rw [show b + 1 + i = b + (i + 1) by omega] at this; exact this
theorem sm_lst0 {α : Type} {Q : Nat → α → Prop} {b : Nat} : ∀ i M, ([] : List α)[i]? = some M → Q (b + i) M := fun i M hi => by simp at hi
theorem sm_orMem {as ex : List Cond} (is : List Nat) (hl : as.length = is.length) (h : (as.zip is).all (fun p => ((lx_at p.2).any (fun v => decide (v = p.1)) && goodWord p.1) || ex.any (fun v => decide (v = p.1))) = true) : ∀ a ∈ as, a ∈ sc_Ts ∨ a ∈ ex := by
  intro w hw
  obtain ⟨k, hk⟩ := List.getElem?_of_mem hw
  have hkl : k < is.length := by rw [← hl]; exact (List.getElem?_eq_some_iff.mp hk).1
  have hz : (as.zip is)[k]? = some (w, is[k]) := by
    rw [List.getElem?_zip_eq_some]
    exact ⟨hk, List.getElem?_eq_getElem hkl⟩
  have h2 := List.all_eq_true.mp h _ (List.mem_of_getElem? hz)
  rw [Bool.or_eq_true] at h2
  rcases h2 with h2 | h2
  · exact Or.inl (sm_mem is[k] h2)
  · obtain ⟨v, hv, he⟩ := List.any_eq_true.mp h2
    have he2 : v = w := of_decide_eq_true he
    exact Or.inr (he2 ▸ hv)
/-- all places of throws in the methods' tables, forty to a list -/
def sm_thrs (mss : List (List sm_M)) : List (Nat × Nat × Nat) := mss.zipIdx.flatMap (fun y => y.1.zipIdx.flatMap (fun z => z.1.2.2.zipIdx.filterMap (fun o => o.1.bind (fun q => (sm_thr q).map (fun x => (40 * y.2 + z.2, o.2, x))))))
theorem sm_thrs_mem {mss : List (List sm_M)} {ms : List sm_M} {a b pc x : Nat} {M : sm_M} {q : sm_I} (h0 : mss[a]? = some ms) (h1 : ms[b]? = some M) (h2 : M.2.2[pc]? = some (some q)) (h3 : sm_thr q = some x) : (40 * a + b, pc, x) ∈ sm_thrs mss :=
  List.mem_flatMap.mpr ⟨(ms, a), List.mem_zipIdx_iff_getElem?.mpr h0, List.mem_flatMap.mpr ⟨(M, b), List.mem_zipIdx_iff_getElem?.mpr h1, List.mem_filterMap.mpr ⟨(some q, pc), List.mem_zipIdx_iff_getElem?.mpr h2, by simp [h3]⟩⟩⟩
/-! THROWS: 'throw new E("..")' at its places -/
theorem sc_Pinv {m : Nat} {M : sm_M} (h : sc_P m = some M) : ∃ l, sb_alls[m / 40]? = some l ∧ l[m % 40]? = some M := by
  unfold sc_P at h
  split at h
  · next l hl => exact ⟨l, hl, h⟩
  · cases h
def sc_ex : List Cond := [.laysStatic "java/lang/Throwable" "UNASSIGNED_STACK" "[Ljava/lang/StackTraceElement;", .laysStatic "java/lang/Throwable" "SUPPRESSED_SENTINEL" "Ljava/util/List;", .declares ⟨"java/lang/RuntimeException", "<init>", "(Ljava/lang/String;)V"⟩, .declares ⟨"java/lang/Exception", "<init>", "(Ljava/lang/String;)V"⟩, .declares ⟨"java/lang/Throwable", "<init>", "(Ljava/lang/String;)V"⟩, .castable "java/lang/IndexOutOfBoundsException" "java/lang/IndexOutOfBoundsException", .isRef (.static "java/lang/Throwable" "UNASSIGNED_STACK" "[Ljava/lang/StackTraceElement;"), .isRef (.static "java/lang/Throwable" "SUPPRESSED_SENTINEL" "Ljava/util/List;"), .castable "java/lang/IllegalArgumentException" "java/lang/IllegalArgumentException", .castable "java/lang/IllegalStateException" "java/lang/IllegalStateException", .castable "java/lang/UnsupportedOperationException" "java/lang/UnsupportedOperationException", .castable "java/util/NoSuchElementException" "java/util/NoSuchElementException"]
set_option maxRecDepth 20000 in
theorem se_0 : ∀ a ∈ Bundle.ownAtoms "TwoWayGrammar" 130 "java/lang/IllegalArgumentException" ["java/lang/RuntimeException", "java/lang/Exception"], a ∈ sc_Ts ∨ a ∈ sc_ex := sm_orMem [113, 1038, 1047, 1053, 1056, 1058, 1039, 1040, 133, 134, 1041, 1046, 1054, 1074, 1028, 1075, 1030, 1076, 1032, 1042, 0, 1044, 0, 1034, 1070, 1071, 1073, 1034, 1117, 1118, 1119, 1064, 0, 1064, 1065, 1066, 1067, 0, 1067, 1068, 1069, 1070, 0, 1116, 1107, 0, 1109, 1049, 1110, 1111, 1112, 1113, 0, 0, 1037, 1036, 1114] (by decide +kernel) (by decide +kernel)
set_option maxRecDepth 20000 in
theorem se_1 : ∀ a ∈ Bundle.ownAtoms "TwoWayGrammar" 161 "java/lang/IllegalStateException" ["java/lang/RuntimeException", "java/lang/Exception"], a ∈ sc_Ts ∨ a ∈ sc_ex := sm_orMem [113, 1038, 1047, 1053, 1056, 1058, 1039, 1040, 133, 134, 1041, 1046, 1054, 1074, 1028, 1075, 1030, 1076, 1032, 1042, 0, 1044, 0, 1034, 1070, 1071, 1073, 1034, 1148, 1149, 1150, 1064, 0, 1064, 1065, 1066, 1067, 0, 1067, 1068, 1069, 1070, 0, 1147, 1138, 0, 1140, 1050, 1141, 1142, 1143, 1144, 0, 0, 1037, 1036, 1145] (by decide +kernel) (by decide +kernel)
set_option maxRecDepth 20000 in
theorem se_2 : ∀ a ∈ Bundle.ownAtoms "TwoWayGrammar" 108 "java/lang/IndexOutOfBoundsException" ["java/lang/RuntimeException", "java/lang/Exception"], a ∈ sc_Ts ∨ a ∈ sc_ex := sm_orMem [113, 1038, 1047, 1053, 1056, 1058, 1039, 1040, 133, 134, 1041, 1046, 1054, 1074, 1028, 1075, 1030, 1076, 1032, 1042, 0, 1044, 0, 1034, 1070, 1071, 1073, 1034, 1061, 1062, 1063, 1064, 0, 1064, 1065, 1066, 1067, 0, 1067, 1068, 1069, 1070, 0, 1060, 1017, 0, 1025, 1026, 1027, 1029, 1031, 1033, 0, 0, 1037, 1036, 1035] (by decide +kernel) (by decide +kernel)
set_option maxRecDepth 20000 in
theorem se_3 : ∀ a ∈ Bundle.ownAtoms "TwoWayGrammar" 210 "java/lang/UnsupportedOperationException" ["java/lang/RuntimeException", "java/lang/Exception"], a ∈ sc_Ts ∨ a ∈ sc_ex := sm_orMem [113, 1038, 1047, 1053, 1056, 1058, 1039, 1040, 133, 134, 1041, 1046, 1054, 1074, 1028, 1075, 1030, 1076, 1032, 1042, 0, 1044, 0, 1034, 1070, 1071, 1073, 1034, 1448, 1449, 1450, 1064, 0, 1064, 1065, 1066, 1067, 0, 1067, 1068, 1069, 1070, 0, 1447, 1438, 0, 1440, 1051, 1441, 1442, 1443, 1444, 0, 0, 1037, 1036, 1445] (by decide +kernel) (by decide +kernel)
set_option maxRecDepth 20000 in
theorem se_4 : ∀ a ∈ sm_odd "TwoWayGrammar" 233 "java/util/NoSuchElementException" "java/lang/RuntimeException" 13 prog_28_method_4_code ["java/lang/Exception"], a ∈ sc_Ts ∨ a ∈ sc_ex := sm_orMem [113, 1038, 1047, 1053, 1056, 1058, 1039, 1040, 133, 134, 1041, 1046, 1054, 1074, 1028, 1075, 1030, 1076, 1032, 1042, 0, 1044, 0, 1034, 1070, 1071, 1073, 1034, 1487, 1488, 1489, 1064, 0, 1064, 1065, 1066, 1067, 0, 1067, 1068, 1069, 1070, 0, 1486, 1477, 0, 1479, 1052, 1480, 1481, 1482, 1483, 0, 0, 1037, 1036, 1484] (by decide +kernel) (by decide +kernel)
set_option maxRecDepth 20000 in
theorem st_0 : sm_okT sc_Ts sc_sx sc_ex sc_cl "TwoWayGrammar" prog_1_method_2_code 9 104 12 := ⟨"java/lang/IndexOutOfBoundsException", "no such text", sc_T12, 106, 108, 9, 15, ["java/lang/RuntimeException", "java/lang/Exception"], rfl, sm_memf 1016 rfl rfl, sm_memf 1017 rfl rfl, sm_memf 116 rfl rfl, by decide +kernel, by decide +kernel, by decide, Or.inl se_2, sc_sx_mem 8 (by decide +kernel), by decide +kernel, Or.inl ⟨by decide +kernel, rfl⟩, by decide +kernel, by decide +kernel⟩
set_option maxRecDepth 20000 in
theorem st_1 : sm_okT sc_Ts sc_sx sc_ex sc_cl "TwoWayGrammar" prog_1_method_3_code 9 104 12 := ⟨"java/lang/IndexOutOfBoundsException", "no such text", sc_T12, 106, 108, 9, 15, ["java/lang/RuntimeException", "java/lang/Exception"], rfl, sm_memf 1016 rfl rfl, sm_memf 1017 rfl rfl, sm_memf 116 rfl rfl, by decide +kernel, by decide +kernel, by decide, Or.inl se_2, sc_sx_mem 8 (by decide +kernel), by decide +kernel, Or.inl ⟨by decide +kernel, rfl⟩, by decide +kernel, by decide +kernel⟩
set_option maxRecDepth 20000 in
theorem st_2 : sm_okT sc_Ts sc_sx sc_ex sc_cl "TwoWayGrammar" prog_1_method_4_code 9 126 13 := ⟨"java/lang/IllegalArgumentException", "no such sample", sc_T13, 128, 130, 10, 15, ["java/lang/RuntimeException", "java/lang/Exception"], rfl, sm_memf 1106 rfl rfl, sm_memf 1107 rfl rfl, sm_memf 117 rfl rfl, by decide +kernel, by decide +kernel, by decide, Or.inl se_0, sc_sx_mem 9 (by decide +kernel), by decide +kernel, Or.inl ⟨by decide +kernel, rfl⟩, by decide +kernel, by decide +kernel⟩
set_option maxRecDepth 20000 in
theorem st_3 : sm_okT sc_Ts sc_sx sc_ex sc_cl "TwoWayGrammar" prog_1_method_6_code 7 157 14 := ⟨"java/lang/IllegalStateException", "no description that can be read", sc_T14, 159, 161, 14, 13, ["java/lang/RuntimeException", "java/lang/Exception"], rfl, sm_memf 1137 rfl rfl, sm_memf 1138 rfl rfl, sm_memf 123 rfl rfl, by decide +kernel, by decide +kernel, by decide, Or.inl se_1, sc_sx_mem 13 (by decide +kernel), by decide +kernel, Or.inl ⟨by decide +kernel, rfl⟩, by decide +kernel, by decide +kernel⟩
set_option maxRecDepth 20000 in
theorem st_4 : sm_okT sc_Ts sc_sx sc_ex sc_cl "TwoWayGrammar" prog_1_method_6_code 32 104 12 := ⟨"java/lang/IndexOutOfBoundsException", "no such rule", sc_T12, 166, 108, 15, 38, ["java/lang/RuntimeException", "java/lang/Exception"], rfl, sm_memf 1016 rfl rfl, sm_memf 1017 rfl rfl, sm_memf 116 rfl rfl, by decide +kernel, by decide +kernel, by decide, Or.inl se_2, sc_sx_mem 14 (by decide +kernel), by decide +kernel, Or.inl ⟨by decide +kernel, rfl⟩, by decide +kernel, by decide +kernel⟩
set_option maxRecDepth 20000 in
theorem st_5 : sm_okT sc_Ts sc_sx sc_ex sc_cl "TwoWayGrammar" prog_1_method_6_code 136 126 13 := ⟨"java/lang/IllegalArgumentException", "nothing that a rule has", sc_T13, 196, 130, 16, 142, ["java/lang/RuntimeException", "java/lang/Exception"], rfl, sm_memf 1106 rfl rfl, sm_memf 1107 rfl rfl, sm_memf 117 rfl rfl, by decide +kernel, by decide +kernel, by decide, Or.inl se_0, sc_sx_mem 15 (by decide +kernel), by decide +kernel, Or.inl ⟨by decide +kernel, rfl⟩, by decide +kernel, by decide +kernel⟩
set_option maxRecDepth 20000 in
theorem st_6 : sm_okT sc_Ts sc_sx sc_ex sc_cl "TwoWayGrammar" prog_1_method_7_code 7 157 14 := ⟨"java/lang/IllegalStateException", "no good description", sc_T14, 198, 161, 17, 13, ["java/lang/RuntimeException", "java/lang/Exception"], rfl, sm_memf 1137 rfl rfl, sm_memf 1138 rfl rfl, sm_memf 123 rfl rfl, by decide +kernel, by decide +kernel, by decide, Or.inl se_1, sc_sx_mem 16 (by decide +kernel), by decide +kernel, Or.inl ⟨by decide +kernel, rfl⟩, by decide +kernel, by decide +kernel⟩
set_option maxRecDepth 20000 in
theorem st_7 : sm_okT sc_Ts sc_sx sc_ex sc_cl "TwoWayGrammar" prog_1_method_7_code 34 206 15 := ⟨"java/lang/UnsupportedOperationException", "too many nodes or uses", sc_T15, 208, 210, 18, 40, ["java/lang/RuntimeException", "java/lang/Exception"], rfl, sm_memf 1437 rfl rfl, sm_memf 1438 rfl rfl, sm_memf 124 rfl rfl, by decide +kernel, by decide +kernel, by decide, Or.inl se_3, sc_sx_mem 17 (by decide +kernel), by decide +kernel, Or.inl ⟨by decide +kernel, rfl⟩, by decide +kernel, by decide +kernel⟩
set_option maxRecDepth 20000 in
theorem st_8 : sm_okT sc_Ts sc_sx sc_ex sc_cl "TwoWayGrammar" prog_1_method_8_code 10 126 13 := ⟨"java/lang/IllegalArgumentException", "no such fuel", sc_T13, 221, 130, 19, 16, ["java/lang/RuntimeException", "java/lang/Exception"], rfl, sm_memf 1106 rfl rfl, sm_memf 1107 rfl rfl, sm_memf 117 rfl rfl, by decide +kernel, by decide +kernel, by decide, Or.inl se_0, sc_sx_mem 18 (by decide +kernel), by decide +kernel, Or.inl ⟨by decide +kernel, rfl⟩, by decide +kernel, by decide +kernel⟩
set_option maxRecDepth 20000 in
theorem st_9 : sm_okT sc_Ts sc_sx sc_ex sc_cl "TwoWayGrammar" prog_1_method_8_code 27 157 14 := ⟨"java/lang/IllegalStateException", "no good description", sc_T14, 198, 161, 17, 33, ["java/lang/RuntimeException", "java/lang/Exception"], rfl, sm_memf 1137 rfl rfl, sm_memf 1138 rfl rfl, sm_memf 123 rfl rfl, by decide +kernel, by decide +kernel, by decide, Or.inl se_1, sc_sx_mem 16 (by decide +kernel), by decide +kernel, Or.inl ⟨by decide +kernel, rfl⟩, by decide +kernel, by decide +kernel⟩
set_option maxRecDepth 20000 in
theorem st_10 : sm_okT sc_Ts sc_sx sc_ex sc_cl "TwoWayGrammar" prog_1_method_8_code 63 206 15 := ⟨"java/lang/UnsupportedOperationException", "too many nodes or uses", sc_T15, 208, 210, 18, 69, ["java/lang/RuntimeException", "java/lang/Exception"], rfl, sm_memf 1437 rfl rfl, sm_memf 1438 rfl rfl, sm_memf 124 rfl rfl, by decide +kernel, by decide +kernel, by decide, Or.inl se_3, sc_sx_mem 17 (by decide +kernel), by decide +kernel, Or.inl ⟨by decide +kernel, rfl⟩, by decide +kernel, by decide +kernel⟩
set_option maxRecDepth 20000 in
theorem st_11 : sm_okT sc_Ts sc_sx sc_ex sc_cl "TwoWayGrammar" prog_1_method_9_code 15 229 16 := ⟨"java/util/NoSuchElementException", "no such node", sc_T16, 231, 233, 20, 21, ["java/lang/RuntimeException", "java/lang/Exception"], rfl, sm_memf 1476 rfl rfl, sm_memf 1477 rfl rfl, sm_memf 125 rfl rfl, by decide +kernel, by decide +kernel, by decide, Or.inr ⟨"java/lang/RuntimeException", ["java/lang/Exception"], 13, prog_28_method_4_code, rfl, by decide +kernel, by decide +kernel, by decide +kernel, by decide +kernel, se_4⟩, sc_sx_mem 19 (by decide +kernel), by decide +kernel, Or.inl ⟨by decide +kernel, rfl⟩, by decide +kernel, by decide +kernel⟩
set_option maxRecDepth 20000 in
theorem st_12 : sm_okT sc_Ts sc_sx sc_ex sc_cl "TwoWayGrammar" prog_1_method_9_code 105 126 13 := ⟨"java/lang/IllegalArgumentException", "nothing that a node has", sc_T13, 246, 130, 21, 111, ["java/lang/RuntimeException", "java/lang/Exception"], rfl, sm_memf 1106 rfl rfl, sm_memf 1107 rfl rfl, sm_memf 117 rfl rfl, by decide +kernel, by decide +kernel, by decide, Or.inl se_0, sc_sx_mem 20 (by decide +kernel), by decide +kernel, Or.inl ⟨by decide +kernel, rfl⟩, by decide +kernel, by decide +kernel⟩
set_option maxRecDepth 20000 in
theorem st_13 : sm_okT sc_Ts sc_sx sc_ex sc_cl "TwoWayGrammar" prog_1_method_10_code 15 229 16 := ⟨"java/util/NoSuchElementException", "no such node", sc_T16, 231, 233, 20, 21, ["java/lang/RuntimeException", "java/lang/Exception"], rfl, sm_memf 1476 rfl rfl, sm_memf 1477 rfl rfl, sm_memf 125 rfl rfl, by decide +kernel, by decide +kernel, by decide, Or.inr ⟨"java/lang/RuntimeException", ["java/lang/Exception"], 13, prog_28_method_4_code, rfl, by decide +kernel, by decide +kernel, by decide +kernel, by decide +kernel, se_4⟩, sc_sx_mem 19 (by decide +kernel), by decide +kernel, Or.inl ⟨by decide +kernel, rfl⟩, by decide +kernel, by decide +kernel⟩
set_option maxRecDepth 20000 in
theorem st_14 : sm_okT sc_Ts sc_sx sc_ex sc_cl "TwoWayGrammar" prog_1_method_11_code 10 157 14 := ⟨"java/lang/IllegalStateException", "no tree", sc_T14, 261, 161, 22, 17, ["java/lang/RuntimeException", "java/lang/Exception"], rfl, sm_memf 1137 rfl rfl, sm_memf 1138 rfl rfl, sm_memf 123 rfl rfl, by decide +kernel, by decide +kernel, by decide, Or.inl se_1, sc_sx_mem 21 (by decide +kernel), by decide +kernel, Or.inr ⟨by decide +kernel, rfl⟩, by decide +kernel, by decide +kernel⟩
set_option maxRecDepth 20000 in
theorem st_15 : sm_okT sc_Ts sc_sx sc_ex sc_cl "TwoWayGrammar" prog_1_method_11_code 38 206 15 := ⟨"java/lang/UnsupportedOperationException", "too many characters", sc_T15, 267, 210, 23, 45, ["java/lang/RuntimeException", "java/lang/Exception"], rfl, sm_memf 1437 rfl rfl, sm_memf 1438 rfl rfl, sm_memf 124 rfl rfl, by decide +kernel, by decide +kernel, by decide, Or.inl se_3, sc_sx_mem 22 (by decide +kernel), by decide +kernel, Or.inr ⟨by decide +kernel, rfl⟩, by decide +kernel, by decide +kernel⟩
set_option maxRecDepth 20000 in
theorem st_16 : sm_okT sc_Ts sc_sx sc_ex sc_cl "TwoWayGrammar" prog_1_method_12_code 15 104 12 := ⟨"java/lang/IndexOutOfBoundsException", "no such character", sc_T12, 271, 108, 24, 22, ["java/lang/RuntimeException", "java/lang/Exception"], rfl, sm_memf 1016 rfl rfl, sm_memf 1017 rfl rfl, sm_memf 116 rfl rfl, by decide +kernel, by decide +kernel, by decide, Or.inl se_2, sc_sx_mem 23 (by decide +kernel), by decide +kernel, Or.inr ⟨by decide +kernel, rfl⟩, by decide +kernel, by decide +kernel⟩
set_option maxRecDepth 20000 in
theorem st_17 : sm_okT sc_Ts sc_sx sc_ex sc_cl "TwoWayGrammar" prog_1_method_15_code 20 157 14 := ⟨"java/lang/IllegalStateException", "not two trees", sc_T14, 276, 161, 25, 27, ["java/lang/RuntimeException", "java/lang/Exception"], rfl, sm_memf 1137 rfl rfl, sm_memf 1138 rfl rfl, sm_memf 123 rfl rfl, by decide +kernel, by decide +kernel, by decide, Or.inl se_1, sc_sx_mem 24 (by decide +kernel), by decide +kernel, Or.inr ⟨by decide +kernel, rfl⟩, by decide +kernel, by decide +kernel⟩
def sc_sites : List ((Nat × Nat × Nat) × Nat) := [((95, 9, 12), 104), ((97, 9, 12), 104), ((98, 9, 13), 126), ((100, 7, 14), 157), ((100, 32, 12), 104), ((100, 136, 13), 126), ((102, 7, 14), 157), ((102, 34, 15), 206), ((158, 10, 13), 126), ((158, 27, 14), 157), ((158, 63, 15), 206), ((160, 15, 16), 229), ((160, 105, 13), 126), ((162, 15, 16), 229), ((164, 10, 14), 157), ((164, 38, 15), 206), ((165, 15, 12), 104), ((166, 20, 14), 157)]
theorem sc_sitesOk : ∀ z ∈ sc_sites, sm_okT sc_Ts sc_sx sc_ex sc_cl (sc_Y z.1.1).1.cls (sc_Y z.1.1).2.1 z.1.2.1 z.2 z.1.2.2 :=
  List.forall_mem_cons.mpr ⟨st_0,
  List.forall_mem_cons.mpr ⟨st_1,
  List.forall_mem_cons.mpr ⟨st_2,
  List.forall_mem_cons.mpr ⟨st_3,
  List.forall_mem_cons.mpr ⟨st_4,
  List.forall_mem_cons.mpr ⟨st_5,
  List.forall_mem_cons.mpr ⟨st_6,
  List.forall_mem_cons.mpr ⟨st_7,
  List.forall_mem_cons.mpr ⟨st_8,
  List.forall_mem_cons.mpr ⟨st_9,
  List.forall_mem_cons.mpr ⟨st_10,
  List.forall_mem_cons.mpr ⟨st_11,
  List.forall_mem_cons.mpr ⟨st_12,
  List.forall_mem_cons.mpr ⟨st_13,
  List.forall_mem_cons.mpr ⟨st_14,
  List.forall_mem_cons.mpr ⟨st_15,
  List.forall_mem_cons.mpr ⟨st_16,
  List.forall_mem_cons.mpr ⟨st_17,
  fun _ h => absurd h List.not_mem_nil⟩⟩⟩⟩⟩⟩⟩⟩⟩⟩⟩⟩⟩⟩⟩⟩⟩⟩
theorem sc_goodT : sm_GoodT sc_Ts sc_sx sc_ex sc_cl sc_Y sc_P := by
  intro mi M pc q x h1 h2 h3
  obtain ⟨l, hl, hm0⟩ := sc_Pinv h1
  have hm := sm_thrs_mem hl hm0 h2 h3
  rw [show 40 * (mi / 40) + mi % 40 = mi by omega] at hm
  have hall : (sm_thrs sb_alls).all (fun z => sc_sites.any (fun w => decide (w.1 = z))) = true := by decide +kernel
  obtain ⟨w, hw, he⟩ := List.any_eq_true.mp (List.all_eq_true.mp hall _ hm)
  have he := of_decide_eq_true he
  have hix : (sc_sites.all (fun w => ((sc_P w.1.1).any (fun M => M.2.2[w.1.2.1]?.any (fun o => o.any (fun q => decide (q.1 = .new w.2))))))) = true := by decide +kernel
  have hx := List.all_eq_true.mp hix _ hw
  rw [he] at hx
  dsimp only at hx
  rw [h1] at hx
  simp only [Option.any_some] at hx
  rw [h2] at hx
  simp only [Option.any_some, decide_eq_true_eq] at hx
  have hk := sc_sitesOk w hw
  rw [he] at hk
  exact ⟨w.2, hx, hk⟩
/-! METHODS WITH HANDLERS: the law's own -/
def sw_pool : List ((Nat × Nat) × List Nat) := [((11, 7), [0, 2, 0, 95]), ((11, 15), [0, 1, 0, 97]), ((11, 19), [0, 1, 0, 98]), ((11, 24), [0, 2, 0, 100]), ((11, 30), [0, 0, 0, 102]), ((11, 36), [0, 2, 0, 158]), ((11, 40), [0, 2, 0, 160]), ((11, 45), [0, 2, 0, 162]), ((11, 49), [0, 0, 0, 164]), ((11, 52), [0, 1, 0, 165]), ((11, 56), [0, 0, 0, 166])]
set_option maxRecDepth 20000 in
theorem sw_poolOk {K : sm_H} (mn : String) : sm_poolOk sc_Ts sc_sx sc_zx sc_oc K sc_cl sc_Y "TwoWayGrammarLaw" mn sw_pool :=
  List.forall_mem_cons.mpr ⟨fun pc i hi => by rw [sm_k11 hi]; exact ⟨trivial, sm_pk1 (⟨"TwoWayGrammar", rfl, sm_memf 1013 rfl rfl, sm_memf 99 rfl rfl, Or.inl ⟨sm_memf 1012 rfl rfl, sm_memf 1014 rfl rfl, by decide +kernel⟩⟩)⟩,
  List.forall_mem_cons.mpr ⟨fun pc i hi => by rw [sm_k11 hi]; exact ⟨trivial, sm_pk1 (⟨"TwoWayGrammar", rfl, sm_memf 1094 rfl rfl, sm_memf 99 rfl rfl, Or.inl ⟨sm_memf 1093 rfl rfl, sm_memf 1095 rfl rfl, by decide +kernel⟩⟩)⟩,
  List.forall_mem_cons.mpr ⟨fun pc i hi => by rw [sm_k11 hi]; exact ⟨trivial, sm_pk1 (⟨"TwoWayGrammar", rfl, sm_memf 1103 rfl rfl, sm_memf 99 rfl rfl, Or.inl ⟨sm_memf 1102 rfl rfl, sm_memf 1104 rfl rfl, by decide +kernel⟩⟩)⟩,
  List.forall_mem_cons.mpr ⟨fun pc i hi => by rw [sm_k11 hi]; exact ⟨trivial, sm_pk1 (⟨"TwoWayGrammar", rfl, sm_memf 1134 rfl rfl, sm_memf 99 rfl rfl, Or.inl ⟨sm_memf 1133 rfl rfl, sm_memf 1135 rfl rfl, by decide +kernel⟩⟩)⟩,
  List.forall_mem_cons.mpr ⟨fun pc i hi => by rw [sm_k11 hi]; exact ⟨trivial, sm_pk1 (⟨"TwoWayGrammar", rfl, sm_memf 1168 rfl rfl, sm_memf 99 rfl rfl, Or.inl ⟨sm_memf 1167 rfl rfl, sm_memf 1169 rfl rfl, by decide +kernel⟩⟩)⟩,
  List.forall_mem_cons.mpr ⟨fun pc i hi => by rw [sm_k11 hi]; exact ⟨trivial, sm_pk1 (⟨"TwoWayGrammar", rfl, sm_memf 1457 rfl rfl, sm_memf 99 rfl rfl, Or.inl ⟨sm_memf 1456 rfl rfl, sm_memf 1458 rfl rfl, by decide +kernel⟩⟩)⟩,
  List.forall_mem_cons.mpr ⟨fun pc i hi => by rw [sm_k11 hi]; exact ⟨trivial, sm_pk1 (⟨"TwoWayGrammar", rfl, sm_memf 1473 rfl rfl, sm_memf 99 rfl rfl, Or.inl ⟨sm_memf 1472 rfl rfl, sm_memf 1474 rfl rfl, by decide +kernel⟩⟩)⟩,
  List.forall_mem_cons.mpr ⟨fun pc i hi => by rw [sm_k11 hi]; exact ⟨trivial, sm_pk1 (⟨"TwoWayGrammar", rfl, sm_memf 1501 rfl rfl, sm_memf 99 rfl rfl, Or.inl ⟨sm_memf 1500 rfl rfl, sm_memf 1502 rfl rfl, by decide +kernel⟩⟩)⟩,
  List.forall_mem_cons.mpr ⟨fun pc i hi => by rw [sm_k11 hi]; exact ⟨trivial, sm_pk1 (⟨"TwoWayGrammar", rfl, sm_memf 1517 rfl rfl, sm_memf 99 rfl rfl, Or.inl ⟨sm_memf 1516 rfl rfl, sm_memf 1518 rfl rfl, by decide +kernel⟩⟩)⟩,
  List.forall_mem_cons.mpr ⟨fun pc i hi => by rw [sm_k11 hi]; exact ⟨trivial, sm_pk1 (⟨"TwoWayGrammar", rfl, sm_memf 1529 rfl rfl, sm_memf 99 rfl rfl, Or.inl ⟨sm_memf 1528 rfl rfl, sm_memf 1530 rfl rfl, by decide +kernel⟩⟩)⟩,
  List.forall_mem_cons.mpr ⟨fun pc i hi => by rw [sm_k11 hi]; exact ⟨trivial, sm_pk1 (⟨"TwoWayGrammar", rfl, sm_memf 1538 rfl rfl, sm_memf 99 rfl rfl, Or.inl ⟨sm_memf 1537 rfl rfl, sm_memf 1539 rfl rfl, by decide +kernel⟩⟩)⟩,
  fun _ h => absurd h List.not_mem_nil⟩⟩⟩⟩⟩⟩⟩⟩⟩⟩⟩
/-- type(LTwoWayGrammar;IC[J)I -/
def sw_0 : List (Option sm_I) := [some (.aload_n 3, 1, []), some (.iconst 0, 1, []), some (.aload_n 0, 1, []), some (.iload_n 1, 1, []), some (.iload_n 2, 1, []), some (.invokevirtual 7, 3, [0, 2, 0, 95]), none, none, some (.ifCond .eq 7, 3, []), none, none, some (.lconst 1, 1, []), some (.goto 4, 3, []), none, none, some (.lconst 0, 1, []), some (.lastore, 1, []), some (.goto 7, 3, []), none, none, some (.astore 4, 2, []), none, some (.iconst 1, 1, []), some (.ireturn, 1, []), some (.iconst 0, 1, []), some (.ireturn, 1, [])]
def sw_h0 : List (Nat × Nat × Nat × Nat × Nat) := [(0, 17, 20, 13, 12)]
/-- clear(LTwoWayGrammar;I[J)I -/
def sw_1 : List (Option sm_I) := [some (.aload_n 2, 1, []), some (.iconst 0, 1, []), some (.aload_n 0, 1, []), some (.iload_n 1, 1, []), some (.invokevirtual 15, 3, [0, 1, 0, 97]), none, none, some (.i2l, 1, []), some (.lastore, 1, []), some (.goto 6, 3, []), none, none, some (.astore_n 3, 1, []), some (.iconst 1, 1, []), some (.ireturn, 1, []), some (.iconst 0, 1, []), some (.ireturn, 1, [])]
def sw_h1 : List (Nat × Nat × Nat × Nat × Nat) := [(0, 9, 12, 13, 12)]
/-- sample(LTwoWayGrammar;I[J)I -/
def sw_2 : List (Option sm_I) := [some (.aload_n 2, 1, []), some (.iconst 0, 1, []), some (.aload_n 0, 1, []), some (.iload_n 1, 1, []), some (.invokevirtual 19, 3, [0, 1, 0, 98]), none, none, some (.i2l, 1, []), some (.lastore, 1, []), some (.goto 6, 3, []), none, none, some (.astore_n 3, 1, []), some (.iconst 1, 1, []), some (.ireturn, 1, []), some (.iconst 0, 1, []), some (.ireturn, 1, [])]
def sw_h2 : List (Nat × Nat × Nat × Nat × Nat) := [(0, 9, 12, 22, 13)]
/-- rule(LTwoWayGrammar;II[J)I -/
def sw_3 : List (Option sm_I) := [some (.aload_n 3, 1, []), some (.iconst 0, 1, []), some (.aload_n 0, 1, []), some (.iload_n 1, 1, []), some (.iload_n 2, 1, []), some (.invokevirtual 24, 3, [0, 2, 0, 100]), none, none, some (.lastore, 1, []), some (.goto 15, 3, []), none, none, some (.astore 4, 2, []), none, some (.iconst 1, 1, []), some (.ireturn, 1, []), some (.astore 4, 2, []), none, some (.iconst 2, 1, []), some (.ireturn, 1, []), some (.astore 4, 2, []), none, some (.iconst 3, 1, []), some (.ireturn, 1, []), some (.iconst 0, 1, []), some (.ireturn, 1, [])]
def sw_h3 : List (Nat × Nat × Nat × Nat × Nat) := [(0, 9, 12, 28, 14), (0, 9, 16, 13, 12), (0, 9, 20, 22, 13)]
/-- parse(LTwoWayGrammar;[J)I -/
def sw_4 : List (Option sm_I) := [some (.aload_n 1, 1, []), some (.iconst 0, 1, []), some (.aload_n 0, 1, []), some (.invokevirtual 30, 3, [0, 0, 0, 102]), none, none, some (.i2l, 1, []), some (.lastore, 1, []), some (.goto 9, 3, []), none, none, some (.astore_n 2, 1, []), some (.iconst 1, 1, []), some (.ireturn, 1, []), some (.astore_n 2, 1, []), some (.iconst 2, 1, []), some (.ireturn, 1, []), some (.iconst 0, 1, []), some (.ireturn, 1, [])]
def sw_h4 : List (Nat × Nat × Nat × Nat × Nat) := [(0, 8, 11, 28, 14), (0, 8, 14, 34, 15)]
/-- grow(LTwoWayGrammar;JI[J)I -/
def sw_5 : List (Option sm_I) := [some (.aload 4, 2, []), none, some (.iconst 0, 1, []), some (.aload_n 0, 1, []), some (.lload_n 1, 1, []), some (.iload_n 3, 1, []), some (.invokevirtual 36, 3, [0, 2, 0, 158]), none, none, some (.i2l, 1, []), some (.lastore, 1, []), some (.goto 15, 3, []), none, none, some (.astore 5, 2, []), none, some (.iconst 1, 1, []), some (.ireturn, 1, []), some (.astore 5, 2, []), none, some (.iconst 2, 1, []), some (.ireturn, 1, []), some (.astore 5, 2, []), none, some (.iconst 3, 1, []), some (.ireturn, 1, []), some (.iconst 0, 1, []), some (.ireturn, 1, [])]
def sw_h5 : List (Nat × Nat × Nat × Nat × Nat) := [(0, 11, 14, 22, 13), (0, 11, 18, 28, 14), (0, 11, 22, 34, 15)]
/-- node(LTwoWayGrammar;II[J)I -/
def sw_6 : List (Option sm_I) := [some (.aload_n 3, 1, []), some (.iconst 0, 1, []), some (.aload_n 0, 1, []), some (.iload_n 1, 1, []), some (.iload_n 2, 1, []), some (.invokevirtual 40, 3, [0, 2, 0, 160]), none, none, some (.lastore, 1, []), some (.goto 11, 3, []), none, none, some (.astore 4, 2, []), none, some (.iconst 1, 1, []), some (.ireturn, 1, []), some (.astore 4, 2, []), none, some (.iconst 2, 1, []), some (.ireturn, 1, []), some (.iconst 0, 1, []), some (.ireturn, 1, [])]
def sw_h6 : List (Nat × Nat × Nat × Nat × Nat) := [(0, 9, 12, 43, 16), (0, 9, 16, 22, 13)]
/-- set(LTwoWayGrammar;IJ[J)I -/
def sw_7 : List (Option sm_I) := [some (.aload 4, 2, []), none, some (.iconst 0, 1, []), some (.aload_n 0, 1, []), some (.iload_n 1, 1, []), some (.lload_n 2, 1, []), some (.invokevirtual 45, 3, [0, 2, 0, 162]), none, none, some (.ifCond .eq 7, 3, []), none, none, some (.lconst 1, 1, []), some (.goto 4, 3, []), none, none, some (.lconst 0, 1, []), some (.lastore, 1, []), some (.goto 7, 3, []), none, none, some (.astore 5, 2, []), none, some (.iconst 1, 1, []), some (.ireturn, 1, []), some (.iconst 0, 1, []), some (.ireturn, 1, [])]
def sw_h7 : List (Nat × Nat × Nat × Nat × Nat) := [(0, 18, 21, 43, 16)]
/-- print(LTwoWayGrammar;[J)I -/
def sw_8 : List (Option sm_I) := [some (.aload_n 1, 1, []), some (.iconst 0, 1, []), some (.aload_n 0, 1, []), some (.invokevirtual 49, 3, [0, 0, 0, 164]), none, none, some (.i2l, 1, []), some (.lastore, 1, []), some (.goto 9, 3, []), none, none, some (.astore_n 2, 1, []), some (.iconst 1, 1, []), some (.ireturn, 1, []), some (.astore_n 2, 1, []), some (.iconst 2, 1, []), some (.ireturn, 1, []), some (.iconst 0, 1, []), some (.ireturn, 1, [])]
def sw_h8 : List (Nat × Nat × Nat × Nat × Nat) := [(0, 8, 11, 28, 14), (0, 8, 14, 34, 15)]
/-- output(LTwoWayGrammar;I[J)I -/
def sw_9 : List (Option sm_I) := [some (.aload_n 2, 1, []), some (.iconst 0, 1, []), some (.aload_n 0, 1, []), some (.iload_n 1, 1, []), some (.invokevirtual 52, 3, [0, 1, 0, 165]), none, none, some (.i2l, 1, []), some (.lastore, 1, []), some (.goto 6, 3, []), none, none, some (.astore_n 3, 1, []), some (.iconst 1, 1, []), some (.ireturn, 1, []), some (.iconst 0, 1, []), some (.ireturn, 1, [])]
def sw_h9 : List (Nat × Nat × Nat × Nat × Nat) := [(0, 9, 12, 13, 12)]
/-- compare(LTwoWayGrammar;[J)I -/
def sw_10 : List (Option sm_I) := [some (.aload_n 1, 1, []), some (.iconst 0, 1, []), some (.aload_n 0, 1, []), some (.invokevirtual 56, 3, [0, 0, 0, 166]), none, none, some (.i2l, 1, []), some (.lastore, 1, []), some (.goto 6, 3, []), none, none, some (.astore_n 2, 1, []), some (.iconst 1, 1, []), some (.ireturn, 1, []), some (.iconst 0, 1, []), some (.ireturn, 1, [])]
def sw_h10 : List (Nat × Nat × Nat × Nat × Nat) := [(0, 8, 11, 28, 14)]
/-- pairs of classes of which the first is not cast to the second -/
def sc_nc : List (Nat × Nat) := [(12, 12), (12, 13), (12, 14), (13, 12), (13, 13), (13, 14), (13, 15), (13, 16), (14, 12), (14, 13), (14, 14), (14, 15), (15, 13), (15, 14), (15, 15), (16, 13), (16, 16)]
def sc_WL : List sm_MW := [((5, 1, sw_0), sw_h0), ((4, 1, sw_1), sw_h1), ((4, 1, sw_2), sw_h2), ((5, 1, sw_3), sw_h3), ((3, 1, sw_4), sw_h4), ((6, 1, sw_5), sw_h5), ((5, 1, sw_6), sw_h6), ((6, 1, sw_7), sw_h7), ((3, 1, sw_8), sw_h8), ((4, 1, sw_9), sw_h9), ((3, 1, sw_10), sw_h10)]
def sy_WL : List sm_Y := [(⟨"TwoWayGrammarLaw", "type", "(LTwoWayGrammar;IC[J)I"⟩, method_3_code, (some (.int))), (⟨"TwoWayGrammarLaw", "clear", "(LTwoWayGrammar;I[J)I"⟩, method_4_code, (some (.int))), (⟨"TwoWayGrammarLaw", "sample", "(LTwoWayGrammar;I[J)I"⟩, method_5_code, (some (.int))), (⟨"TwoWayGrammarLaw", "rule", "(LTwoWayGrammar;II[J)I"⟩, method_6_code, (some (.int))), (⟨"TwoWayGrammarLaw", "parse", "(LTwoWayGrammar;[J)I"⟩, method_7_code, (some (.int))), (⟨"TwoWayGrammarLaw", "grow", "(LTwoWayGrammar;JI[J)I"⟩, method_8_code, (some (.int))), (⟨"TwoWayGrammarLaw", "node", "(LTwoWayGrammar;II[J)I"⟩, method_9_code, (some (.int))), (⟨"TwoWayGrammarLaw", "set", "(LTwoWayGrammar;IJ[J)I"⟩, method_10_code, (some (.int))), (⟨"TwoWayGrammarLaw", "print", "(LTwoWayGrammar;[J)I"⟩, method_11_code, (some (.int))), (⟨"TwoWayGrammarLaw", "output", "(LTwoWayGrammar;I[J)I"⟩, method_12_code, (some (.int))), (⟨"TwoWayGrammarLaw", "compare", "(LTwoWayGrammar;[J)I"⟩, method_13_code, (some (.int)))]
def sc_PW (m : Nat) : Option sm_MW := if m < 2000 then none else sc_WL[m - 2000]?
def sc_YW (m : Nat) : sm_Y := sy_WL.getD (m - 2000) (⟨"", "", ""⟩, ⟨#[]⟩, none)
theorem sc_PWlo : ∀ m, m < 2000 → sc_PW m = none := fun m h => if_pos h
set_option maxRecDepth 20000 in
theorem sv_0 {K : sm_H} : sm_okW sc_Ts sc_sx sc_zx sc_oc K sc_cl sc_nc sc_Y sc_YW 2000 ((5, 1, sw_0), sw_h0) :=
  sm_okW_of (pool := sw_pool) (idx0 := 7) (n0 := 2) (m0 := 95) (⟨"TwoWayGrammarLaw", "type", "(LTwoWayGrammar;IC[J)I"⟩, method_3_code, (some (.int))) (by rfl) (sm_memf 1010 rfl rfl) (by decide +kernel) ⟨by decide, by decide⟩ (by decide) (Or.inr (Or.inl ⟨rfl, rfl⟩)) (by decide +kernel) (sw_poolOk _) (by decide +kernel) ⟨"TwoWayGrammar", sc_T0, 16, rfl, sm_memf 1013 rfl rfl, sm_memf 99 rfl rfl, sm_memf 1012 rfl rfl, sm_memf 1014 rfl rfl, by decide +kernel⟩ (List.forall_mem_cons.mpr ⟨⟨⟨"java/lang/IndexOutOfBoundsException", sc_T12, rfl⟩, List.forall_mem_cons.mpr ⟨⟨by decide, "java/lang/IndexOutOfBoundsException", sc_T12, rfl, sm_memf 1011 rfl rfl, Or.inl ⟨rfl, by decide⟩⟩, fun _ h => absurd h List.not_mem_nil⟩⟩, fun _ h => absurd h List.not_mem_nil⟩)
set_option maxRecDepth 20000 in
theorem sv_1 {K : sm_H} : sm_okW sc_Ts sc_sx sc_zx sc_oc K sc_cl sc_nc sc_Y sc_YW 2001 ((4, 1, sw_1), sw_h1) :=
  sm_okW_of (pool := sw_pool) (idx0 := 15) (n0 := 1) (m0 := 97) (⟨"TwoWayGrammarLaw", "clear", "(LTwoWayGrammar;I[J)I"⟩, method_4_code, (some (.int))) (by rfl) (sm_memf 1092 rfl rfl) (by decide +kernel) ⟨by decide, by decide⟩ (by decide) (Or.inr (Or.inl ⟨rfl, rfl⟩)) (by decide +kernel) (sw_poolOk _) (by decide +kernel) ⟨"TwoWayGrammar", sc_T0, 16, rfl, sm_memf 1094 rfl rfl, sm_memf 99 rfl rfl, sm_memf 1093 rfl rfl, sm_memf 1095 rfl rfl, by decide +kernel⟩ (List.forall_mem_cons.mpr ⟨⟨⟨"java/lang/IndexOutOfBoundsException", sc_T12, rfl⟩, List.forall_mem_cons.mpr ⟨⟨by decide, "java/lang/IndexOutOfBoundsException", sc_T12, rfl, sm_memf 1011 rfl rfl, Or.inl ⟨rfl, by decide⟩⟩, fun _ h => absurd h List.not_mem_nil⟩⟩, fun _ h => absurd h List.not_mem_nil⟩)
set_option maxRecDepth 20000 in
theorem sv_2 {K : sm_H} : sm_okW sc_Ts sc_sx sc_zx sc_oc K sc_cl sc_nc sc_Y sc_YW 2002 ((4, 1, sw_2), sw_h2) :=
  sm_okW_of (pool := sw_pool) (idx0 := 19) (n0 := 1) (m0 := 98) (⟨"TwoWayGrammarLaw", "sample", "(LTwoWayGrammar;I[J)I"⟩, method_5_code, (some (.int))) (by rfl) (sm_memf 1100 rfl rfl) (by decide +kernel) ⟨by decide, by decide⟩ (by decide) (Or.inr (Or.inl ⟨rfl, rfl⟩)) (by decide +kernel) (sw_poolOk _) (by decide +kernel) ⟨"TwoWayGrammar", sc_T0, 16, rfl, sm_memf 1103 rfl rfl, sm_memf 99 rfl rfl, sm_memf 1102 rfl rfl, sm_memf 1104 rfl rfl, by decide +kernel⟩ (List.forall_mem_cons.mpr ⟨⟨⟨"java/lang/IllegalArgumentException", sc_T13, rfl⟩, List.forall_mem_cons.mpr ⟨⟨by decide, "java/lang/IllegalArgumentException", sc_T13, rfl, sm_memf 1101 rfl rfl, Or.inl ⟨rfl, by decide⟩⟩, fun _ h => absurd h List.not_mem_nil⟩⟩, fun _ h => absurd h List.not_mem_nil⟩)
set_option maxRecDepth 20000 in
theorem sv_3 {K : sm_H} : sm_okW sc_Ts sc_sx sc_zx sc_oc K sc_cl sc_nc sc_Y sc_YW 2003 ((5, 1, sw_3), sw_h3) :=
  sm_okW_of (pool := sw_pool) (idx0 := 24) (n0 := 2) (m0 := 100) (⟨"TwoWayGrammarLaw", "rule", "(LTwoWayGrammar;II[J)I"⟩, method_6_code, (some (.int))) (by rfl) (sm_memf 1131 rfl rfl) (by decide +kernel) ⟨by decide, by decide⟩ (by decide) (Or.inr (Or.inl ⟨rfl, rfl⟩)) (by decide +kernel) (sw_poolOk _) (by decide +kernel) ⟨"TwoWayGrammar", sc_T0, 16, rfl, sm_memf 1134 rfl rfl, sm_memf 99 rfl rfl, sm_memf 1133 rfl rfl, sm_memf 1135 rfl rfl, by decide +kernel⟩ (List.forall_mem_cons.mpr ⟨⟨⟨"java/lang/IllegalStateException", sc_T14, rfl⟩, List.forall_mem_cons.mpr ⟨⟨by decide, "java/lang/IllegalStateException", sc_T14, rfl, sm_memf 1132 rfl rfl, Or.inl ⟨rfl, by decide⟩⟩, List.forall_mem_cons.mpr ⟨⟨by decide, "java/lang/IndexOutOfBoundsException", sc_T12, rfl, sm_memf 1011 rfl rfl, Or.inr ⟨by decide, by decide⟩⟩, List.forall_mem_cons.mpr ⟨⟨by decide, "java/lang/IllegalArgumentException", sc_T13, rfl, sm_memf 1101 rfl rfl, Or.inr ⟨by decide, by decide⟩⟩, fun _ h => absurd h List.not_mem_nil⟩⟩⟩⟩, List.forall_mem_cons.mpr ⟨⟨⟨"java/lang/IndexOutOfBoundsException", sc_T12, rfl⟩, List.forall_mem_cons.mpr ⟨⟨by decide, "java/lang/IllegalStateException", sc_T14, rfl, sm_memf 1132 rfl rfl, Or.inr ⟨by decide, by decide⟩⟩, List.forall_mem_cons.mpr ⟨⟨by decide, "java/lang/IndexOutOfBoundsException", sc_T12, rfl, sm_memf 1011 rfl rfl, Or.inl ⟨rfl, by decide⟩⟩, List.forall_mem_cons.mpr ⟨⟨by decide, "java/lang/IllegalArgumentException", sc_T13, rfl, sm_memf 1101 rfl rfl, Or.inr ⟨by decide, by decide⟩⟩, fun _ h => absurd h List.not_mem_nil⟩⟩⟩⟩, List.forall_mem_cons.mpr ⟨⟨⟨"java/lang/IllegalArgumentException", sc_T13, rfl⟩, List.forall_mem_cons.mpr ⟨⟨by decide, "java/lang/IllegalStateException", sc_T14, rfl, sm_memf 1132 rfl rfl, Or.inr ⟨by decide, by decide⟩⟩, List.forall_mem_cons.mpr ⟨⟨by decide, "java/lang/IndexOutOfBoundsException", sc_T12, rfl, sm_memf 1011 rfl rfl, Or.inr ⟨by decide, by decide⟩⟩, List.forall_mem_cons.mpr ⟨⟨by decide, "java/lang/IllegalArgumentException", sc_T13, rfl, sm_memf 1101 rfl rfl, Or.inl ⟨rfl, by decide⟩⟩, fun _ h => absurd h List.not_mem_nil⟩⟩⟩⟩, fun _ h => absurd h List.not_mem_nil⟩⟩⟩)
set_option maxRecDepth 20000 in
theorem sv_4 {K : sm_H} : sm_okW sc_Ts sc_sx sc_zx sc_oc K sc_cl sc_nc sc_Y sc_YW 2004 ((3, 1, sw_4), sw_h4) :=
  sm_okW_of (pool := sw_pool) (idx0 := 30) (n0 := 0) (m0 := 102) (⟨"TwoWayGrammarLaw", "parse", "(LTwoWayGrammar;[J)I"⟩, method_7_code, (some (.int))) (by rfl) (sm_memf 1165 rfl rfl) (by decide +kernel) ⟨by decide, by decide⟩ (by decide) (Or.inr (Or.inl ⟨rfl, rfl⟩)) (by decide +kernel) (sw_poolOk _) (by decide +kernel) ⟨"TwoWayGrammar", sc_T0, 16, rfl, sm_memf 1168 rfl rfl, sm_memf 99 rfl rfl, sm_memf 1167 rfl rfl, sm_memf 1169 rfl rfl, by decide +kernel⟩ (List.forall_mem_cons.mpr ⟨⟨⟨"java/lang/IllegalStateException", sc_T14, rfl⟩, List.forall_mem_cons.mpr ⟨⟨by decide, "java/lang/IllegalStateException", sc_T14, rfl, sm_memf 1132 rfl rfl, Or.inl ⟨rfl, by decide⟩⟩, List.forall_mem_cons.mpr ⟨⟨by decide, "java/lang/UnsupportedOperationException", sc_T15, rfl, sm_memf 1166 rfl rfl, Or.inr ⟨by decide, by decide⟩⟩, fun _ h => absurd h List.not_mem_nil⟩⟩⟩, List.forall_mem_cons.mpr ⟨⟨⟨"java/lang/UnsupportedOperationException", sc_T15, rfl⟩, List.forall_mem_cons.mpr ⟨⟨by decide, "java/lang/IllegalStateException", sc_T14, rfl, sm_memf 1132 rfl rfl, Or.inr ⟨by decide, by decide⟩⟩, List.forall_mem_cons.mpr ⟨⟨by decide, "java/lang/UnsupportedOperationException", sc_T15, rfl, sm_memf 1166 rfl rfl, Or.inl ⟨rfl, by decide⟩⟩, fun _ h => absurd h List.not_mem_nil⟩⟩⟩, fun _ h => absurd h List.not_mem_nil⟩⟩)
set_option maxRecDepth 20000 in
theorem sv_5 {K : sm_H} : sm_okW sc_Ts sc_sx sc_zx sc_oc K sc_cl sc_nc sc_Y sc_YW 2005 ((6, 1, sw_5), sw_h5) :=
  sm_okW_of (pool := sw_pool) (idx0 := 36) (n0 := 2) (m0 := 158) (⟨"TwoWayGrammarLaw", "grow", "(LTwoWayGrammar;JI[J)I"⟩, method_8_code, (some (.int))) (by rfl) (sm_memf 1455 rfl rfl) (by decide +kernel) ⟨by decide, by decide⟩ (by decide) (Or.inr (Or.inl ⟨rfl, rfl⟩)) (by decide +kernel) (sw_poolOk _) (by decide +kernel) ⟨"TwoWayGrammar", sc_T0, 16, rfl, sm_memf 1457 rfl rfl, sm_memf 99 rfl rfl, sm_memf 1456 rfl rfl, sm_memf 1458 rfl rfl, by decide +kernel⟩ (List.forall_mem_cons.mpr ⟨⟨⟨"java/lang/IllegalArgumentException", sc_T13, rfl⟩, List.forall_mem_cons.mpr ⟨⟨by decide, "java/lang/IllegalArgumentException", sc_T13, rfl, sm_memf 1101 rfl rfl, Or.inl ⟨rfl, by decide⟩⟩, List.forall_mem_cons.mpr ⟨⟨by decide, "java/lang/IllegalStateException", sc_T14, rfl, sm_memf 1132 rfl rfl, Or.inr ⟨by decide, by decide⟩⟩, List.forall_mem_cons.mpr ⟨⟨by decide, "java/lang/UnsupportedOperationException", sc_T15, rfl, sm_memf 1166 rfl rfl, Or.inr ⟨by decide, by decide⟩⟩, fun _ h => absurd h List.not_mem_nil⟩⟩⟩⟩, List.forall_mem_cons.mpr ⟨⟨⟨"java/lang/IllegalStateException", sc_T14, rfl⟩, List.forall_mem_cons.mpr ⟨⟨by decide, "java/lang/IllegalArgumentException", sc_T13, rfl, sm_memf 1101 rfl rfl, Or.inr ⟨by decide, by decide⟩⟩, List.forall_mem_cons.mpr ⟨⟨by decide, "java/lang/IllegalStateException", sc_T14, rfl, sm_memf 1132 rfl rfl, Or.inl ⟨rfl, by decide⟩⟩, List.forall_mem_cons.mpr ⟨⟨by decide, "java/lang/UnsupportedOperationException", sc_T15, rfl, sm_memf 1166 rfl rfl, Or.inr ⟨by decide, by decide⟩⟩, fun _ h => absurd h List.not_mem_nil⟩⟩⟩⟩, List.forall_mem_cons.mpr ⟨⟨⟨"java/lang/UnsupportedOperationException", sc_T15, rfl⟩, List.forall_mem_cons.mpr ⟨⟨by decide, "java/lang/IllegalArgumentException", sc_T13, rfl, sm_memf 1101 rfl rfl, Or.inr ⟨by decide, by decide⟩⟩, List.forall_mem_cons.mpr ⟨⟨by decide, "java/lang/IllegalStateException", sc_T14, rfl, sm_memf 1132 rfl rfl, Or.inr ⟨by decide, by decide⟩⟩, List.forall_mem_cons.mpr ⟨⟨by decide, "java/lang/UnsupportedOperationException", sc_T15, rfl, sm_memf 1166 rfl rfl, Or.inl ⟨rfl, by decide⟩⟩, fun _ h => absurd h List.not_mem_nil⟩⟩⟩⟩, fun _ h => absurd h List.not_mem_nil⟩⟩⟩)
set_option maxRecDepth 20000 in
theorem sv_6 {K : sm_H} : sm_okW sc_Ts sc_sx sc_zx sc_oc K sc_cl sc_nc sc_Y sc_YW 2006 ((5, 1, sw_6), sw_h6) :=
  sm_okW_of (pool := sw_pool) (idx0 := 40) (n0 := 2) (m0 := 160) (⟨"TwoWayGrammarLaw", "node", "(LTwoWayGrammar;II[J)I"⟩, method_9_code, (some (.int))) (by rfl) (sm_memf 1470 rfl rfl) (by decide +kernel) ⟨by decide, by decide⟩ (by decide) (Or.inr (Or.inl ⟨rfl, rfl⟩)) (by decide +kernel) (sw_poolOk _) (by decide +kernel) ⟨"TwoWayGrammar", sc_T0, 16, rfl, sm_memf 1473 rfl rfl, sm_memf 99 rfl rfl, sm_memf 1472 rfl rfl, sm_memf 1474 rfl rfl, by decide +kernel⟩ (List.forall_mem_cons.mpr ⟨⟨⟨"java/util/NoSuchElementException", sc_T16, rfl⟩, List.forall_mem_cons.mpr ⟨⟨by decide, "java/util/NoSuchElementException", sc_T16, rfl, sm_memf 1471 rfl rfl, Or.inl ⟨rfl, by decide⟩⟩, List.forall_mem_cons.mpr ⟨⟨by decide, "java/lang/IllegalArgumentException", sc_T13, rfl, sm_memf 1101 rfl rfl, Or.inr ⟨by decide, by decide⟩⟩, fun _ h => absurd h List.not_mem_nil⟩⟩⟩, List.forall_mem_cons.mpr ⟨⟨⟨"java/lang/IllegalArgumentException", sc_T13, rfl⟩, List.forall_mem_cons.mpr ⟨⟨by decide, "java/util/NoSuchElementException", sc_T16, rfl, sm_memf 1471 rfl rfl, Or.inr ⟨by decide, by decide⟩⟩, List.forall_mem_cons.mpr ⟨⟨by decide, "java/lang/IllegalArgumentException", sc_T13, rfl, sm_memf 1101 rfl rfl, Or.inl ⟨rfl, by decide⟩⟩, fun _ h => absurd h List.not_mem_nil⟩⟩⟩, fun _ h => absurd h List.not_mem_nil⟩⟩)
set_option maxRecDepth 20000 in
theorem sv_7 {K : sm_H} : sm_okW sc_Ts sc_sx sc_zx sc_oc K sc_cl sc_nc sc_Y sc_YW 2007 ((6, 1, sw_7), sw_h7) :=
  sm_okW_of (pool := sw_pool) (idx0 := 45) (n0 := 2) (m0 := 162) (⟨"TwoWayGrammarLaw", "set", "(LTwoWayGrammar;IJ[J)I"⟩, method_10_code, (some (.int))) (by rfl) (sm_memf 1499 rfl rfl) (by decide +kernel) ⟨by decide, by decide⟩ (by decide) (Or.inr (Or.inl ⟨rfl, rfl⟩)) (by decide +kernel) (sw_poolOk _) (by decide +kernel) ⟨"TwoWayGrammar", sc_T0, 16, rfl, sm_memf 1501 rfl rfl, sm_memf 99 rfl rfl, sm_memf 1500 rfl rfl, sm_memf 1502 rfl rfl, by decide +kernel⟩ (List.forall_mem_cons.mpr ⟨⟨⟨"java/util/NoSuchElementException", sc_T16, rfl⟩, List.forall_mem_cons.mpr ⟨⟨by decide, "java/util/NoSuchElementException", sc_T16, rfl, sm_memf 1471 rfl rfl, Or.inl ⟨rfl, by decide⟩⟩, fun _ h => absurd h List.not_mem_nil⟩⟩, fun _ h => absurd h List.not_mem_nil⟩)
set_option maxRecDepth 20000 in
theorem sv_8 {K : sm_H} : sm_okW sc_Ts sc_sx sc_zx sc_oc K sc_cl sc_nc sc_Y sc_YW 2008 ((3, 1, sw_8), sw_h8) :=
  sm_okW_of (pool := sw_pool) (idx0 := 49) (n0 := 0) (m0 := 164) (⟨"TwoWayGrammarLaw", "print", "(LTwoWayGrammar;[J)I"⟩, method_11_code, (some (.int))) (by rfl) (sm_memf 1515 rfl rfl) (by decide +kernel) ⟨by decide, by decide⟩ (by decide) (Or.inr (Or.inl ⟨rfl, rfl⟩)) (by decide +kernel) (sw_poolOk _) (by decide +kernel) ⟨"TwoWayGrammar", sc_T0, 16, rfl, sm_memf 1517 rfl rfl, sm_memf 99 rfl rfl, sm_memf 1516 rfl rfl, sm_memf 1518 rfl rfl, by decide +kernel⟩ (List.forall_mem_cons.mpr ⟨⟨⟨"java/lang/IllegalStateException", sc_T14, rfl⟩, List.forall_mem_cons.mpr ⟨⟨by decide, "java/lang/IllegalStateException", sc_T14, rfl, sm_memf 1132 rfl rfl, Or.inl ⟨rfl, by decide⟩⟩, List.forall_mem_cons.mpr ⟨⟨by decide, "java/lang/UnsupportedOperationException", sc_T15, rfl, sm_memf 1166 rfl rfl, Or.inr ⟨by decide, by decide⟩⟩, fun _ h => absurd h List.not_mem_nil⟩⟩⟩, List.forall_mem_cons.mpr ⟨⟨⟨"java/lang/UnsupportedOperationException", sc_T15, rfl⟩, List.forall_mem_cons.mpr ⟨⟨by decide, "java/lang/IllegalStateException", sc_T14, rfl, sm_memf 1132 rfl rfl, Or.inr ⟨by decide, by decide⟩⟩, List.forall_mem_cons.mpr ⟨⟨by decide, "java/lang/UnsupportedOperationException", sc_T15, rfl, sm_memf 1166 rfl rfl, Or.inl ⟨rfl, by decide⟩⟩, fun _ h => absurd h List.not_mem_nil⟩⟩⟩, fun _ h => absurd h List.not_mem_nil⟩⟩)
set_option maxRecDepth 20000 in
theorem sv_9 {K : sm_H} : sm_okW sc_Ts sc_sx sc_zx sc_oc K sc_cl sc_nc sc_Y sc_YW 2009 ((4, 1, sw_9), sw_h9) :=
  sm_okW_of (pool := sw_pool) (idx0 := 52) (n0 := 1) (m0 := 165) (⟨"TwoWayGrammarLaw", "output", "(LTwoWayGrammar;I[J)I"⟩, method_12_code, (some (.int))) (by rfl) (sm_memf 1527 rfl rfl) (by decide +kernel) ⟨by decide, by decide⟩ (by decide) (Or.inr (Or.inl ⟨rfl, rfl⟩)) (by decide +kernel) (sw_poolOk _) (by decide +kernel) ⟨"TwoWayGrammar", sc_T0, 16, rfl, sm_memf 1529 rfl rfl, sm_memf 99 rfl rfl, sm_memf 1528 rfl rfl, sm_memf 1530 rfl rfl, by decide +kernel⟩ (List.forall_mem_cons.mpr ⟨⟨⟨"java/lang/IndexOutOfBoundsException", sc_T12, rfl⟩, List.forall_mem_cons.mpr ⟨⟨by decide, "java/lang/IndexOutOfBoundsException", sc_T12, rfl, sm_memf 1011 rfl rfl, Or.inl ⟨rfl, by decide⟩⟩, fun _ h => absurd h List.not_mem_nil⟩⟩, fun _ h => absurd h List.not_mem_nil⟩)
set_option maxRecDepth 20000 in
theorem sv_10 {K : sm_H} : sm_okW sc_Ts sc_sx sc_zx sc_oc K sc_cl sc_nc sc_Y sc_YW 2010 ((3, 1, sw_10), sw_h10) :=
  sm_okW_of (pool := sw_pool) (idx0 := 56) (n0 := 0) (m0 := 166) (⟨"TwoWayGrammarLaw", "compare", "(LTwoWayGrammar;[J)I"⟩, method_13_code, (some (.int))) (by rfl) (sm_memf 1536 rfl rfl) (by decide +kernel) ⟨by decide, by decide⟩ (by decide) (Or.inr (Or.inl ⟨rfl, rfl⟩)) (by decide +kernel) (sw_poolOk _) (by decide +kernel) ⟨"TwoWayGrammar", sc_T0, 16, rfl, sm_memf 1538 rfl rfl, sm_memf 99 rfl rfl, sm_memf 1537 rfl rfl, sm_memf 1539 rfl rfl, by decide +kernel⟩ (List.forall_mem_cons.mpr ⟨⟨⟨"java/lang/IllegalStateException", sc_T14, rfl⟩, List.forall_mem_cons.mpr ⟨⟨by decide, "java/lang/IllegalStateException", sc_T14, rfl, sm_memf 1132 rfl rfl, Or.inl ⟨rfl, by decide⟩⟩, fun _ h => absurd h List.not_mem_nil⟩⟩, fun _ h => absurd h List.not_mem_nil⟩)
theorem sc_goodW {K : sm_H} : ∀ mi M, sc_PW mi = some M → sm_okW sc_Ts sc_sx sc_zx sc_oc K sc_cl sc_nc sc_Y sc_YW mi M := by
  have h : ∀ i M, sc_WL[i]? = some M → sm_okW sc_Ts sc_sx sc_zx sc_oc K sc_cl sc_nc sc_Y sc_YW (2000 + i) M := sm_lst sv_0 (sm_lst sv_1 (sm_lst sv_2 (sm_lst sv_3 (sm_lst sv_4 (sm_lst sv_5 (sm_lst sv_6 (sm_lst sv_7 (sm_lst sv_8 (sm_lst sv_9 (sm_lst sv_10 (sm_lst0)))))))))))
  intro mi M hm
  unfold sc_PW at hm
  split at hm
  · cases hm
  · next hl =>
    have := h _ _ hm
    rwa [show 2000 + (mi - 2000) = mi by omega] at this
