section SAT
variable {ρ : Nat → Int32} {μ : UInt64 → Int64}
theorem sa_ald_ok {t pc : Nat} {ls : sm_L} {st : List Value} {h : sa_H} {r : sa_R} (hs : sa_ald t pc ls st h = some r) : sm_ald t pc (sa_gl ρ μ ls) (sa_gs ρ μ st) (sa_gh ρ μ h) = some (sa_gr ρ μ r) ∧ ∀ t', t' ≠ t → sm_ald t' pc (sa_gl ρ μ ls) (sa_gs ρ μ st) (sa_gh ρ μ h) = none := by
  unfold sa_ald at hs
  split at hs
  · next i a r0 =>
    split at hs
    · next t' n l ha =>
      split at hs
      · next hc =>
        obtain ⟨rfl, ht, hi, hC⟩ := hc
        have e1 : sa_gs ρ μ (.int i :: .ref a :: r0) = .int i :: .ref a :: sa_gs ρ μ r0 := rfl
        have e2 : (sa_gh ρ μ h)[a]? = some (.inl (t', n, .inl (sa_fi ρ μ l))) := by rw [sa_hget ha]; simp [sa_ge, ht]
        refine ⟨?_, fun t2 h2 => ?_⟩
        · rw [e1]
          simp only [sm_ald, e2]
          rw [if_pos ⟨trivial, hi, hC⟩]
          split at hs
          · next x hx =>
            cases hs
            have : sa_fi ρ μ l i.toNatClampNeg = x := by
              unfold sa_fi
              cases hl : sa_look l i.toNatClampNeg with
              | none => rw [hl] at hx; cases hx; rfl
              | some v => rw [hl] at hx; cases hx; rfl
            rw [this]
            rfl
          · next k hx =>
            cases hs
            have : sa_fi ρ μ l i.toNatClampNeg = ρ k := by
              unfold sa_fi
              cases hl : sa_look l i.toNatClampNeg with
              | none => rw [hl] at hx; cases hx
              | some v => rw [hl] at hx; cases hx; rfl
            rw [this]
            rfl
          · cases hs
        · rw [e1]
          simp only [sm_ald, e2]
          rw [if_neg (fun z => h2 z.1.symm)]
      · cases hs
    · cases hs
  · cases hs
theorem sa_aldL_ok {pc : Nat} {ls : sm_L} {st : List Value} {h : sa_H} {r : sa_R} (hs : sa_aldL pc ls st h = some r) : sm_aldL pc (sa_gl ρ μ ls) (sa_gs ρ μ st) (sa_gh ρ μ h) = some (sa_gr ρ μ r) := by
  unfold sa_aldL at hs
  split at hs
  · next i a r0 =>
    split at hs
    · next t' n l ha =>
      split at hs
      · next hc =>
        obtain ⟨rfl, hi, hC⟩ := hc
        have e1 : sa_gs ρ μ (.int i :: .ref a :: r0) = .int i :: .ref a :: sa_gs ρ μ r0 := rfl
        have e2 : (sa_gh ρ μ h)[a]? = some (.inl (1, n, .inr (.inl (sa_fl ρ μ l)))) := by rw [sa_hget ha]; simp [sa_ge]
        rw [e1]
        simp only [sm_aldL, e2]
        rw [if_pos ⟨trivial, hi, hC⟩]
        split at hs
        · next x hx =>
          cases hs
          have : sa_fl ρ μ l i.toNatClampNeg = x := by
            unfold sa_fl
            cases hl : sa_look l i.toNatClampNeg with
            | none => rw [hl] at hx; cases hx; rfl
            | some v => rw [hl] at hx; cases hx; rfl
          rw [this]
          rfl
        · cases hs
      · cases hs
    · cases hs
  · cases hs
theorem sa_t1 {x y z : Value} (h : sa_true ρ μ (1, x, y, z)) : ∃ a b, sa_g ρ μ x = .int a ∧ sa_g ρ μ y = .int b ∧ sa_g ρ μ z = .int (a &&& b) := by
  rcases h with ⟨-, h⟩ | ⟨e, -⟩ | ⟨e, -⟩ | ⟨e, -⟩ | ⟨e, -⟩ | ⟨e, -⟩ | ⟨c, _, _, e, -⟩ | ⟨e, -⟩
  · exact h
  · cases e
  · cases e
  · cases e
  · cases e
  · cases e
  · cases c <;> cases e
  · cases e
theorem sa_t2 {x y z : Value} (h : sa_true ρ μ (2, x, y, z)) : ∃ a, sa_g ρ μ x = .int a ∧ sa_g ρ μ z = .int (sm_chr a) := by
  rcases h with ⟨e, -⟩ | ⟨-, h⟩ | ⟨e, -⟩ | ⟨e, -⟩ | ⟨e, -⟩ | ⟨e, -⟩ | ⟨c, _, _, e, -⟩ | ⟨e, -⟩
  · cases e
  · exact h
  · cases e
  · cases e
  · cases e
  · cases e
  · cases c <;> cases e
  · cases e
theorem sa_t3 {x y z : Value} (h : sa_true ρ μ (3, x, y, z)) : ∃ a, sa_g ρ μ x = .int a ∧ sa_g ρ μ z = .long a.toInt64 := by
  rcases h with ⟨e, -⟩ | ⟨e, -⟩ | ⟨-, h⟩ | ⟨e, -⟩ | ⟨e, -⟩ | ⟨e, -⟩ | ⟨c, _, _, e, -⟩ | ⟨e, -⟩
  · cases e
  · cases e
  · exact h
  · cases e
  · cases e
  · cases e
  · cases c <;> cases e
  · cases e
theorem sa_t4 {x y z : Value} (h : sa_true ρ μ (4, x, y, z)) : ∃ a b, sa_g ρ μ x = .long a ∧ sa_g ρ μ y = .int b ∧ sa_g ρ μ z = .long (a <<< (b.toInt64 &&& 63)) := by
  rcases h with ⟨e, -⟩ | ⟨e, -⟩ | ⟨e, -⟩ | ⟨-, h⟩ | ⟨e, -⟩ | ⟨e, -⟩ | ⟨c, _, _, e, -⟩ | ⟨e, -⟩
  · cases e
  · cases e
  · cases e
  · exact h
  · cases e
  · cases e
  · cases c <;> cases e
  · cases e
theorem sa_t5 {x y z : Value} (h : sa_true ρ μ (5, x, y, z)) : ∃ a b, sa_g ρ μ x = .long a ∧ sa_g ρ μ y = .long b ∧ sa_g ρ μ z = .long (a &&& b) := by
  rcases h with ⟨e, -⟩ | ⟨e, -⟩ | ⟨e, -⟩ | ⟨e, -⟩ | ⟨-, h⟩ | ⟨e, -⟩ | ⟨c, _, _, e, -⟩ | ⟨e, -⟩
  · cases e
  · cases e
  · cases e
  · cases e
  · exact h
  · cases e
  · cases c <;> cases e
  · cases e
theorem sa_t6 {x y z : Value} (h : sa_true ρ μ (6, x, y, z)) : ∃ a b, sa_g ρ μ x = .long a ∧ sa_g ρ μ y = .long b ∧ sa_g ρ μ z = .long (a ||| b) := by
  rcases h with ⟨e, -⟩ | ⟨e, -⟩ | ⟨e, -⟩ | ⟨e, -⟩ | ⟨e, -⟩ | ⟨-, h⟩ | ⟨c, _, _, e, -⟩ | ⟨e, -⟩
  · cases e
  · cases e
  · cases e
  · cases e
  · cases e
  · exact h
  · cases c <;> cases e
  · cases e
theorem sa_tc {c : ClassFile.Cond} {x y z : Value} (h : sa_true ρ μ (sa_cc c, x, y, z)) : ∃ a b, sa_g ρ μ x = .int a ∧ sa_g ρ μ y = .int b ∧ z = .int (if sm_cmp c a b then 1 else 0) := by
  rcases h with ⟨e, -⟩ | ⟨e, -⟩ | ⟨e, -⟩ | ⟨e, -⟩ | ⟨e, -⟩ | ⟨e, -⟩ | ⟨c2, a, b, e, h1, h2, h3⟩ | ⟨e, -⟩
  · cases c <;> cases e
  · cases c <;> cases e
  · cases c <;> cases e
  · cases c <;> cases e
  · cases c <;> cases e
  · cases c <;> cases e
  · have : c = c2 := by cases c <;> cases c2 <;> first | rfl | cases e
    subst this
    exact ⟨a, b, h1, h2, h3⟩
  · cases c <;> cases e
theorem sa_t30 {x y z : Value} (h : sa_true ρ μ (30, x, y, z)) : ∃ a b, sa_g ρ μ x = .int a ∧ y = .int b ∧ (a.toInt < 0 ∨ b.toInt < a.toInt) := by
  rcases h with ⟨e, -⟩ | ⟨e, -⟩ | ⟨e, -⟩ | ⟨e, -⟩ | ⟨e, -⟩ | ⟨e, -⟩ | ⟨c, _, _, e, -⟩ | ⟨-, h⟩
  · cases e
  · cases e
  · cases e
  · cases e
  · cases e
  · cases e
  · cases c <;> cases e
  · exact h
variable {F : sa_F}
theorem sa_in_ok (hF : ∀ f ∈ F, sa_true ρ μ f) {t : Nat} {v w : Value} (h : sa_in F t v = some w) : ∃ x, sa_g ρ μ v = .int x ∧ ((t = 0 ∧ sa_g ρ μ w = .int x) ∨ (t = 2 ∧ sa_g ρ μ w = .int (sm_chr x)) ∨ (t = 3 ∧ sa_g ρ μ w = .int (x &&& 1))) := by
  unfold sa_in at h
  split at h
  · cases h; exact ⟨_, rfl, Or.inl ⟨rfl, rfl⟩⟩
  · cases h; exact ⟨_, rfl, Or.inl ⟨rfl, rfl⟩⟩
  · cases h; exact ⟨_, rfl, Or.inr (Or.inl ⟨rfl, rfl⟩)⟩
  · next k =>
    split at h
    · next j hj =>
      cases h
      obtain ⟨a, h1, h2⟩ := sa_t2 (hF _ (sa_fact_mem F hj))
      exact ⟨a, h1, Or.inr (Or.inl ⟨rfl, h2⟩)⟩
    · cases h
  · cases h; exact ⟨_, rfl, Or.inr (Or.inr ⟨rfl, rfl⟩)⟩
  · cases h
theorem sa_ast_ok (hF : ∀ f ∈ F, sa_true ρ μ f) {t pc : Nat} {ls : sm_L} {st : List Value} {h : sa_H} {r : sa_R} {g : Int32 → Int32} (hg : (t = 0 ∧ g = fun x => x) ∨ (t = 2 ∧ g = sm_chr) ∨ (t = 3 ∧ g = fun x => x &&& 1)) (hs : sa_ast F t pc ls st h = some r) : sm_ast t g pc (sa_gl ρ μ ls) (sa_gs ρ μ st) (sa_gh ρ μ h) = some (sa_gr ρ μ r) := by
  unfold sa_ast at hs
  split at hs
  · next v i a r0 =>
    split at hs
    · next w hw =>
      split at hs
      · next t' n l ha =>
        split at hs
        · next hc =>
          obtain ⟨rfl, ht, hi, hC⟩ := hc
          cases hs
          obtain ⟨x, hx, hw2⟩ := sa_in_ok hF hw
          have e1 : sa_gs ρ μ (v :: .int i :: .ref a :: r0) = .int x :: .int i :: .ref a :: sa_gs ρ μ r0 := by simp only [sa_gs, List.map_cons, hx]; rfl
          have e2 : (sa_gh ρ μ h)[a]? = some (.inl (t', n, .inl (sa_fi ρ μ l))) := by rw [sa_hget ha]; simp [sa_ge, ht]
          have e3 : sa_i (sa_g ρ μ w) = g x := by
            rcases hw2 with ⟨rfl, hw2⟩ | ⟨rfl, hw2⟩ | ⟨rfl, hw2⟩
            · rcases hg with ⟨-, rfl⟩ | ⟨e, -⟩ | ⟨e, -⟩
              · rw [hw2]; rfl
              · cases e
              · cases e
            · rcases hg with ⟨e, -⟩ | ⟨-, rfl⟩ | ⟨e, -⟩
              · cases e
              · rw [hw2]; rfl
              · cases e
            · rcases hg with ⟨e, -⟩ | ⟨e, -⟩ | ⟨-, rfl⟩
              · cases e
              · cases e
              · rw [hw2]; rfl
          rw [e1]
          simp only [sm_ast, e2]
          rw [if_pos ⟨trivial, hi, hC⟩]
          simp only [sm_nx, sa_gr, sa_gh, List.map_set, sa_ge, if_neg ht, sa_upd, e3]
        · cases hs
      · cases hs
    · cases hs
  · cases hs
theorem sa_astL_ok {pc : Nat} {ls : sm_L} {st : List Value} {h : sa_H} {r : sa_R} (hs : sa_astL pc ls st h = some r) : sm_astL pc (sa_gl ρ μ ls) (sa_gs ρ μ st) (sa_gh ρ μ h) = some (sa_gr ρ μ r) := by
  unfold sa_astL at hs
  split at hs
  · next x i a r0 =>
    split at hs
    · next t' n l ha =>
      split at hs
      · next hc =>
        obtain ⟨rfl, hi, hC⟩ := hc
        cases hs
        have e1 : sa_gs ρ μ (.long x :: .int i :: .ref a :: r0) = .long x :: .int i :: .ref a :: sa_gs ρ μ r0 := rfl
        have e2 : (sa_gh ρ μ h)[a]? = some (.inl (1, n, .inr (.inl (sa_fl ρ μ l)))) := by rw [sa_hget ha]; simp [sa_ge]
        rw [e1]
        simp only [sm_astL, e2]
        rw [if_pos ⟨trivial, hi, hC⟩]
        simp only [sm_nx, sa_gr, sa_gh, List.map_set, sa_ge, if_true, sa_updL]
        rfl
      · cases hs
    · cases hs
  · cases hs
theorem sa_fit {t : Nat} {v : Value} (h : sm_fit t v = true) : sm_fit t (sa_g ρ μ v) = true := by
  cases v with
  | retAddr k => unfold sm_fit at h; split at h <;> first | contradiction | cases h
  | double u => unfold sm_fit at h; split at h <;> first | contradiction | cases h
  | _ => exact h
theorem sa_dflt (t : Nat) : sa_g ρ μ (sm_dflt t) = sm_dflt t := by unfold sm_dflt; split <;> rfl
theorem sa_dflts (ts : List Nat) : (ts.map sm_dflt).map (sa_g ρ μ) = ts.map sm_dflt := by
  rw [List.map_map]
  exact List.map_congr_left fun t _ => sa_dflt t
set_option maxHeartbeats 4000000 in
theorem sa_step_ok (hF : ∀ f ∈ F, sa_true ρ μ f) {q : sm_I} {pc : Nat} {ls : sm_L} {st : List Value} {h : sa_H} {r : sa_R} (hs : sa_step F q pc ls st h = some r) : sm_step q pc (sa_gl ρ μ ls) (sa_gs ρ μ st) (sa_gh ρ μ h) = some (sa_gr ρ μ r) := by
  obtain ⟨i, len, rs⟩ := q
  have hload : ∀ {k : Nat} {n : Nat}, sa_load sa_isI n k pc ls st h = some r → sm_loadK sm_isI n k pc (sa_gl ρ μ ls) (sa_gs ρ μ st) (sa_gh ρ μ h) = some (sa_gr ρ μ r) := by
    intro k n hs
    simp only [sa_load, sm_loadK] at hs ⊢
    rw [sa_lget]
    split at hs
    · next v hv =>
      split at hs
      · next hk => cases hs; rw [hv]; simp [sa_isI_g hk, sm_nx, sa_gr]
      · cases hs
    · cases hs
  have hloadL : ∀ {k : Nat} {n : Nat}, sa_load sa_isL n k pc ls st h = some r → sm_loadK sm_isL n k pc (sa_gl ρ μ ls) (sa_gs ρ μ st) (sa_gh ρ μ h) = some (sa_gr ρ μ r) := by
    intro k n hs
    simp only [sa_load, sm_loadK] at hs ⊢
    rw [sa_lget]
    split at hs
    · next v hv =>
      split at hs
      · next hk =>
        cases hs
        rw [hv]
        obtain ⟨x, hx⟩ := sa_isL_g (ρ := ρ) (μ := μ) hk
        simp [hx, sm_isL, sm_nx, sa_gr]
      · cases hs
    · cases hs
  have hstore : ∀ {k : Nat} {n : Nat}, sa_store1 n k pc ls st h = some r → sm_store1 sm_isI n k pc (sa_gl ρ μ ls) (sa_gs ρ μ st) (sa_gh ρ μ h) = some (sa_gr ρ μ r) := by
    intro k n hs
    unfold sa_store1 at hs
    split at hs
    · next v r0 =>
      split at hs
      · next hk =>
        split at hs
        · next l2 hp => cases hs; simp [sm_store1, sa_isI_g hk, sa_put1 hp, sm_nx, sa_gr]
        · cases hs
      · cases hs
    · cases hs
  have hstoreL : ∀ {k : Nat} {n : Nat}, sa_store2 n k pc ls st h = some r → sm_store2 n k pc (sa_gl ρ μ ls) (sa_gs ρ μ st) (sa_gh ρ μ h) = some (sa_gr ρ μ r) := by
    intro k n hs
    unfold sa_store2 at hs
    split at hs
    · next v r0 =>
      split at hs
      · next hk =>
        split at hs
        · next l2 hp =>
          cases hs
          obtain ⟨x, hx⟩ := sa_isL_g (ρ := ρ) (μ := μ) hk
          have h2 := sa_put2 (ρ := ρ) (μ := μ) hp
          rw [hx] at h2
          simp [sm_store2, hx, h2, sm_nx, sa_gr]
        · cases hs
      · cases hs
    · cases hs
  have hbr : ∀ {c : ClassFile.Cond} {x y : Value} {off : Int} {r0 : List Value}, sa_br F c x y pc off ls r0 h = some r → ∃ a b, sa_g ρ μ x = .int a ∧ sa_g ρ μ y = .int b ∧ sm_if (sm_cmp c a b) pc off (sa_gl ρ μ ls) (sa_gs ρ μ r0) (sa_gh ρ μ h) = some (sa_gr ρ μ r) := by
    intro c x y off r0 hs
    unfold sa_br at hs
    split at hs
    · next z hz =>
      obtain ⟨a, b, h1, h2, h3⟩ := sa_tc (hF _ (sa_fact_mem F hz))
      refine ⟨a, b, h1, h2, ?_⟩
      cases h3
      cases hb : sm_cmp c a b with
      | true => rw [hb] at hs; simp [sa_nx] at hs; subst hs; rfl
      | false => rw [hb] at hs; simp [sa_nx] at hs; subst hs; rfl
    · cases hs
  cases i with
  | iload_n k => exact hload hs
  | iload k => exact hload hs
  | lload_n k => exact hloadL hs
  | lload k => exact hloadL hs
  | istore_n k => exact hstore hs
  | istore k => exact hstore hs
  | lstore_n k => exact hstoreL hs
  | lstore k => exact hstoreL hs
  | iaload => exact (sa_ald_ok hs).1
  | caload => exact (sa_ald_ok hs).1
  | baload =>
    simp only [sa_step, sm_step] at hs ⊢
    split at hs
    · next r1 h1 => cases hs; rw [(sa_ald_ok h1).1]
    · rw [(sa_ald_ok (ρ := ρ) (μ := μ) hs).2 3 (by decide)]
      exact (sa_ald_ok hs).1
  | laload => exact sa_aldL_ok hs
  | iastore => exact sa_ast_ok hF (Or.inl ⟨rfl, rfl⟩) hs
  | castore => exact sa_ast_ok hF (Or.inr (Or.inl ⟨rfl, rfl⟩)) hs
  | bastore => exact sa_ast_ok hF (Or.inr (Or.inr ⟨rfl, rfl⟩)) hs
  | lastore => exact sa_astL_ok hs
  | arraylength =>
    simp only [sa_step, sa_alen] at hs
    split at hs
    · next a r0 =>
      split at hs
      · next t n l ha =>
        split at hs
        · next hc =>
          cases hs
          have e2 := sa_hget (ρ := ρ) (μ := μ) ha
          simp only [sm_step, sa_gs, List.map_cons, sa_g]
          rw [e2]
          simp [sa_ge, hc, sm_nx, sa_gr, sa_g]
        · cases hs
      · cases hs
    · cases hs
  | getfield idx =>
    simp only [sa_step, sa_getf] at hs
    split at hs
    · next a r0 k z cs =>
      split at hs
      · next ci fs ha =>
        split at hs
        · next hc =>
          split at hs
          · next v hv =>
            cases hs
            have e2 := sa_hget (ρ := ρ) (μ := μ) ha
            simp only [sm_step, sm_getf, sa_gs, List.map_cons, sa_g]
            rw [e2]
            simp only [sa_ge]
            rw [if_pos hc, List.getElem?_map, hv]
            rfl
          · cases hs
        · cases hs
      · cases hs
    · cases hs
  | putfield idx =>
    simp only [sa_step, sa_putf] at hs
    split at hs
    · next v a r0 k t z cs =>
      split at hs
      · next ci fs ha =>
        split at hs
        · next hc =>
          cases hs
          have e2 := sa_hget (ρ := ρ) (μ := μ) ha
          show sm_putf (k :: t :: z :: cs) pc (sa_gl ρ μ ls) (sa_g ρ μ v :: .ref a :: sa_gs ρ μ r0) (sa_gh ρ μ h) = _
          simp only [sm_putf]
          rw [e2]
          simp only [sa_ge]
          rw [if_pos ⟨hc.1, by rw [List.length_map]; exact hc.2.1, sa_fit hc.2.2.1, hc.2.2.2⟩]
          simp only [sm_nx, sa_gr, sa_gh, List.map_set, sa_ge]
        · cases hs
      · cases hs
    · cases hs
  | new idx =>
    simp only [sa_step, sa_newo] at hs
    split at hs
    · next ci ts =>
      split at hs
      · cases hs
      · next hc =>
        cases hs
        simp only [sm_step, sm_newo]
        rw [if_neg hc]
        simp only [sm_nx, sa_gr, sa_gh, sa_gs, List.map_append, List.map_cons, List.map_nil, List.length_map, sa_ge, sa_dflts, sa_g]
    · cases hs
  | newarray idx =>
    simp only [sa_step, sa_newa] at hs
    split at hs
    · next n r0 t =>
      split at hs
      · next hc =>
        cases hs
        simp only [sm_step, sm_newa, sa_gs, List.map_cons, sa_g]
        rw [if_pos hc]
        simp only [sm_nx, sa_gr, sa_gh, sa_gs, List.map_append, List.map_cons, List.map_nil, List.length_map, sa_ge, sa_g]
        rfl
      · cases hs
    · cases hs
  | invokevirtual idx =>
    simp only [sa_step, sa_callV] at hs
    split at hs
    · next k n ps =>
      split at hs
      · next a as r0 hargs =>
        split at hs
        · next ci fs ha =>
          split at hs
          · next m hm =>
            cases hs
            have e2 := sa_hget (ρ := ρ) (μ := μ) ha
            simp only [sm_step, sm_callV]
            rw [sa_args hargs]
            simp only [sa_gs, List.map_cons, sa_g]
            rw [e2]
            simp only [sa_ge, hm]
            rfl
          · cases hs
        · cases hs
      · cases hs
    · cases hs
  | iand =>
    simp only [sa_step] at hs
    split at hs
    · unfold sa_bin at hs
      split at hs
      · next y x r0 =>
        split at hs
        · next z hz =>
          cases hs
          obtain ⟨a, b, h1, h2, h3⟩ := sa_t1 (hF _ (sa_fact_mem F hz))
          simp [sm_step, sm_bin, h1, h2, h3, sm_nx, sa_gr]
        · cases hs
      · cases hs
    · exact sa_pure_ok rfl hs
  | i2c =>
    simp only [sa_step] at hs
    split at hs
    · unfold sa_un at hs
      split at hs
      · next x r0 =>
        split at hs
        · next z hz =>
          cases hs
          obtain ⟨a, h1, h3⟩ := sa_t2 (hF _ (sa_fact_mem F hz))
          simp [sm_step, h1, h3, sm_nx, sa_gr]
        · cases hs
      · cases hs
    · exact sa_pure_ok rfl hs
  | i2l =>
    simp only [sa_step] at hs
    split at hs
    · unfold sa_un at hs
      split at hs
      · next x r0 =>
        split at hs
        · next z hz =>
          cases hs
          obtain ⟨a, h1, h3⟩ := sa_t3 (hF _ (sa_fact_mem F hz))
          simp [sm_step, h1, h3, sm_nx, sa_gr]
        · cases hs
      · cases hs
    · exact sa_pure_ok rfl hs
  | lshl =>
    simp only [sa_step] at hs
    split at hs
    · unfold sa_bin at hs
      split at hs
      · next y x r0 =>
        split at hs
        · next z hz =>
          cases hs
          obtain ⟨a, b, h1, h2, h3⟩ := sa_t4 (hF _ (sa_fact_mem F hz))
          simp [sm_step, h1, h2, h3, sm_nx, sa_gr]
        · cases hs
      · cases hs
    · exact sa_pure_ok rfl hs
  | land =>
    simp only [sa_step] at hs
    split at hs
    · unfold sa_bin at hs
      split at hs
      · next y x r0 =>
        split at hs
        · next z hz =>
          cases hs
          obtain ⟨a, b, h1, h2, h3⟩ := sa_t5 (hF _ (sa_fact_mem F hz))
          simp [sm_step, sm_binL, h1, h2, h3, sm_nx, sa_gr]
        · cases hs
      · cases hs
    · exact sa_pure_ok rfl hs
  | lor =>
    simp only [sa_step] at hs
    split at hs
    · unfold sa_bin at hs
      split at hs
      · next y x r0 =>
        split at hs
        · next z hz =>
          cases hs
          obtain ⟨a, b, h1, h2, h3⟩ := sa_t6 (hF _ (sa_fact_mem F hz))
          simp [sm_step, sm_binL, h1, h2, h3, sm_nx, sa_gr]
        · cases hs
      · cases hs
    · exact sa_pure_ok rfl hs
  | if_icmp c off =>
    simp only [sa_step] at hs
    split at hs
    · split at hs
      · next y x r0 _ =>
        obtain ⟨a, b, h1, h2, h3⟩ := hbr hs
        simp only [sm_step, sa_gs, List.map_cons, h1, h2]
        exact h3
      · cases hs
    · exact sa_pure_ok rfl hs
  | ifCond c off =>
    simp only [sa_step] at hs
    split at hs
    · split at hs
      · next x r0 _ =>
        obtain ⟨a, b, h1, h2, h3⟩ := hbr hs
        cases h2
        simp only [sm_step, sa_gs, List.map_cons, h1]
        exact h3
      · cases hs
    · exact sa_pure_ok rfl hs
  | tableswitch d lo hi offs =>
    simp only [sa_step] at hs
    split at hs
    · split at hs
      · next x r0 _ =>
        split at hs
        · next hc =>
          split at hs
          · next z hz =>
            cases hs
            obtain ⟨a, b, h1, h2, h3⟩ := sa_t30 (hF _ (sa_fact_mem F hz))
            cases h2
            obtain ⟨c1, c2, c3⟩ := hc
            have hb : (Int32.ofInt hi).toInt = hi := Int32.toInt_ofInt_of_le (by omega) (by omega)
            rw [hb] at h3
            simp only [sm_step, sa_gs, List.map_cons, h1]
            rw [if_pos (by rw [c1]; exact h3)]
            rfl
          · cases hs
        · cases hs
      · cases hs
    · exact sa_pure_ok rfl hs
  | _ => exact sa_pure_ok rfl hs
end SAT
