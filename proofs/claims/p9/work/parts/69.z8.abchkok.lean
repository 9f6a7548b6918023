/-! a rank falls -/
def ab_iv (v : Option Value) : Int := match v with
  | some (.int y) => y.toInt
  | _ => 0
def ab_val1 (ls : sm_L) (h : sm_H) (e : Nat × Nat × Int) : Int := if e.1 = 0 then e.2.2 else if e.1 = 1 then ab_iv (sm_lget ls e.2.1) else if e.1 = 2 then -(ab_iv (sm_lget ls e.2.1)) else ab_iv (ab_fld h e.2.1)
def ab_vals (r : ab_R) (ls : sm_L) (h : sm_H) : List Int := r.map (ab_val1 ls h)
def ab_w (v : Int) : Nat := min 8589934591 (4294967296 - v).toNat
def ab_mu : Nat → List Int → Nat
  | 0, _ => 0
  | n + 1, [] => 8589934592 * 17179869184 ^ n
  | n + 1, v :: vs => ab_w v * 17179869184 ^ n + ab_mu n vs
theorem ab_mu_lt : ∀ (n : Nat) (l : List Int), ab_mu n l < 17179869184 ^ n := by
  intro n
  induction n with
  | zero => intro l; exact Nat.one_pos
  | succ n ih =>
    intro l
    have hp : 0 < 17179869184 ^ n := Nat.pow_pos (by decide)
    have e : 17179869184 ^ (n + 1) = 17179869184 * 17179869184 ^ n := by rw [Nat.pow_succ, Nat.mul_comm]
    rw [e]
    cases l with
    | nil =>
      show 8589934592 * 17179869184 ^ n < _
      exact Nat.mul_lt_mul_of_pos_right (by decide) hp
    | cons v vs =>
      show ab_w v * 17179869184 ^ n + ab_mu n vs < _
      have h1 := ih vs
      have h2 : ab_w v ≤ 8589934591 := Nat.min_le_left _ _
      have h3 : ab_w v * 17179869184 ^ n ≤ 8589934591 * 17179869184 ^ n := Nat.mul_le_mul_right _ h2
      generalize 17179869184 ^ n = X at *
      omega
theorem ab_mu_step {n : Nat} {a b : Nat} {l l' : List Int} (h : a < b) : a * 17179869184 ^ n + ab_mu n l < b * 17179869184 ^ n + ab_mu n l' := by
  have h1 := ab_mu_lt n l
  have h3 : (a + 1) * 17179869184 ^ n ≤ b * 17179869184 ^ n := Nat.mul_le_mul_right _ h
  rw [Nat.add_mul, Nat.one_mul] at h3
  generalize 17179869184 ^ n = X at *
  omega
theorem ab_w_lt {v v' : Int} (h1 : -2147483648 ≤ v) (h2 : v < v') (h3 : v' ≤ 2147483648) : ab_w v' < ab_w v := by
  unfold ab_w
  omega
theorem ab_iv_bd (v : Option Value) : -2147483648 ≤ ab_iv v ∧ ab_iv v ≤ 2147483647 := by
  unfold ab_iv
  split
  · next y => exact ⟨y.le_toInt, Int.le_of_lt_add_one y.toInt_lt⟩
  · exact ⟨by decide, by decide⟩
theorem ab_off_mem {k j : Nat} {o : Int} : ∀ ts : List ab_T, ab_off k j ts = some o → (k, j, o) ∈ ts := by
  intro ts
  induction ts with
  | nil => intro h; simp [ab_off] at h
  | cons t r ih =>
    intro h
    simp only [ab_off] at h
    split at h
    · next he =>
      cases h
      obtain ⟨a, b, c⟩ := t
      obtain ⟨rfl, rfl⟩ := he
      exact List.mem_cons_self
    · exact List.mem_cons_of_mem _ (ih h)
section ABK
variable {L0 ls ls' : sm_L} {h0 h h' : sm_H} {sk : ab_K} {wr wr' : List (Nat × Nat)} {st : List Value} {A : ab_A}
theorem ab_rk_ok : ∀ (n : Nat) (src tgt : ab_R), ab_rk n src tgt A = true → ab_ok L0 h0 A ls st h → ab_mu n (ab_vals tgt ls h) < ab_mu n (ab_vals src L0 h0) := by
  intro n
  induction n with
  | zero => intro src tgt hr; simp [ab_rk] at hr
  | succ n ih =>
    intro src tgt hr hA
    rcases src with _ | ⟨⟨k, j, c⟩, r⟩
    · rcases tgt with _ | ⟨e, r'⟩
      · simp [ab_rk] at hr
      · show ab_w _ * 17179869184 ^ n + ab_mu n _ < 8589934592 * 17179869184 ^ n
        have h1 := ab_mu_lt n (ab_vals r' ls h)
        have h2 : ab_w (ab_val1 ls h e) ≤ 8589934591 := Nat.min_le_left _ _
        have h3 : ab_w (ab_val1 ls h e) * 17179869184 ^ n ≤ 8589934591 * 17179869184 ^ n := Nat.mul_le_mul_right _ h2
        unfold ab_vals at h1
        generalize 17179869184 ^ n = X at *
        omega
    · rcases tgt with _ | ⟨⟨k', j', c'⟩, r'⟩
      · simp [ab_rk] at hr
      · show ab_w (ab_val1 ls h (k', j', c')) * 17179869184 ^ n + ab_mu n (ab_vals r' ls h) < ab_w (ab_val1 L0 h0 (k, j, c)) * 17179869184 ^ n + ab_mu n (ab_vals r L0 h0)
        have same : ab_val1 ls h (k', j', c') = ab_val1 L0 h0 (k, j, c) → ab_rk n r r' A = true → ab_w (ab_val1 ls h (k', j', c')) * 17179869184 ^ n + ab_mu n (ab_vals r' ls h) < ab_w (ab_val1 L0 h0 (k, j, c)) * 17179869184 ^ n + ab_mu n (ab_vals r L0 h0) := fun e hh => by
          rw [e]
          exact Nat.add_lt_add_left (ih r r' hh hA) _
        simp only [ab_rk] at hr
        split at hr
        · next hk =>
          obtain ⟨rfl, rfl⟩ := hk
          split at hr
          · next hc => exact ab_mu_step (ab_w_lt (by show _ ≤ c; omega) (by show c < c'; omega) (by show c' ≤ _; omega))
          · split at hr
            · next hc => exact same (by show c' = c; exact hc.symm) hr
            · cases hr
        · split at hr
          · next hk =>
            obtain ⟨rfl, rfl, hk⟩ := hk
            split at hr
            · next v hv =>
              split at hr
              · next kv =>
                split at hr
                · next o ho =>
                  obtain ⟨x, ex, -, -, ht⟩ := ab_kd1 (hA.1.2 j v hv) kv
                  obtain ⟨y, ey, exy⟩ := (ht _ (ab_off_mem _ ho)).2.2.1 rfl
                  have bx := ab_iv_bd (sm_lget ls j)
                  have by' := ab_iv_bd (sm_lget L0 j)
                  have e1 : ab_iv (sm_lget ls j) = x.toInt := by rw [ex]; rfl
                  have e2 : ab_iv (sm_lget L0 j) = y.toInt := by
                    have : sm_lget L0 j = some (.int y) := ey
                    rw [this]; rfl
                  dsimp only at exy
                  rcases hk with rfl | rfl
                  · have f1 : ab_val1 ls h (1, j, c') = ab_iv (sm_lget ls j) := rfl
                    have f2 : ab_val1 L0 h0 (1, j, c) = ab_iv (sm_lget L0 j) := rfl
                    split at hr
                    · next ho2 => exact ab_mu_step (ab_w_lt (by rw [f2]; omega) (by rw [f1, f2]; omega) (by rw [f1]; omega))
                    · split at hr
                      · next ho3 => exact same (by rw [f1, f2]; omega) hr
                      · cases hr
                  · have f1 : ab_val1 ls h (2, j, c') = -ab_iv (sm_lget ls j) := rfl
                    have f2 : ab_val1 L0 h0 (2, j, c) = -ab_iv (sm_lget L0 j) := rfl
                    split at hr
                    · next ho2 => exact ab_mu_step (ab_w_lt (by rw [f2]; omega) (by rw [f1, f2]; omega) (by rw [f1]; omega))
                    · split at hr
                      · next ho3 => exact same (by rw [f1, f2]; omega) hr
                      · cases hr
                · cases hr
              · cases hr
            · cases hr
          · split at hr
            · next hk =>
              obtain ⟨rfl, rfl, rfl⟩ := hk
              split at hr
              · next v hv =>
                split at hr
                · next kv =>
                  split at hr
                  · next o ho =>
                    obtain ⟨x, ex, -, -, ht⟩ := ab_kd1 (hA.2.2 _ (ab_hget_mem _ _ _ hv)) kv
                    obtain ⟨y, ey, exy⟩ := (ht _ (ab_off_mem _ ho)).2.2.2 rfl
                    have bx := ab_iv_bd (ab_fld h j)
                    have by' := ab_iv_bd (ab_fld h0 j)
                    have e1 : ab_iv (ab_fld h j) = x.toInt := by
                      have : ab_fld h j = some (.int x) := ex
                      rw [this]; rfl
                    have e2 : ab_iv (ab_fld h0 j) = y.toInt := by
                      have : ab_fld h0 j = some (.int y) := ey
                      rw [this]; rfl
                    dsimp only at exy
                    have f1 : ab_val1 ls h (3, j, c') = ab_iv (ab_fld h j) := rfl
                    have f2 : ab_val1 L0 h0 (3, j, c) = ab_iv (ab_fld h0 j) := rfl
                    split at hr
                    · next ho2 => exact ab_mu_step (ab_w_lt (by rw [f2]; omega) (by rw [f1, f2]; omega) (by rw [f1]; omega))
                    · split at hr
                      · next ho3 => exact same (by rw [f1, f2]; omega) hr
                      · cases hr
                  · cases hr
                · cases hr
              · cases hr
            · cases hr
/-! bounds within bounds -/
theorem ab_strip_ok {L0' : sm_L} {h0' : sm_H} {a : ab_V} {v : Option Value} (hv : ab_okV ls h L0 h0 a v) : ab_okV ls' h' L0' h0' (ab_strip a) v := by
  obtain ⟨k, lo, hi, ts⟩ := a
  rcases k with _ | _ | _ | _ | k
  · trivial
  · obtain ⟨x, e, h1, h2, h3⟩ := hv
    exact ⟨x, e, h1, h2, fun t ht => absurd ht List.not_mem_nil⟩
  · exact hv
  · exact hv
  · exact (show False from hv).elim
theorem ab_leV_ok {a b : ab_V} {v : Option Value} (hv : ab_okV ls h L0 h0 a v) (hl : ab_leV a b = true) : ab_nv b v := by
  obtain ⟨kb, lb, hb, tb⟩ := b
  obtain ⟨ka, la, ha, ta⟩ := a
  simp only [ab_leV, Bool.or_eq_true, Bool.and_eq_true, decide_eq_true_eq] at hl
  rcases hl with rfl | ⟨rfl, hl⟩
  · trivial
  · rcases ka with _ | _ | _ | _ | k
    · trivial
    · rw [if_neg (by decide), decide_eq_true_eq] at hl
      obtain ⟨x, e, h1, h2, h3⟩ := hv
      exact ⟨x, e, Int.le_trans hl.1 h1, Int.le_trans h2 hl.2, fun t ht => absurd ht List.not_mem_nil⟩
    · rw [if_neg (by decide), decide_eq_true_eq] at hl
      obtain ⟨x, e, h1, h2⟩ := hv
      exact ⟨x, e, Int.le_trans hl.1 h1, Int.le_trans h2 hl.2⟩
    · rw [if_pos rfl, decide_eq_true_eq] at hl
      have e : v = some (.ref la.toNat) := hv
      show v = some (.ref lb.toNat)
      rw [e]
      rw [hl]
    · exact (show False from hv).elim
theorem ab_nv_ok {a : ab_V} {v : Option Value} (hv : ab_nv a v) : ab_okV ls h L0 h0 (ab_strip a) v := ab_strip_ok (a := ab_strip a) hv
theorem ab_leL_at : ∀ (al bl : List ab_V), ab_leL al bl = true → al.length = bl.length ∧ ∀ (j : Nat) (b : ab_V), bl[j]? = some b → ∃ a, al[j]? = some a ∧ ab_leV a b = true := by
  intro al
  induction al with
  | nil => intro bl hl; cases bl with
    | nil => exact ⟨rfl, fun j b hj => by simp at hj⟩
    | cons b s => simp [ab_leL] at hl
  | cons a r ih => intro bl hl; cases bl with
    | nil => simp [ab_leL] at hl
    | cons b s =>
      simp only [ab_leL, Bool.and_eq_true] at hl
      obtain ⟨h1, h2⟩ := ih s hl.2
      refine ⟨by simp [h1], fun j b' hj => ?_⟩
      cases j with
      | zero => simp at hj; subst hj; exact ⟨a, rfl, hl.1⟩
      | succ j => exact h2 j b' (by simpa using hj)
theorem ab_leL_st : ∀ (as bs : List ab_V) (st : List Value), ab_okSt ls h L0 h0 as st → ab_leL as bs = true → ab_nvs bs st := by
  intro as
  induction as with
  | nil => intro bs st hs hl; cases bs with
    | nil => cases st with
      | nil => trivial
      | cons v s => exact (show False from hs).elim
    | cons b s => simp [ab_leL] at hl
  | cons a r ih => intro bs st hs hl; cases bs with
    | nil => simp [ab_leL] at hl
    | cons b s => cases st with
      | nil => exact (show False from hs).elim
      | cons v t =>
        simp only [ab_leL, Bool.and_eq_true] at hl
        exact ⟨ab_leV_ok hs.1 hl.1, ih s t hs.2 hl.2⟩
theorem ab_dflt_ok {c : Nat} {a : ab_V} (hS : ab_Sh sk h) (hd : ab_dflt sk c = some a) : ab_okV ls h L0 h0 a (ab_fld h c) := by
  unfold ab_dflt at hd
  split at hd
  · next ci fl hk =>
    split at hd
    · next t lo hi hf =>
      obtain ⟨fs, e1, e2, e3⟩ := hS _ _ hk
      have hlt : c % 128 < fs.length := by rw [e2]; exact (List.getElem?_eq_some_iff.mp hf).1
      have hv : fs[c % 128]? = some fs[c % 128] := List.getElem?_eq_getElem hlt
      have hfv := e3 _ _ _ hf hv
      have hfld : ab_fld h c = some fs[c % 128] := by
        unfold ab_fld
        rw [e1]
        exact hv
      rw [hfld]
      split at hd
      · next ht =>
        subst ht
        cases hd
        obtain ⟨x, ex, b1, b2⟩ := hfv
        rw [ex]
        exact ab_mk1 b1 b2 (fun _ ht => absurd ht List.not_mem_nil)
      · split at hd
        · next ht =>
          subst ht
          cases hd
          obtain ⟨x, ex, b1, b2⟩ := hfv
          rw [ex]
          exact ab_mk2 b1 b2
        · cases hd
    · cases hd
  · cases hd
theorem ab_leH_ok {hc pre : ab_HC} (hH : ab_okH ls h L0 h0 hc) (hS : ab_Sh sk h) (hl : ab_leH sk hc pre = true) : ab_nvH pre h := by
  intro e he
  have := List.all_eq_true.mp hl e he
  split at this
  · next a ha =>
    have hx := hH _ (ab_hget_mem _ _ _ ha)
    exact ab_leV_ok hx this
  · split at this
    · next a ha =>
      have hx := ab_dflt_ok (ls := ls) (L0 := L0) (h0 := h0) hS ha
      exact ab_leV_ok hx this
    · cases this
/-! fields that are not written -/
theorem ab_Fr_fld {c : Nat} {v : Value} (hF : ab_Fr wr h h') (hn : ab_in wr c = false) (hv : ab_fld h c = some v) : ab_fld h' c = some v := by
  unfold ab_fld at hv ⊢
  split at hv
  · next ci fs hk =>
    obtain ⟨fs', e1, e2⟩ := hF.2.2 _ _ hk
    rw [e1]
    dsimp only
    have ec : c / 128 * 128 + c % 128 = c := by omega
    rw [e2 (c % 128) (by rw [ec]; exact hn)]
    exact hv
  · cases hv
theorem ab_nw_mv (hF : ab_Fr wr h h') : ∀ t z, ab_nw wr t = true → ab_tg ls h L0 h0 t z → ab_tg ls h' L0 h0 t z := fun t z hn ht => ⟨ht.1, fun e => by
  obtain ⟨y, h1, h2⟩ := ht.2.1 e
  refine ⟨y, ab_Fr_fld hF ?_ h1, h2⟩
  unfold ab_nw at hn
  rw [e] at hn
  simpa using hn, ht.2.2⟩
theorem ab_newH_ok {post hc : ab_HC} (hH : ab_okH ls h L0 h0 hc) (hF : ab_Fr wr h h') (hp : ab_nvH post h') : ab_okH ls h' L0 h0 (ab_newH wr post hc) := by
  intro e he
  rcases List.mem_append.mp he with he | he
  · obtain ⟨e', m, rfl⟩ := List.mem_map.mp he
    exact ab_nv_ok (hp e' m)
  · obtain ⟨e', m, rfl⟩ := List.mem_map.mp he
    obtain ⟨m1, m2⟩ := List.mem_filter.mp m
    have hn : ab_in wr e'.1 = false := by simpa using m2
    have hv := hH e' m1
    show ab_okV ls h' L0 h0 (ab_keep (ab_nw wr) e'.2) (ab_fld h' e'.1)
    cases hf : ab_fld h e'.1 with
    | some v =>
      rw [ab_Fr_fld hF hn hf]
      rw [hf] at hv
      exact ab_keep_ok hv (ab_nw_mv hF)
    | none =>
      rw [hf] at hv
      obtain ⟨c, k, lo, hi, ts⟩ := e'
      rcases k with _ | _ | _ | _ | k
      · trivial
      · obtain ⟨x, e, -⟩ := ab_kd1 hv rfl; cases e
      · obtain ⟨x, e, -⟩ := ab_kd2 hv rfl; cases e
      · have e := ab_kd3 hv rfl; cases e
      · exact (show False from hv).elim
theorem ab_swr_ok {c : Nat} (hs : ab_sub_wr wr wr' = true) (hc : ab_in wr c = true) : ab_in wr' c = true := by
  obtain ⟨r, m, hr⟩ := List.any_eq_true.mp hc
  obtain ⟨s, ms, hs2⟩ := List.any_eq_true.mp (List.all_eq_true.mp hs r m)
  simp only [decide_eq_true_eq] at hr hs2
  exact List.any_eq_true.mpr ⟨s, ms, by simp only [decide_eq_true_eq]; omega⟩
/-! stacks, piece by piece -/
theorem ab_okSt_at : ∀ (as : List ab_V) (st : List Value), ab_okSt ls h L0 h0 as st ↔ as.length = st.length ∧ ∀ (i : Nat) (a : ab_V) (v : Value), as[i]? = some a → st[i]? = some v → ab_okV ls h L0 h0 a (some v) := by
  intro as
  induction as with
  | nil => intro st; cases st with
    | nil => exact ⟨fun _ => ⟨rfl, fun i a v hi => by simp at hi⟩, fun _ => trivial⟩
    | cons v s => exact ⟨fun hs => (show False from hs).elim, fun hs => by simp at hs⟩
  | cons a r ih => intro st; cases st with
    | nil => exact ⟨fun hs => (show False from hs).elim, fun hs => by simp at hs⟩
    | cons v s =>
      constructor
      · intro hs
        obtain ⟨h1, h2⟩ := (ih s).mp hs.2
        refine ⟨by simp [h1], fun i b w hb hw => ?_⟩
        cases i with
        | zero => simp at hb hw; subst hb; subst hw; exact hs.1
        | succ i => exact h2 i b w (by simpa using hb) (by simpa using hw)
      · intro hs
        exact ⟨hs.2 0 a v rfl rfl, (ih s).mpr ⟨by simpa using hs.1, fun i b w hb hw => hs.2 (i + 1) b w (by simpa using hb) (by simpa using hw)⟩⟩
theorem ab_args_ok {n : Nat} {as ar r : List ab_V} (hs : ab_okSt ls h L0 h0 as st) (ha : ab_args n as = some (ar, r)) : ∃ vs s, sm_args n st = some (vs, s) ∧ ab_okSt ls h L0 h0 ar vs ∧ ab_okSt ls h L0 h0 r s := by
  unfold ab_args at ha
  split at ha
  · next hn =>
    cases ha
    obtain ⟨h1, h2⟩ := (ab_okSt_at _ _).mp hs
    refine ⟨(st.take n).reverse, st.drop n, if_pos (by omega), (ab_okSt_at _ _).mpr ⟨by simp [h1], fun i a v hi hv => ?_⟩, (ab_okSt_at _ _).mpr ⟨by simp [h1], fun i a v hi hv => ?_⟩⟩
    · have l1 : i < n := by
        have := (List.getElem?_eq_some_iff.mp hi).1
        simp at this
        omega
      rw [List.getElem?_reverse (by simp; omega)] at hi
      rw [List.getElem?_reverse (by simp; omega)] at hv
      rw [List.length_take] at hi hv
      rw [List.getElem?_take, if_pos (by omega)] at hi
      rw [List.getElem?_take, if_pos (by omega)] at hv
      rw [← h1] at hv
      exact h2 _ a v hi hv
    · rw [List.getElem?_drop] at hi hv
      exact h2 _ a v hi hv
  · cases ha
theorem ab_slots_ok : ∀ (as : List ab_V) (vs : List Value), ab_okSt ls h L0 h0 as vs → as.all (fun a => !(a.1 == 0)) = true → (ab_slots as).length = (sm_slots vs).length ∧ ∀ (j : Nat) (a : ab_V), (ab_slots as)[j]? = some a → a = ab_unk ∨ ∃ v, (sm_slots vs)[j]? = some (some v) ∧ ab_okV ls h L0 h0 a (some v) := by
  intro as
  induction as with
  | nil => intro vs hs _; cases vs with
    | nil => exact ⟨rfl, fun j a hj => by simp [ab_slots] at hj⟩
    | cons v s => exact (show False from hs).elim
  | cons a r ih => intro vs hs hn; cases vs with
    | nil => exact (show False from hs).elim
    | cons v s =>
      rw [List.all_cons, Bool.and_eq_true] at hn
      obtain ⟨h1, h2⟩ := ih s hs.2 hn.2
      have hv := hs.1
      by_cases hk : a.1 = 2
      · obtain ⟨x, e, -⟩ := ab_kd2 hv hk
        cases e
        have e1 : ab_slots (a :: r) = a :: ab_unk :: ab_slots r := by simp [ab_slots, hk]
        have e2 : sm_slots (.long x :: s) = some (.long x) :: none :: sm_slots s := rfl
        rw [e1, e2]
        refine ⟨by simp [h1], fun j b hj => ?_⟩
        match j, hj with
        | 0, hj => simp at hj; subst hj; exact Or.inr ⟨_, rfl, hv⟩
        | 1, hj => simp at hj; exact Or.inl hj.symm
        | j + 2, hj => exact h2 j b hj
      · have e1 : ab_slots (a :: r) = a :: ab_slots r := by simp [ab_slots, hk]
        have e2 : sm_slots (v :: s) = some v :: sm_slots s := by
          have hc : v.category ≠ 2 := by
            obtain ⟨k, lo, hi, ts⟩ := a
            rcases k with _ | _ | _ | _ | k
            · simp at hn
            · obtain ⟨x, e, -⟩ := ab_kd1 hv rfl
              cases e
              exact (by decide : (1 : Nat) ≠ 2)
            · exact absurd rfl hk
            · have e := ab_kd3 hv rfl
              cases e
              exact (by decide : (1 : Nat) ≠ 2)
            · exact (show False from hv).elim
          simp [sm_slots, hc]
        rw [e1, e2]
        refine ⟨by simp [h1], fun j b hj => ?_⟩
        match j, hj with
        | 0, hj => simp at hj; subst hj; exact Or.inr ⟨_, rfl, hv⟩
        | j + 1, hj => exact h2 j b hj
theorem ab_entry_ok {n : Nat} {as : List ab_V} {vs : List Value} (hs : ab_okSt (sm_entry n vs) h L0 h0 as vs) (hn : as.all (fun a => !(a.1 == 0)) = true) (hl : (ab_slots as).length ≤ n) : (sm_slots vs).length ≤ n ∧ ab_okL (sm_entry n vs) h L0 h0 (ab_entry n as) := by
  obtain ⟨h1, h2⟩ := ab_slots_ok as vs hs hn
  refine ⟨by omega, by simp [ab_entry, sm_entry, h1], fun j a hj => ?_⟩
  unfold ab_entry at hj
  by_cases hjl : j < (ab_slots as).length
  · rw [List.getElem?_append_left hjl] at hj
    rcases h2 j a hj with rfl | ⟨v, e, hv⟩
    · trivial
    · have : sm_lget (sm_entry n vs) j = some v := by
        unfold sm_lget sm_entry
        rw [List.getElem?_append_left (by omega), e]
      rw [this]
      exact hv
  · rw [List.getElem?_append_right (by omega)] at hj
    have := List.eq_of_mem_replicate (List.mem_of_getElem? hj)
    subst this
    trivial
/-! returns and calls -/
theorem ab_retv_ok {q : sm_I} {k pc : Nat} {rv : Option ab_V} (hr : ab_retv q k A = some rv) (hA : ab_ok L0 h0 A ls st h) : ∃ v, sm_step q pc ls st h = some (.inr (.inl v)) ∧ sm_okret k v = true ∧ ((k = 0 ∧ rv = none ∧ v = none) ∨ (k ≠ 0 ∧ ∃ a w, rv = some a ∧ v = some w ∧ a.1 ≠ 0 ∧ ab_okV ls h L0 h0 a (some w))) := by
  obtain ⟨i, len, rs⟩ := q
  obtain ⟨al, as, hc⟩ := A
  unfold ab_retv at hr
  dsimp only at hr
  split at hr
  · next v0 =>
    split at hr
    · next hk =>
      cases hr
      obtain ⟨v, s, rfl, hv, hs⟩ := ab_pop hA.2.1
      cases s with
      | cons w s => exact (show False from hs).elim
      | nil =>
        obtain ⟨x, e, g1, g2, -⟩ := ab_kd1 hv hk.1
        cases e
        refine ⟨some (.int x), rfl, ?_, Or.inr ⟨?_, _, _, rfl, rfl, by rw [hk.1]; decide, hv⟩⟩
        · have e0 : (0 : Int32).toInt = 0 := rfl
          have e1 : (1 : Int32).toInt = 1 := rfl
          have e2 : (65535 : Int32).toInt = 65535 := rfl
          rcases hk.2 with rfl | ⟨rfl | rfl, l1, l2⟩ | ⟨rfl, l1, l2⟩
          · rfl
          · simp only [sm_okret, decide_eq_true_eq, ← Int32.toInt_inj]; omega
          · simp only [sm_okret, decide_eq_true_eq, ← Int32.toInt_inj]; omega
          · simp only [sm_okret, decide_eq_true_eq, Int32.le_iff_toInt_le]; omega
        · rcases hk.2 with rfl | ⟨rfl | rfl, -, -⟩ | ⟨rfl, -, -⟩ <;> decide
    · cases hr
  · next v0 =>
    split at hr
    · next hk =>
      cases hr
      obtain ⟨v, s, rfl, hv, hs⟩ := ab_pop hA.2.1
      cases s with
      | cons w s => exact (show False from hs).elim
      | nil =>
        obtain ⟨x, e, g1, g2⟩ := ab_kd2 hv hk.1
        cases e
        exact ⟨some (.long x), rfl, by rw [hk.2]; rfl, Or.inr ⟨by rw [hk.2]; decide, _, _, rfl, rfl, by rw [hk.1]; decide, hv⟩⟩
    · cases hr
  · next v0 =>
    split at hr
    · next hk =>
      cases hr
      obtain ⟨v, s, rfl, hv, hs⟩ := ab_pop hA.2.1
      cases s with
      | cons w s => exact (show False from hs).elim
      | nil =>
        have e := ab_kd3 hv hk.1
        cases e
        exact ⟨some (.ref v0.2.1.toNat), rfl, by rw [hk.2]; rfl, Or.inr ⟨by rw [hk.2]; decide, _, _, rfl, rfl, by rw [hk.1]; decide, hv⟩⟩
    · cases hr
  · split at hr
    · next hk =>
      cases hr
      have hs := hA.2.1
      cases st with
      | cons w s => exact (show False from hs).elim
      | nil => exact ⟨none, rfl, by rw [hk]; rfl, Or.inl ⟨hk, rfl, rfl⟩⟩
    · cases hr
  · cases hr
theorem ab_callv_ok {q : sm_I} {m pc : Nat} {as r : List ab_V} (hq : ab_callv sk q A = some (m, as, r)) (hA : ab_ok L0 h0 A ls st h) (hS : ab_Sh sk h) : ∃ vs s, sm_step q pc ls st h = some (.inr (.inr (m, vs, s))) ∧ ab_okSt ls h L0 h0 as vs ∧ ab_okSt ls h L0 h0 r s := by
  obtain ⟨i, len, rs⟩ := q
  unfold ab_callv at hq
  dsimp only at hq
  split at hq
  · next idx k m1 n =>
    split at hq
    · next as1 r1 ha =>
      cases hq
      obtain ⟨vs, s, e1, e2, e3⟩ := ab_args_ok hA.2.1 ha
      refine ⟨vs, s, ?_, e2, e3⟩
      simp only [sm_step, sm_callS, e1, sm_call]
    · cases hq
  · next idx k n ps =>
    split at hq
    · next a as1 r1 ha =>
      split at hq
      · next ka =>
        split at hq
        · next ci fl hk =>
          split at hq
          · next m1 hp =>
            cases hq
            obtain ⟨vs, s, e1, e2, e3⟩ := ab_args_ok hA.2.1 ha
            obtain ⟨v, vs, rfl, hv, hvs⟩ := ab_pop e2
            have e := ab_kd3 hv ka
            cases e
            obtain ⟨fs, c1, -, -⟩ := hS _ _ hk
            refine ⟨_, s, ?_, e2, e3⟩
            simp only [sm_step, sm_callV, e1, c1, hp, sm_call]
          · cases hq
        · cases hq
      · cases hq
    · cases hq
  · cases hq
theorem ab_find_ok {d m : Nat} {as : List ab_V} {hc : ab_HC} {c : ab_C} : ∀ env : List ab_C, ab_find sk d m as hc wr env = some c → c ∈ env ∧ c.1 = m ∧ ab_leL as c.2.1 = true ∧ ab_leH sk hc c.2.2.1 = true ∧ c.2.2.2.2.2 ≤ d ∧ ab_sub_wr c.2.2.2.2.1 wr = true := by
  intro env
  induction env with
  | nil => intro h; simp [ab_find] at h
  | cons e r ih =>
    intro h
    simp only [ab_find] at h
    split at h
    · next hc => cases h; exact ⟨List.mem_cons_self, hc⟩
    · obtain ⟨h1, h2⟩ := ih h
      exact ⟨List.mem_cons_of_mem _ h1, h2⟩
end ABK
