/-! THE EXACT MACHINE: what lies in the cells is told by functions of the heap; what must hold on the way is gathered in a list -/
def mx_i (h : sm_H) (c : Nat) : Int32 := match ab_fld h c with
  | some (.int x) => x
  | _ => 0
def mx_l (h : sm_H) (c : Nat) : Int64 := match ab_fld h c with
  | some (.long x) => x
  | _ => 0
def mx_a (h : sm_H) (k i : Nat) : Int32 := match h[k]? with
  | some (.inl (_, _, .inl f)) => f i
  | _ => 0
def mx_b (h : sm_H) (k i : Nat) : Int64 := match h[k]? with
  | some (.inl (_, _, .inr (.inl f))) => f i
  | _ => 0
def mx_pf (h : sm_H) (c : Nat) (v : Value) : sm_H := match h[c / 128]? with
  | some (.inr (ci, fs)) => h.set (c / 128) (.inr (ci, fs.set (c % 128) v))
  | _ => h
def mx_pa (h : sm_H) (k i : Nat) (x : Int32) : sm_H := match h[k]? with
  | some (.inl (t, n, .inl f)) => h.set k (.inl (t, n, .inl (upd f i x)))
  | _ => h
def mx_pb (h : sm_H) (k i : Nat) (x : Int64) : sm_H := match h[k]? with
  | some (.inl (t, n, .inr (.inl f))) => h.set k (.inl (t, n, .inr (.inl (vp_updL f i x))))
  | _ => h
abbrev mx_R : Type := Nat × sm_L × List Value × sm_H × List Prop
/-- instructions that look at no cell and cannot fail but by what lies on the stack -/
def mx_pureI (i : Instr) : Bool := match i with
  | .iconst _ | .bipush _ | .sipush _ | .lconst _ | .ldc _ | .ldc_w _ | .ldc2_w _ | .getstatic _ => true
  | .iload_n _ | .iload _ | .lload_n _ | .lload _ | .aload_n _ | .aload _ | .istore_n _ | .istore _ | .astore_n _ | .astore _ | .lstore_n _ | .lstore _ | .iinc _ _ => true
  | .iadd | .isub | .imul | .iand | .ior | .ixor | .ishl | .ishr | .iushr | .ineg | .ladd | .lsub | .lmul | .land | .lor | .lxor | .lushr | .lshl | .lshr | .lcmp => true
  | .i2l | .l2i | .i2c | .i2b | .dup | .pop | .dup_x1 | .dup_x2 | .dup2 | .pop2 | .goto _ => true
  | _ => false
def mx_ald (ts : List Nat) (sk : ab_K) (pc : Nat) (ls : sm_L) (st : List Value) (h : sm_H) : Option mx_R := match st with
  | .int x :: .ref a :: r => match sk[a]? with
    | some (some (.inl (t, n, _, _, _))) => if t ∈ ts ∧ t ≠ 1 ∧ sm_C ≤ a then some (pc + 1, ls, .int (mx_a h a x.toNatClampNeg) :: r, h, [0 ≤ x.toInt ∧ x.toInt < (n : Int)]) else none
    | _ => none
  | _ => none
def mx_ast (t0 : Nat) (g : Int32 → Int32) (sk : ab_K) (pc : Nat) (ls : sm_L) (st : List Value) (h : sm_H) : Option mx_R := match st with
  | .int y :: .int x :: .ref a :: r => match sk[a]? with
    | some (some (.inl (t, n, lo, hi, ex))) => if t = t0 ∧ t ≠ 1 ∧ sm_C ≤ a ∧ ex = [] then some (pc + 1, ls, r, mx_pa h a x.toNatClampNeg (g y), [0 ≤ x.toInt ∧ x.toInt < (n : Int), lo ≤ (g y).toInt ∧ (g y).toInt ≤ hi]) else none
    | _ => none
  | _ => none
def mx_getf (sk : ab_K) (rs : List Nat) (pc : Nat) (ls : sm_L) (st : List Value) (h : sm_H) : Option mx_R := match st, rs with
  | .ref a :: r, k :: z :: cs => match sk[a]? with
    | some (some (.inr (ci, fl))) => if ci ∈ cs ∧ k < 128 ∧ z = 0 ∧ sm_C ≤ a then (match fl[k]? with
      | some (t, lo, _) => some (pc + 3, ls, (if t = 0 then .int (mx_i h (a * 128 + k)) else if t = 1 then .long (mx_l h (a * 128 + k)) else .ref lo.toNat) :: r, h, [])
      | none => none) else none
    | _ => none
  | _, _ => none
def mx_putf (sk : ab_K) (rs : List Nat) (pc : Nat) (ls : sm_L) (st : List Value) (h : sm_H) : Option mx_R := match st, rs with
  | .int x :: .ref a :: r, k :: t :: _ :: cs => match sk[a]? with
    | some (some (.inr (ci, fl))) => if ci ∈ cs ∧ k < 128 ∧ sm_C ≤ a then (match fl[k]? with
      | some (t', lo, hi) => if t' = 0 ∧ (t = 0 ∨ t = 3) then some (pc + 3, ls, r, mx_pf h (a * 128 + k) (.int x), [lo ≤ x.toInt ∧ x.toInt ≤ hi, t = 3 → 0 ≤ x.toInt ∧ x.toInt ≤ 1]) else none
      | none => none) else none
    | _ => none
  | .long x :: .ref a :: r, k :: t :: _ :: cs => match sk[a]? with
    | some (some (.inr (ci, fl))) => if ci ∈ cs ∧ k < 128 ∧ sm_C ≤ a then (match fl[k]? with
      | some (t', lo, hi) => if t' = 1 ∧ t = 1 then some (pc + 3, ls, r, mx_pf h (a * 128 + k) (.long x), [lo ≤ x.toInt ∧ x.toInt ≤ hi]) else none
      | none => none) else none
    | _ => none
  | _, _ => none
def mx_dflt (q : sm_I) (pc : Nat) (ls : sm_L) (st : List Value) (h : sm_H) : Option mx_R := if mx_pureI q.1 then (match sm_step q pc ls st [] with
  | some (.inl (pc', ls', st', _)) => some (pc', ls', st', h, [])
  | _ => none) else none
/-- one instruction; b: which way a branch goes (1: it is taken), which case of a switch (1000: none) -/
def mx_step (sk : ab_K) (q : sm_I) (pc : Nat) (ls : sm_L) (st : List Value) (h : sm_H) (b : Nat) : Option mx_R := match q with
  | (i, len, rs) => match i with
    | .getfield _ => mx_getf sk rs pc ls st h
    | .putfield _ => mx_putf sk rs pc ls st h
    | .iaload => mx_ald [0] sk pc ls st h
    | .caload => mx_ald [2] sk pc ls st h
    | .baload => mx_ald [3] sk pc ls st h
    | .iastore => mx_ast 0 (fun x => x) sk pc ls st h
    | .castore => mx_ast 2 sm_chr sk pc ls st h
    | .bastore => mx_ast 3 (fun x => x &&& 1) sk pc ls st h
    | .laload => match st with
      | .int x :: .ref a :: r => match sk[a]? with
        | some (some (.inl (t, n, _, _, _))) => if t = 1 ∧ sm_C ≤ a then some (pc + 1, ls, .long (mx_b h a x.toNatClampNeg) :: r, h, [0 ≤ x.toInt ∧ x.toInt < (n : Int)]) else none
        | _ => none
      | _ => none
    | .lastore => match st with
      | .long y :: .int x :: .ref a :: r => match sk[a]? with
        | some (some (.inl (t, n, lo, hi, _))) => if t = 1 ∧ sm_C ≤ a then some (pc + 1, ls, r, mx_pb h a x.toNatClampNeg y, [0 ≤ x.toInt ∧ x.toInt < (n : Int), lo ≤ y.toInt ∧ y.toInt ≤ hi]) else none
        | _ => none
      | _ => none
    | .if_icmp c off => match st with
      | .int y :: .int x :: r => if b = 1 then some (sm_jmp pc off, ls, r, h, [sm_cmp c x y = true]) else some (pc + 3, ls, r, h, [sm_cmp c x y = false])
      | _ => none
    | .ifCond c off => match st with
      | .int x :: r => if b = 1 then some (sm_jmp pc off, ls, r, h, [sm_cmp c x 0 = true]) else some (pc + 3, ls, r, h, [sm_cmp c x 0 = false])
      | _ => none
    | .tableswitch d lo hi offs => match st with
      | .int x :: r => if b = 1000 then some (sm_jmp pc d, ls, r, h, [x.toInt < lo ∨ hi < x.toInt]) else (match offs[b]? with
        | some off => some (sm_jmp pc off, ls, r, h, [x.toInt = lo + (b : Int) ∧ x.toInt ≤ hi])
        | none => none)
      | _ => none
    | .idiv => match st with
      | .int y :: .int x :: r => some (pc + 1, ls, .int (x / y) :: r, h, [y ≠ 0])
      | _ => none
    | .irem => match st with
      | .int y :: .int x :: r => some (pc + 1, ls, .int (x - x / y * y) :: r, h, [y ≠ 0])
      | _ => none
    | .lrem => match st with
      | .long y :: .long x :: r => some (pc + 1, ls, .long (x - x / y * y) :: r, h, [y ≠ 0])
      | _ => none
    | _ => mx_dflt (i, len, rs) pc ls st h
section MXS
variable {sk : ab_K} {h : sm_H} {ls : sm_L} {st : List Value} {pc : Nat}
theorem mx_pure_ok {q : sm_I} {pc' : Nat} {ls' : sm_L} {st' : List Value} {h1 : sm_H} (hp : mx_pureI q.1 = true) (hs : sm_step q pc ls st [] = some (.inl (pc', ls', st', h1))) : sm_step q pc ls st h = some (.inl (pc', ls', st', h)) := by
  obtain ⟨i, len, rs⟩ := q
  cases i <;> first
    | (simp [mx_pureI] at hp; done)
    | (simp only [sm_step, sm_bin, sm_binL, sm_loadK, sm_store1, sm_store2, sm_nx, Option.bind] at hs ⊢
       repeat' split at hs
       all_goals first
         | (cases hs; done)
         | (cases hs; simp_all; done)
         | (simp at hs; simp_all; done))
theorem mx_ix {x : Int32} {n : Nat} (h0 : 0 ≤ x.toInt ∧ x.toInt < (n : Int)) : sm_ix x n = true ∧ x.toNatClampNeg < n := by
  have e : x.toNatClampNeg = x.toInt.toNat := rfl
  have hlt : x.toNatClampNeg < n := by rw [e]; omega
  refine ⟨?_, hlt⟩
  simp only [sm_ix, decide_eq_true_eq]
  refine ⟨fun hn => ?_, hlt⟩
  rw [Int32.lt_iff_toInt_lt] at hn
  have e2 : (0 : Int32).toInt = 0 := rfl
  omega
theorem mx_arr {a t n : Nat} {lo hi : Int} {ex : List Int} (hS : ab_Sh sk h) (hk : sk[a]? = some (some (.inl (t, n, lo, hi, ex)))) (ht : t ≠ 1) : ∃ f, h[a]? = some (.inl (t, n, .inl f)) ∧ ∀ i, i < n → lo ≤ (f i).toInt ∧ (f i).toInt ≤ hi ∧ ∀ z, ex[i]? = some z → (f i).toInt = z := by
  obtain ⟨c, e1, e2⟩ := hS _ _ hk
  rcases c with f | f | f | f | f
  · exact ⟨f, e1, e2.2⟩
  · exact absurd e2.1 ht
  · exact (show False from e2).elim
  · exact (show False from e2).elim
  · exact (show False from e2).elim
theorem mx_arrL {a n : Nat} {lo hi : Int} {ex : List Int} (hS : ab_Sh sk h) (hk : sk[a]? = some (some (.inl (1, n, lo, hi, ex)))) : ∃ f, h[a]? = some (.inl (1, n, .inr (.inl f))) ∧ ∀ i, i < n → lo ≤ (f i).toInt ∧ (f i).toInt ≤ hi := by
  obtain ⟨c, e1, e2⟩ := hS _ _ hk
  rcases c with f | f | f | f | f
  · exact absurd rfl e2.1
  · exact ⟨f, e1, e2.2⟩
  · exact (show False from e2).elim
  · exact (show False from e2).elim
  · exact (show False from e2).elim
theorem mx_ald_ok {ts : List Nat} {R : mx_R} {t0 : Nat} (ht0 : ts = [t0]) (hs : mx_ald ts sk pc ls st h = some R) (hS : ab_Sh sk h) (ho : ∀ p ∈ R.2.2.2.2, p) : sm_ald t0 pc ls st h = some (.inl (R.1, R.2.1, R.2.2.1, R.2.2.2.1)) ∧ ab_Sh sk R.2.2.2.1 := by
  subst ht0
  unfold mx_ald at hs
  split at hs
  · next x a r =>
    split at hs
    · next t n lo hi ex hk =>
      split at hs
      · next hc =>
        cases hs
        have ht := List.mem_singleton.mp hc.1
        subst ht
        have hi1 := mx_ix (ho _ List.mem_cons_self)
        obtain ⟨f, e1, -⟩ := mx_arr hS hk hc.2.1
        refine ⟨?_, hS⟩
        simp only [sm_ald, mx_a]
        rw [e1]
        dsimp only
        rw [if_pos ⟨rfl, hi1.1, Or.inl hc.2.2⟩]
        rfl
      · cases hs
    · cases hs
  · cases hs
theorem mx_ast_ok {t0 : Nat} {g : Int32 → Int32} {R : mx_R} (hs : mx_ast t0 g sk pc ls st h = some R) (hS : ab_Sh sk h) (ho : ∀ p ∈ R.2.2.2.2, p) : sm_ast t0 g pc ls st h = some (.inl (R.1, R.2.1, R.2.2.1, R.2.2.2.1)) ∧ ab_Sh sk R.2.2.2.1 := by
  unfold mx_ast at hs
  split at hs
  · next y x a r =>
    split at hs
    · next t n lo hi ex hk =>
      split at hs
      · next hc =>
        cases hs
        obtain ⟨rfl, ht, hC, rfl⟩ := hc
        have hi1 := mx_ix (ho _ List.mem_cons_self)
        have hv := ho _ (List.mem_cons_of_mem _ List.mem_cons_self)
        obtain ⟨f, e1, e2⟩ := mx_arr hS hk ht
        dsimp only
        simp only [sm_ast, mx_pa]
        rw [e1]
        dsimp only
        rw [if_pos ⟨rfl, hi1.1, hC⟩]
        refine ⟨rfl, ab_Sh_set hS (List.getElem?_eq_some_iff.mp e1).1 fun s hs => ?_⟩
        rw [hk] at hs
        cases hs
        refine ⟨_, rfl, ht, fun j hj => ?_⟩
        obtain ⟨f1, f2, f3⟩ := e2 j hj
        refine ⟨?_, ?_, fun z hz => by simp at hz⟩
        · unfold upd
          split
          · exact hv.1
          · exact f1
        · unfold upd
          split
          · exact hv.2
          · exact f2
      · cases hs
    · cases hs
  · cases hs
theorem mx_obj {a ci : Nat} {fl : List (Nat × Int × Int)} (hS : ab_Sh sk h) (hk : sk[a]? = some (some (.inr (ci, fl)))) : ∃ fs, h[a]? = some (.inr (ci, fs)) ∧ fs.length = fl.length ∧ ∀ (i : Nat) (x : Nat × Int × Int) (v : Value), fl[i]? = some x → fs[i]? = some v → ab_fv x v := hS _ _ hk
theorem mx_getf_ok {rs : List Nat} {R : mx_R} (hs : mx_getf sk rs pc ls st h = some R) (hS : ab_Sh sk h) : sm_getf rs pc ls st h = some (.inl (R.1, R.2.1, R.2.2.1, R.2.2.2.1)) ∧ ab_Sh sk R.2.2.2.1 := by
  unfold mx_getf at hs
  split at hs
  · next a r k z cs =>
    split at hs
    · next ci fl hk =>
      split at hs
      · next hc =>
        obtain ⟨g1, g2, g3, g4⟩ := hc
        split at hs
        · next t lo hi hf =>
          cases hs
          obtain ⟨fs, e1, e2, e3⟩ := mx_obj hS hk
          have hlt : k < fs.length := by rw [e2]; exact (List.getElem?_eq_some_iff.mp hf).1
          have hv : fs[k]? = some fs[k] := List.getElem?_eq_getElem hlt
          have hfv := e3 k _ _ hf hv
          have hfld : ab_fld h (a * 128 + k) = some fs[k] := by rw [ab_fld_at g2 e1]; exact hv
          refine ⟨?_, hS⟩
          simp only [sm_getf]
          rw [e1]
          dsimp only
          rw [if_pos ⟨g1, Or.inl ⟨g3, g4⟩⟩, hv]
          dsimp only
          split
          · next ht =>
            subst ht
            obtain ⟨x, ex, -⟩ := hfv
            unfold mx_i
            rw [hfld, ex]
            rfl
          · split
            · next ht =>
              subst ht
              obtain ⟨x, ex, -⟩ := hfv
              unfold mx_l
              rw [hfld, ex]
              rfl
            · next ht0 ht1 =>
              have ex : fs[k] = .ref lo.toNat := by
                rcases t with _ | _ | t
                · exact absurd rfl ht0
                · exact absurd rfl ht1
                · exact hfv
              rw [ex]
              rfl
        · cases hs
      · cases hs
    · cases hs
  · cases hs
theorem mx_pf_ok {a k ci : Nat} {fl : List (Nat × Int × Int)} {x : Nat × Int × Int} {v : Value} {fs : List Value} (hS : ab_Sh sk h) (hk : sk[a]? = some (some (.inr (ci, fl)))) (hf : fl[k]? = some x) (h128 : k < 128) (e1 : h[a]? = some (.inr (ci, fs))) (e2 : fs.length = fl.length) (hv : ab_fv x v)
    (e3 : ∀ (i : Nat) (x : Nat × Int × Int) (v : Value), fl[i]? = some x → fs[i]? = some v → ab_fv x v) : mx_pf h (a * 128 + k) v = h.set a (.inr (ci, fs.set k v)) ∧ ab_Sh sk (mx_pf h (a * 128 + k) v) := by
  have ea : (a * 128 + k) / 128 = a := by omega
  have eb : (a * 128 + k) % 128 = k := by omega
  have e : mx_pf h (a * 128 + k) v = h.set a (.inr (ci, fs.set k v)) := by
    unfold mx_pf
    rw [ea, eb, e1]
  refine ⟨e, ?_⟩
  rw [e]
  have hlt : k < fs.length := by rw [e2]; exact (List.getElem?_eq_some_iff.mp hf).1
  refine ab_Sh_set hS (List.getElem?_eq_some_iff.mp e1).1 fun s hs => ?_
  rw [hk] at hs
  cases hs
  refine ⟨fs.set k v, rfl, by rw [List.length_set]; exact e2, fun i y u hy hu => ?_⟩
  by_cases ei : k = i
  · subst ei
    rw [List.getElem?_set_self hlt] at hu
    cases hu
    rw [hf] at hy
    cases hy
    exact hv
  · rw [List.getElem?_set_ne ei] at hu
    exact e3 i y u hy hu
theorem mx_putf_ok {rs : List Nat} {R : mx_R} (hs : mx_putf sk rs pc ls st h = some R) (hS : ab_Sh sk h) (ho : ∀ p ∈ R.2.2.2.2, p) : sm_putf rs pc ls st h = some (.inl (R.1, R.2.1, R.2.2.1, R.2.2.2.1)) ∧ ab_Sh sk R.2.2.2.1 := by
  unfold mx_putf at hs
  split at hs
  · next x a r k t fin cs =>
    split at hs
    · next ci fl hk =>
      split at hs
      · next hc =>
        obtain ⟨g1, g2, g3⟩ := hc
        split at hs
        · next t' lo hi hf =>
          split at hs
          · next hc2 =>
            cases hs
            obtain ⟨rfl, ht⟩ := hc2
            have o1 := ho _ List.mem_cons_self
            have o2 := ho _ (List.mem_cons_of_mem _ List.mem_cons_self)
            obtain ⟨fs, e1, e2, e3⟩ := mx_obj hS hk
            have hlt : k < fs.length := by rw [e2]; exact (List.getElem?_eq_some_iff.mp hf).1
            obtain ⟨p1, p2⟩ := mx_pf_ok (v := .int x) hS hk hf g2 e1 e2 ⟨x, rfl, o1.1, o1.2⟩ e3
            refine ⟨?_, p2⟩
            dsimp only
            rw [p1]
            simp only [sm_putf]
            rw [e1]
            dsimp only
            have hfit : sm_fit t (.int x) = true := by
              rcases ht with rfl | rfl
              · rfl
              · have := o2 rfl
                simp only [sm_fit, decide_eq_true_eq, ← Int32.toInt_inj]
                have e0 : (0 : Int32).toInt = 0 := rfl
                have e1 : (1 : Int32).toInt = 1 := rfl
                omega
            rw [if_pos ⟨g1, hlt, hfit, g3⟩]
            rfl
          · cases hs
        · cases hs
      · cases hs
    · cases hs
  · next x a r k t fin cs =>
    split at hs
    · next ci fl hk =>
      split at hs
      · next hc =>
        obtain ⟨g1, g2, g3⟩ := hc
        split at hs
        · next t' lo hi hf =>
          split at hs
          · next hc2 =>
            cases hs
            obtain ⟨rfl, rfl⟩ := hc2
            have o1 := ho _ List.mem_cons_self
            obtain ⟨fs, e1, e2, e3⟩ := mx_obj hS hk
            have hlt : k < fs.length := by rw [e2]; exact (List.getElem?_eq_some_iff.mp hf).1
            obtain ⟨p1, p2⟩ := mx_pf_ok (v := .long x) hS hk hf g2 e1 e2 ⟨x, rfl, o1.1, o1.2⟩ e3
            refine ⟨?_, p2⟩
            dsimp only
            rw [p1]
            simp only [sm_putf]
            rw [e1]
            dsimp only
            rw [if_pos ⟨g1, hlt, rfl, g3⟩]
            rfl
          · cases hs
        · cases hs
      · cases hs
    · cases hs
  · cases hs
end MXS
