/-! ONE STEP of the small machine that goes on in its method is a step of the JVM -/
def sm_lenOk (i : Instr) (n : Nat) : Bool := match i with
  | .bipush _ | .ldc _ | .iload _ | .lload _ | .aload _ | .istore _ | .lstore _ | .astore _ | .newarray _ => n == 2
  | .sipush _ | .ldc_w _ | .ldc2_w _ | .iinc _ _ | .if_icmp _ _ | .ifCond _ _ | .goto _ | .getstatic _ | .getfield _ | .putfield _ | .new _ | .invokestatic _ | .invokespecial _ | .invokevirtual _ => n == 3
  | .tableswitch _ _ _ _ => true
  | _ => n == 1
def sm_tk (t : Nat) (ty : FieldType) : Prop := (t = 0 ∧ ty = .int) ∨ (t = 1 ∧ ty = .long) ∨ (t = 2 ∧ ((∃ n, ty = .object n) ∨ ∃ n, ty = .array n)) ∨ (t = 3 ∧ ty = .boolean) ∨ (t = 4 ∧ ty = .char)
/-- what the tables must hold of an instruction -/
def sm_okI (Ts : List Cond) (sx : List (String × Nat × String × Nat)) (zx : List (String × String × String × Nat)) (oc : (List (Nat × Nat × String × String × String × Value) × List (String × Nat × MethodName × String) × List MethodName)) (K : sm_H) (cl : List vw_C) (own mn : String) (pc : Nat) (i : Instr) (rs : List Nat) : Prop := match i, rs with
  | .if_icmp _ off, _ => 0 ≤ (pc : Int) + off
  | .ifCond _ off, _ => 0 ≤ (pc : Int) + off
  | .goto off, _ => 0 ≤ (pc : Int) + off
  | .tableswitch d _ _ offs, _ => 0 ≤ (pc : Int) + d ∧ ∀ o ∈ offs.toList, 0 ≤ (pc : Int) + o
  | .getstatic idx, [n] => ∃ (C nm d ref : String), (C, nm, d, n) ∈ zx ∧ Cond.fieldLink own idx ref nm d ∈ Ts ∧ (ref = C ∨ Cond.sameField ref C nm d ∈ Ts)
  | .getfield idx, k :: 1 :: cs => ∀ ci ∈ cs, ∀ a fs v, a < sm_C → K[a]? = some (.inr (ci, fs)) → fs[k]? = some v → ∃ (o nm d ref : String), (a, k, o, nm, d, v) ∈ oc.1 ∧ Cond.fieldLink own idx ref nm d ∈ Ts ∧ (ref = o ∨ Cond.sameField ref o nm d ∈ Ts)
  | .getfield _, _ :: (_ + 2) :: _ => False
  | .getfield idx, k :: 0 :: cs => ∀ ci ∈ cs, ∃ (C : String) (T : u_T) (N : Nat) (ref : String), cl[ci]? = some (C, T, N) ∧ k < N ∧ (∀ w ∈ u_ws C T N, w ∈ Ts) ∧ Cond.fieldLink own idx ref (T k).2.1 (T k).2.2.1 ∈ Ts ∧ (ref = (T k).1 ∨ Cond.sameField ref (T k).1 (T k).2.1 (T k).2.2.1 ∈ Ts)
  | .putfield idx, k :: t :: _ :: cs => ∀ ci ∈ cs, ∃ (C : String) (T : u_T) (N : Nat) (ref : String) (ty0 : Nat → FieldType), cl[ci]? = some (C, T, N) ∧ k < N ∧ (∀ w ∈ u_ws C T N, w ∈ Ts) ∧ Cond.fieldLink own idx ref (T k).2.1 (T k).2.2.1 ∈ Ts ∧ (ref = (T k).1 ∨ Cond.sameField ref (T k).1 (T k).2.1 (T k).2.2.1 ∈ Ts) ∧ (∀ k, k < N → parseFieldDescriptor (T k).2.2.1 = some (ty0 k)) ∧ (∀ a, a < N → ∀ b, b < N → a ≠ b → (T a).2.1 ≠ (T b).2.1) ∧ ((T k).2.2.2 = false ∨ ((T k).2.2.2 = true ∧ mn = "<init>" ∧ (T k).1 = own)) ∧ sm_tk t (ty0 k)
  | .new _, 1000 :: _ => True
  | .new idx, ci :: ts => ∃ (C : String) (T : u_T) (N : Nat) (ty0 : Nat → FieldType), cl[ci]? = some (C, T, N) ∧ (∀ w ∈ u_ws C T N, w ∈ Ts) ∧ (∀ k, k < N → parseFieldDescriptor (T k).2.2.1 = some (ty0 k)) ∧ Cond.classLink own idx C ∈ Ts ∧ Cond.instantiable C N ∈ Ts ∧ Cond.initialized C ∈ Ts ∧ ts.length = N ∧ ∀ j, j < N → defaultValue (ty0 j) = sm_dflt (ts.getD j 0)
  | .newarray at', [t] => sm_ty t = some (newarray.typeOf at') ∧ Cond.arrayClass (newarray.typeOf at') ∈ Ts
  | .invokestatic idx, [_, k] => (k = 0 ∧ Cond.methodLink own idx Lib.Math.max.name ∈ Ts ∧ Cond.static Lib.Math.max.name ∈ Ts ∧ Cond.initialized "java/lang/Math" ∈ Ts ∧ Cond.code Lib.Math.max.name Lib.Math.max.code 2 (some .int) ∈ Ts) ∨ (k = 1 ∧ Cond.methodLink own idx Lib.Math.min.name ∈ Ts ∧ Cond.static Lib.Math.min.name ∈ Ts ∧ Cond.initialized "java/lang/Math" ∈ Ts ∧ Cond.code Lib.Math.min.name Lib.Math.min.code 2 (some .int) ∈ Ts)
  | .invokestatic idx, [_, _, _, _] => (∀ w ∈ sm_wS, w ∈ Ts) ∧ Cond.methodLink own idx sm_yS ∈ Ts ∧ Cond.static sm_yS ∈ Ts ∧ Cond.initialized "java/lang/String" ∈ Ts
  | .invokespecial idx, [_] => Cond.methodLink own idx objectInit ∈ Ts ∧ Cond.instanceMethod objectInit ∈ Ts ∧ Cond.code objectInit ⟨#[0xb1]⟩ 1 none ∈ Ts
  | .ldc idx, [0, n] => Cond.constant own idx (Int32.ofNat n) ∈ Ts
  | .ldc idx, [1, n] => ∃ tx, (own, idx, tx, n) ∈ sx
  | .ldc_w idx, [0, n] => Cond.constant own idx (Int32.ofNat n) ∈ Ts
  | .ldc2_w idx, [n] => Cond.constantLong own idx (Int64.ofNat n) ∈ Ts
  | _, _ => True

theorem sm_bin_inv {f : Int32 → Int32 → Int32} {pc pc' : Nat} {ls ls' : sm_L} {st st' : List Value} {h h' : sm_H} (hs : sm_bin f pc ls st h = some (.inl (pc', ls', st', h'))) : ∃ x y r, st = .int y :: .int x :: r ∧ pc' = pc + 1 ∧ ls' = ls ∧ st' = .int (f x y) :: r ∧ h' = h := by
  unfold sm_bin at hs
  split at hs
  · next y x r => simp [sm_nx] at hs; exact ⟨x, y, r, rfl, hs.1.symm, hs.2.1.symm, hs.2.2.1.symm, hs.2.2.2.symm⟩
  · cases hs
theorem sm_binL_inv {f : Int64 → Int64 → Int64} {pc pc' : Nat} {ls ls' : sm_L} {st st' : List Value} {h h' : sm_H} (hs : sm_binL f pc ls st h = some (.inl (pc', ls', st', h'))) : ∃ x y r, st = .long y :: .long x :: r ∧ pc' = pc + 1 ∧ ls' = ls ∧ st' = .long (f x y) :: r ∧ h' = h := by
  unfold sm_binL at hs
  split at hs
  · next y x r => simp [sm_nx] at hs; exact ⟨x, y, r, rfl, hs.1.symm, hs.2.1.symm, hs.2.2.1.symm, hs.2.2.2.symm⟩
  · cases hs
theorem sm_nx_inv {pc pc' : Nat} {ls ls' : sm_L} {st st' : List Value} {h h' : sm_H} (hs : sm_nx pc ls st h = some (.inl (pc', ls', st', h'))) : pc' = pc ∧ ls' = ls ∧ st' = st ∧ h' = h := by
  simp [sm_nx] at hs; exact ⟨hs.1.symm, hs.2.1.symm, hs.2.2.1.symm, hs.2.2.2.symm⟩
theorem sm_loadK_inv {k : Value → Bool} {n i pc pc' : Nat} {ls ls' : sm_L} {st st' : List Value} {h h' : sm_H} (hs : sm_loadK k n i pc ls st h = some (.inl (pc', ls', st', h'))) : ∃ v, sm_lget ls i = some v ∧ k v = true ∧ pc' = pc + n ∧ ls' = ls ∧ st' = v :: st ∧ h' = h := by
  unfold sm_loadK at hs
  split at hs
  · next v hv =>
    split at hs
    · next hk => exact ⟨v, hv, hk, sm_nx_inv hs⟩
    · cases hs
  · cases hs
theorem sm_store1_inv {k : Value → Bool} {n i pc pc' : Nat} {ls ls' : sm_L} {st st' : List Value} {h h' : sm_H} (hs : sm_store1 k n i pc ls st h = some (.inl (pc', ls', st', h'))) : ∃ v, st = v :: st' ∧ k v = true ∧ sm_put1 ls i v = some ls' ∧ pc' = pc + n ∧ h' = h := by
  unfold sm_store1 at hs
  split at hs
  · next v r =>
    split at hs
    · next hk =>
      cases hp : sm_put1 ls i v with
      | none => rw [hp] at hs; cases hs
      | some l2 =>
        rw [hp] at hs
        obtain ⟨rfl, rfl, rfl, rfl⟩ := sm_nx_inv hs
        exact ⟨v, rfl, hk, hp, rfl, rfl⟩
    · cases hs
  · cases hs
theorem sm_store2_inv {n i pc pc' : Nat} {ls ls' : sm_L} {st st' : List Value} {h h' : sm_H} (hs : sm_store2 n i pc ls st h = some (.inl (pc', ls', st', h'))) : ∃ v, st = .long v :: st' ∧ sm_put2 ls i (.long v) = some ls' ∧ pc' = pc + n ∧ h' = h := by
  unfold sm_store2 at hs
  split at hs
  · next v r =>
    cases hp : sm_put2 ls i (.long v) with
    | none => rw [hp] at hs; cases hs
    | some l2 =>
      rw [hp] at hs
      obtain ⟨rfl, rfl, rfl, rfl⟩ := sm_nx_inv hs
      exact ⟨v, rfl, hp, rfl, rfl⟩
  · cases hs
theorem sm_isI_inv {v : Value} (h : sm_isI v = true) : ∃ x, v = .int x := by cases v <;> simp [sm_isI] at h; exact ⟨_, rfl⟩
theorem sm_isL_inv {v : Value} (h : sm_isL v = true) : ∃ x, v = .long x := by cases v <;> simp [sm_isL] at h; exact ⟨_, rfl⟩
theorem sm_isA_inv {v : Value} (h : sm_isA v = true) : ∃ x, v = .ref x := by cases v <;> simp [sm_isA] at h; exact ⟨_, rfl⟩
theorem sm_jmp_ok {pc : Nat} {off : Int} (h : 0 ≤ (pc : Int) + off) : (pc : Int) + off = ((sm_jmp pc off : Nat) : Int) := (Int.toNat_of_nonneg h).symm
theorem sm_ald_inv {t pc pc' : Nat} {ls ls' : sm_L} {st st' : List Value} {h h' : sm_H} (hs : sm_ald t pc ls st h = some (.inl (pc', ls', st', h'))) : ∃ i a n f r, st = .int i :: .ref a :: r ∧ h[a]? = some (.inl (t, n, .inl f)) ∧ (sm_ix i n = true ∧ (sm_C ≤ a ∨ t = 0 ∨ t = 4)) ∧ pc' = pc + 1 ∧ ls' = ls ∧ st' = .int (f i.toNatClampNeg) :: r ∧ h' = h := by
  unfold sm_ald at hs
  split at hs
  · next i a r =>
    split at hs
    · next t' n f ha =>
      split at hs
      · next hc =>
        obtain ⟨rfl, hc2⟩ := hc
        exact ⟨i, a, n, f, r, rfl, ha, hc2, sm_nx_inv hs⟩
      · cases hs
    · cases hs
  · cases hs
theorem sm_ast_inv {t pc pc' : Nat} {g : Int32 → Int32} {ls ls' : sm_L} {st st' : List Value} {h h' : sm_H} (hs : sm_ast t g pc ls st h = some (.inl (pc', ls', st', h'))) : ∃ x i a n f, st = .int x :: .int i :: .ref a :: st' ∧ h[a]? = some (.inl (t, n, .inl f)) ∧ sm_ix i n = true ∧ sm_C ≤ a ∧ pc' = pc + 1 ∧ ls' = ls ∧ h' = h.set a (.inl (t, n, .inl (upd f i.toNatClampNeg (g x)))) := by
  unfold sm_ast at hs
  split at hs
  · next x i a r =>
    split at hs
    · next t' n f ha =>
      split at hs
      · next hc =>
        obtain ⟨rfl, hc2, hc3⟩ := hc
        obtain ⟨rfl, rfl, rfl, rfl⟩ := sm_nx_inv hs
        exact ⟨x, i, a, n, f, rfl, ha, hc2, hc3, rfl, rfl, rfl⟩
      · cases hs
    · cases hs
  · cases hs

/-- the name of a class number; the number behind the last one is String's -/
def sm_nm (cl : List vw_C) (ci : Nat) : Option String := if ci = cl.length then some "java/lang/String" else (cl[ci]?).map (fun r => r.1)
theorem sm_nm_of {cl : List vw_C} {ci : Nat} {r : vw_C} (h : cl[ci]? = some r) : sm_nm cl ci = some r.1 := by
  unfold sm_nm
  rw [if_neg (Nat.ne_of_lt (List.getElem?_eq_some_iff.mp h).1), h]
  rfl
/-- arrays and objects that were there before -/
def sm_OA (cl : List vw_C) (K : sm_H) (N0 : Nat) (cs : Nat → Nat) (U : State) : Prop := ∀ k, k < sm_C → cs k < N0 ∧
  (∀ t n f, K[k]? = some (.inl (t, n, f)) → ∃ (ty : FieldType) (cell : Cell) (f0 : Nat → Int32), f = .inl f0 ∧ sm_ty t = some ty ∧ U.heap[cs k]? = some cell ∧ U.isArrayOf cell ty ∧ cell.vm ≠ .unknown ∧ (n ≤ cell.slots.size ∧ cell.slots.size.toInt32 = Int32.ofNat n) ∧ ∀ j, j < n → cell.slots[j]? = some (.int (f0 j))) ∧
  (∀ ci fs, K[k]? = some (.inr (ci, fs)) → ∃ (C : String) (cell : Cell), sm_nm cl ci = some C ∧ U.heap[cs k]? = some cell ∧ cell.vm.isStatics = false ∧ U.vm.findClass C = some cell.cls)
theorem sm_OA.moved {cl : List vw_C} {K : sm_H} {N0 : Nat} {cs : Nat → Nat} {u U : State} (h : sm_OA cl K N0 cs u) (hvm : u.vm.Alike U.vm) (hF : ∀ q, q < N0 → U.heap[q]? = u.heap[q]?) : sm_OA cl K N0 cs U := fun k hk => by
  obtain ⟨h0, h1, h2⟩ := h k hk
  refine ⟨h0, fun t n f he => ?_, fun ci fs he => ?_⟩
  · obtain ⟨ty, cell, f0, q1, q2, q3, q4, q5⟩ := h1 t n f he
    exact ⟨ty, cell, f0, q1, q2, by rw [hF _ h0]; exact q3, State.isArrayOf_alike hvm q4, q5⟩
  · obtain ⟨r, cell, q1, q2, q3, q4⟩ := h2 ci fs he
    exact ⟨r, cell, q1, by rw [hF _ h0]; exact q2, q3, by rw [hvm.findClass]; exact q4⟩
/-- what was there before, and stays: text constants, statics, fields of constants -/
def sm_X (cl : List vw_C) (K : sm_H) (sx : List (String × Nat × String × Nat)) (zx : List (String × String × String × Nat)) (oc : (List (Nat × Nat × String × String × String × Value) × List (String × Nat × MethodName × String) × List MethodName)) (N0 : Nat) (cs : Nat → Nat) (U : State) : Prop :=
  (∀ q ∈ sx, vk_R q.1 q.2.1 q.2.2.1 (sm_ad N0 cs q.2.2.2) U) ∧ (∀ q ∈ zx, va_Z q.1 q.2.1 q.2.2.1 (.int (Int32.ofNat q.2.2.2)) (fun a => N0 ≤ a) U U.heap) ∧ (∀ q ∈ oc.1, va_OF q.2.2.1 q.2.2.2.1 q.2.2.2.2.1 (sm_mv (sm_ad N0 cs) q.2.2.2.2.2) (sm_ad N0 cs q.1) (fun a => N0 ≤ a) U U.heap) ∧ (∀ q ∈ oc.2.1, va_Nw (.methodLinkNest q.1 q.2.1 q.2.2.1 q.2.2.2) U) ∧ (sm_Zs N0 U ∧ ∀ x ∈ oc.2.2, va_Nw (.declares x) U) ∧ sm_OA cl K N0 cs U
section SMN
variable {p : Program} {l : Launch} {e : Env} {R : Room} {s : State} {m : MethodId} {args : Array Value} {below : List Frame} {meth : Method} {c : Code} {H : Heap} {locs : List Loc} {cells slots : Nat} {Q : State → Prop}
variable {cc : ByteArray} {D : va_G} {cl : List vw_C} {tys : List (ClassId × FieldType)} {N0 : Nat} {cs : Nat → Nat} {K h h' : sm_H} {Ts : List Cond} {sx : List (String × Nat × String × Nat)} {zx : List (String × String × String × Nat)} {oc : (List (Nat × Nat × String × String × String × Value) × List (String × Nat × MethodName × String) × List MethodName)} {own : String} {pc pc' : Nat} {ls ls' : sm_L} {LS : Array Slot} {st st' : List Value}
/-- an array's cell of a picture -/
theorem sm_cell {a t n : Nat} {f : (Nat → Int32) ⊕ (Nat → Int64) ⊕ (Nat → UInt32) ⊕ (Nat → UInt64) ⊕ (Nat → Option Nat)} (hP : sm_P D cl tys N0 cs K h H) (hC : sm_C ≤ a) (ha : h[a]? = some (.inl (t, n, f))) : H[sm_ad N0 cs a]? = some (vp_cell (tys.getD t (0, .int)).1 (n, f)) := hP.2.2.2 a _ hC ha
theorem sm_obj {a ci : Nat} {fs : List Value} (hP : sm_P D cl tys N0 cs K h H) (hC : sm_C ≤ a) (ha : h[a]? = some (.inr (ci, fs))) : va_at D cl (sm_ad N0 cs a, .inr (ci, fs.map (sm_mv (sm_ad N0 cs)))) H := hP.2.2.2 a _ hC ha
theorem sm_adN {a : Nat} (h : sm_C ≤ a) : N0 ≤ sm_ad N0 cs a := by rw [sm_ad_ge h]; exact Nat.le_add_right _ _
theorem sm_P1 {q : Nat × va_E} (h : va_at D cl q H) : va_P D cl [q] H := fun k x hx => by
  have hz : k < 1 := (List.getElem?_eq_some_iff.mp hx).1
  rw [show k = 0 by omega] at hx
  cases hx
  exact h
theorem sm_same {ref o n d : String} (hts : ∀ w ∈ Ts, w.before args s = true) (hsame : ref = o ∨ Cond.sameField ref o n d ∈ Ts) : ∀ x, s.fieldFound? o n d = some x → s.fieldFound? ref n d = some x := by
  rcases hsame with rfl | h
  · exact fun x h => h
  · exact fun x hx => u_same (hts _ h) x hx
/-- an array of ints, old or new -/
theorem sm_arr {a t n : Nat} {f : Nat → Int32} {ty : FieldType} (hP : sm_P D cl tys N0 cs K h H) (hO : sm_OA cl K N0 cs s) (hF : ∀ q, q < N0 → H[q]? = s.heap[q]?) (hK : va_K D cl tys s) (hT : sm_T tys) (ht : sm_ty t = some ty) (ha : h[a]? = some (.inl (t, n, .inl f))) :
    ∃ cell, H[sm_ad N0 cs a]? = some cell ∧ s.isArrayOf cell ty ∧ cell.vm ≠ .unknown ∧ n ≤ cell.slots.size ∧ ∀ j, j < n → cell.slots[j]? = some (.int (f j)) := by
  by_cases hC : a < sm_C
  · obtain ⟨h0, h1, -⟩ := hO a hC
    obtain ⟨ty', cell, f0, q1, q2, q3, q4, q5, q6, q7⟩ := h1 t n _ ((hP.2.2.1 a hC).2.symm.trans ha)
    cases q1
    cases ht.symm.trans q2
    exact ⟨cell, by rw [sm_ad_lt hC, hF _ h0]; exact q3, q4, q5, q6.1, q7⟩
  · have h1 := sm_cell hP (Nat.not_lt.mp hC) ha
    refine ⟨_, h1, (hK.2 t _ (sm_tys hT ht)).1 _ _, fun z => (by cases z), Nat.le_of_eq (arrV_size _ _ _).symm, fun j hj => arrV_read _ _ hj⟩
/-- an array's length, old -/
theorem sm_len {a t n : Nat} {f : (Nat → Int32) ⊕ (Nat → Int64) ⊕ (Nat → UInt32) ⊕ (Nat → UInt64) ⊕ (Nat → Option Nat)} {ty : FieldType} (hP : sm_P D cl tys N0 cs K h H) (hO : sm_OA cl K N0 cs s) (hF : ∀ q, q < N0 → H[q]? = s.heap[q]?) (ht : sm_ty t = some ty) (hC : a < sm_C) (ha : h[a]? = some (.inl (t, n, f))) :
    ∃ cell, H[sm_ad N0 cs a]? = some cell ∧ s.isArrayOf cell ty ∧ cell.slots.size.toInt32 = Int32.ofNat n := by
  obtain ⟨h0, h1, -⟩ := hO a hC
  obtain ⟨ty', cell, f0, q1, q2, q3, q4, q5, q6, q7⟩ := h1 t n _ ((hP.2.2.1 a hC).2.symm.trans ha)
  cases ht.symm.trans q2
  exact ⟨cell, by rw [sm_ad_lt hC, hF _ h0]; exact q3, q4, q6.2⟩
/-- the object of a call, old or new -/
theorem sm_recv {b ci : Nat} {fs : List Value} {C : String} (hP : sm_P D cl tys N0 cs K h H) (hO : sm_OA cl K N0 cs s) (hF : ∀ q, q < N0 → H[q]? = s.heap[q]?) (hK : va_K D cl tys s) (hb : h[b]? = some (.inr (ci, fs))) (hc : sm_nm cl ci = some C) :
    ∃ cell : Cell, H[sm_ad N0 cs b]? = some cell ∧ cell.vm.isStatics = false ∧ s.vm.findClass C = some cell.cls := by
  by_cases hC : b < sm_C
  · obtain ⟨h0, -, h2⟩ := hO b hC
    obtain ⟨r, cell, q1, q2, q3, q4⟩ := h2 ci fs ((hP.2.2.1 b hC).2.symm.trans hb)
    cases hc.symm.trans q1
    exact ⟨cell, by rw [sm_ad_lt hC, hF _ h0]; exact q2, q3, q4⟩
  · have h1 := sm_obj hP (Nat.not_lt.mp hC) hb
    obtain ⟨r, hr, -⟩ := id h1
    cases hc.symm.trans (sm_nm_of hr)
    exact va_recv hK (sm_P1 h1) (q0 := 0) hr rfl

set_option maxHeartbeats 16000000 in
set_option maxRecDepth 100000 in
theorem sm_next {i : Instr} {len : Nat} {rs : List Nat} (hexec : p.tables.exec = Jvm.exec) (hb : c.code = cc) (hts : ∀ w ∈ Ts, w.before args s = true) (hown : s.vm.findClass own = some m.cls) (hK : va_K D cl tys s) (hT : sm_T tys)
    (hX : sm_X cl K sx zx oc N0 cs s) (hF : ∀ q, q < N0 → H[q]? = s.heap[q]?) (hZ0 : s.heap.size ≤ H.size) (hok : sm_okI Ts sx zx oc K cl own meth.name pc i rs) (hlen : sm_lenOk i len = true) (hd : decode cc pc = .ok (i, len))
    (hP : sm_P D cl tys N0 cs K h H) (hL : sm_LR (sm_ad N0 cs) ls LS) (hlocs : ∀ x ∈ locs, N0 ≤ x.base) (hR1 : 2 ≤ R.frames ∧ 43 ≤ R.locals) (hml : c.maxLocals = ls.length)
    (hroom : cells + (h'.length - h.length) ≤ R.cells ∧ slots + (sm_sl h' - sm_sl h) ≤ R.slots) (hs : sm_step (i, len, rs) pc ls st h = some (.inl (pc', ls', st', h')))
    (kk : ∀ (H' : Heap) (locs' : List Loc) (LS' : Array Slot), sm_P D cl tys N0 cs K h' H' → sm_LR (sm_ad N0 cs) ls' LS' → (∀ q, q < N0 → H'[q]? = H[q]?) → (∀ x ∈ locs', N0 ≤ x.base) →
      W p l e R s m args below meth c H' locs' (cells + (h'.length - h.length)) (slots + (sm_sl h' - sm_sl h)) Q (F0 m pc' LS' (st'.map (sm_mv (sm_ad N0 cs))))) :
    W p l e R s m args below meth c H locs cells slots Q (F0 m pc LS (st.map (sm_mv (sm_ad N0 cs)))) := by
  have hSS : va_S (fun a => N0 ≤ a) s.heap H locs := ⟨hZ0, fun q _ h2 => hF q (Nat.not_le.mp h2), hlocs⟩
  have k0 : h' = h → ∀ LS' : Array Slot, sm_LR (sm_ad N0 cs) ls' LS' → W p l e R s m args below meth c H locs cells slots Q (F0 m pc' LS' (st'.map (sm_mv (sm_ad N0 cs)))) := by
    intro e1 LS' hLR
    subst e1
    have := kk H locs LS' hP hLR (fun _ _ => rfl) hlocs
    simpa using this
  cases i with
  | iadd =>
    simp only [sm_lenOk, beq_iff_eq] at hlen
    subst hlen
    obtain ⟨x, y, r, rfl, rfl, rfl, rfl, rfl⟩ := sm_bin_inv hs
    exact lv_iadd hexec hb hd (k0 rfl LS hL)
  | isub =>
    simp only [sm_lenOk, beq_iff_eq] at hlen
    subst hlen
    obtain ⟨x, y, r, rfl, rfl, rfl, rfl, rfl⟩ := sm_bin_inv hs
    exact lv_isub hexec hb hd (k0 rfl LS hL)
  | imul =>
    simp only [sm_lenOk, beq_iff_eq] at hlen
    subst hlen
    obtain ⟨x, y, r, rfl, rfl, rfl, rfl, rfl⟩ := sm_bin_inv hs
    exact lv_imul hexec hb hd (k0 rfl LS hL)
  | iand =>
    simp only [sm_lenOk, beq_iff_eq] at hlen
    subst hlen
    obtain ⟨x, y, r, rfl, rfl, rfl, rfl, rfl⟩ := sm_bin_inv hs
    exact lv_iand hexec hb hd (k0 rfl LS hL)
  | ior =>
    simp only [sm_lenOk, beq_iff_eq] at hlen
    subst hlen
    obtain ⟨x, y, r, rfl, rfl, rfl, rfl, rfl⟩ := sm_bin_inv hs
    exact lv_ior hexec hb hd (k0 rfl LS hL)
  | ixor =>
    simp only [sm_lenOk, beq_iff_eq] at hlen
    subst hlen
    obtain ⟨x, y, r, rfl, rfl, rfl, rfl, rfl⟩ := sm_bin_inv hs
    exact lv_ixor hexec hb hd (k0 rfl LS hL)
  | ishl =>
    simp only [sm_lenOk, beq_iff_eq] at hlen
    subst hlen
    obtain ⟨x, y, r, rfl, rfl, rfl, rfl, rfl⟩ := sm_bin_inv hs
    exact lv_ishl hexec hb hd (k0 rfl LS hL)
  | ishr =>
    simp only [sm_lenOk, beq_iff_eq] at hlen
    subst hlen
    obtain ⟨x, y, r, rfl, rfl, rfl, rfl, rfl⟩ := sm_bin_inv hs
    exact lv_ishr hexec hb hd (k0 rfl LS hL)
  | iushr =>
    simp only [sm_lenOk, beq_iff_eq] at hlen
    subst hlen
    obtain ⟨x, y, r, rfl, rfl, rfl, rfl, rfl⟩ := sm_bin_inv hs
    exact lv_iushr hexec hb hd rfl (k0 rfl LS hL)
  | ladd =>
    simp only [sm_lenOk, beq_iff_eq] at hlen
    subst hlen
    obtain ⟨x, y, r, rfl, rfl, rfl, rfl, rfl⟩ := sm_binL_inv hs
    exact lv_ladd hexec hb hd (k0 rfl LS hL)
  | lsub =>
    simp only [sm_lenOk, beq_iff_eq] at hlen
    subst hlen
    obtain ⟨x, y, r, rfl, rfl, rfl, rfl, rfl⟩ := sm_binL_inv hs
    exact lv_lsub hexec hb hd (k0 rfl LS hL)
  | lmul =>
    simp only [sm_lenOk, beq_iff_eq] at hlen
    subst hlen
    obtain ⟨x, y, r, rfl, rfl, rfl, rfl, rfl⟩ := sm_binL_inv hs
    exact lv_lmul hexec hb hd (k0 rfl LS hL)
  | land =>
    simp only [sm_lenOk, beq_iff_eq] at hlen
    subst hlen
    obtain ⟨x, y, r, rfl, rfl, rfl, rfl, rfl⟩ := sm_binL_inv hs
    exact lv_land hexec hb hd (k0 rfl LS hL)
  | lor =>
    simp only [sm_lenOk, beq_iff_eq] at hlen
    subst hlen
    obtain ⟨x, y, r, rfl, rfl, rfl, rfl, rfl⟩ := sm_binL_inv hs
    exact lv_lor hexec hb hd (k0 rfl LS hL)
  | lxor =>
    simp only [sm_lenOk, beq_iff_eq] at hlen
    subst hlen
    obtain ⟨x, y, r, rfl, rfl, rfl, rfl, rfl⟩ := sm_binL_inv hs
    exact lv_lxor hexec hb hd (k0 rfl LS hL)
  | iconst n =>
    simp only [sm_lenOk, beq_iff_eq] at hlen
    subst hlen
    obtain ⟨rfl, rfl, rfl, rfl⟩ := sm_nx_inv hs
    exact lv_iconst hexec hb hd rfl (k0 rfl LS hL)
  | bipush n =>
    simp only [sm_lenOk, beq_iff_eq] at hlen
    subst hlen
    obtain ⟨rfl, rfl, rfl, rfl⟩ := sm_nx_inv hs
    exact lv_bipush hexec hb hd rfl (k0 rfl LS hL)
  | sipush n =>
    simp only [sm_lenOk, beq_iff_eq] at hlen
    subst hlen
    obtain ⟨rfl, rfl, rfl, rfl⟩ := sm_nx_inv hs
    exact lv_sipush hexec hb hd rfl (k0 rfl LS hL)
  | lconst n =>
    simp only [sm_lenOk, beq_iff_eq] at hlen
    subst hlen
    obtain ⟨rfl, rfl, rfl, rfl⟩ := sm_nx_inv hs
    exact lv_lconst hexec hb hd rfl (k0 rfl LS hL)
  | aconst_null  =>
    simp only [sm_lenOk, beq_iff_eq] at hlen
    subst hlen
    obtain ⟨rfl, rfl, rfl, rfl⟩ := sm_nx_inv hs
    exact lv_null hexec hb hd (k0 rfl LS hL)
  | iload_n k =>
    simp only [sm_lenOk, beq_iff_eq] at hlen
    subst hlen
    obtain ⟨v, hv, hk, rfl, rfl, rfl, rfl⟩ := sm_loadK_inv hs
    obtain ⟨x, rfl⟩ := sm_isI_inv hk
    exact lv_iload_n hexec hb hd rfl (sm_lget_at hL hv) (k0 rfl LS hL)
  | iload k =>
    simp only [sm_lenOk, beq_iff_eq] at hlen
    subst hlen
    obtain ⟨v, hv, hk, rfl, rfl, rfl, rfl⟩ := sm_loadK_inv hs
    obtain ⟨x, rfl⟩ := sm_isI_inv hk
    exact lv_iload hexec hb hd (sm_lget_at hL hv) (k0 rfl LS hL)
  | lload_n k =>
    simp only [sm_lenOk, beq_iff_eq] at hlen
    subst hlen
    obtain ⟨v, hv, hk, rfl, rfl, rfl, rfl⟩ := sm_loadK_inv hs
    obtain ⟨x, rfl⟩ := sm_isL_inv hk
    exact lv_lload_n hexec hb hd rfl (sm_lget_at hL hv) (k0 rfl LS hL)
  | lload k =>
    simp only [sm_lenOk, beq_iff_eq] at hlen
    subst hlen
    obtain ⟨v, hv, hk, rfl, rfl, rfl, rfl⟩ := sm_loadK_inv hs
    obtain ⟨x, rfl⟩ := sm_isL_inv hk
    exact lv_lload hexec hb hd (sm_lget_at hL hv) (k0 rfl LS hL)
  | aload_n k =>
    simp only [sm_lenOk, beq_iff_eq] at hlen
    subst hlen
    obtain ⟨v, hv, hk, rfl, rfl, rfl, rfl⟩ := sm_loadK_inv hs
    obtain ⟨x, rfl⟩ := sm_isA_inv hk
    exact lv_aload_n hexec hb hd rfl (sm_lget_at hL hv) (k0 rfl LS hL)
  | aload k =>
    simp only [sm_lenOk, beq_iff_eq] at hlen
    subst hlen
    obtain ⟨v, hv, hk, rfl, rfl, rfl, rfl⟩ := sm_loadK_inv hs
    obtain ⟨x, rfl⟩ := sm_isA_inv hk
    exact lv_aload hexec hb hd (sm_lget_at hL hv) (k0 rfl LS hL)
  | istore_n k =>
    simp only [sm_lenOk, beq_iff_eq] at hlen
    subst hlen
    obtain ⟨v, rfl, hk, hp, rfl, rfl⟩ := sm_store1_inv hs
    obtain ⟨x, rfl⟩ := sm_isI_inv hk
    exact lv_istore_n hexec hb hd rfl hL.has (sm_put1_len hp).1 rfl (fun LS' hl => k0 rfl LS' (sm_LR.put1 (LS := LS) hp hl))
  | istore k =>
    simp only [sm_lenOk, beq_iff_eq] at hlen
    subst hlen
    obtain ⟨v, rfl, hk, hp, rfl, rfl⟩ := sm_store1_inv hs
    obtain ⟨x, rfl⟩ := sm_isI_inv hk
    exact lv_istore hexec hb hd hL.has (sm_put1_len hp).1 rfl (fun LS' hl => k0 rfl LS' (sm_LR.put1 (LS := LS) hp hl))
  | astore_n k =>
    simp only [sm_lenOk, beq_iff_eq] at hlen
    subst hlen
    obtain ⟨v, rfl, hk, hp, rfl, rfl⟩ := sm_store1_inv hs
    obtain ⟨x, rfl⟩ := sm_isA_inv hk
    exact lv_astore_n hexec hb hd rfl hL.has (sm_put1_len hp).1 rfl (fun LS' hl => k0 rfl LS' (sm_LR.put1 (LS := LS) hp hl))
  | astore k =>
    simp only [sm_lenOk, beq_iff_eq] at hlen
    subst hlen
    obtain ⟨v, rfl, hk, hp, rfl, rfl⟩ := sm_store1_inv hs
    obtain ⟨x, rfl⟩ := sm_isA_inv hk
    exact lv_astore hexec hb hd hL.has (sm_put1_len hp).1 rfl (fun LS' hl => k0 rfl LS' (sm_LR.put1 (LS := LS) hp hl))
  | lstore_n k =>
    simp only [sm_lenOk, beq_iff_eq] at hlen
    subst hlen
    obtain ⟨v, rfl, hp, rfl, rfl⟩ := sm_store2_inv hs
    exact lv_lstore_n hexec hb hd rfl hL.has (sm_put2_len hp).1 rfl (fun LS' hl => k0 rfl LS' (sm_LR.put2 (LS := LS) hp hl))
  | lstore k =>
    simp only [sm_lenOk, beq_iff_eq] at hlen
    subst hlen
    obtain ⟨v, rfl, hp, rfl, rfl⟩ := sm_store2_inv hs
    exact lv_lstore hexec hb hd hL.has (sm_put2_len hp).1 rfl (fun LS' hl => k0 rfl LS' (sm_LR.put2 (LS := LS) hp hl))
  | ineg =>
    simp only [sm_lenOk, beq_iff_eq] at hlen
    subst hlen
    simp only [sm_step] at hs
    split at hs
    · next x r =>
      obtain ⟨rfl, rfl, rfl, rfl⟩ := sm_nx_inv hs
      exact lv_ineg hexec hb hd (k0 rfl LS hL)
    · cases hs
  | i2l =>
    simp only [sm_lenOk, beq_iff_eq] at hlen
    subst hlen
    simp only [sm_step] at hs
    split at hs
    · next x r =>
      obtain ⟨rfl, rfl, rfl, rfl⟩ := sm_nx_inv hs
      exact lv_i2l hexec hb hd rfl (k0 rfl LS hL)
    · cases hs
  | l2i =>
    simp only [sm_lenOk, beq_iff_eq] at hlen
    subst hlen
    simp only [sm_step] at hs
    split at hs
    · next x r =>
      obtain ⟨rfl, rfl, rfl, rfl⟩ := sm_nx_inv hs
      exact lv_l2i hexec hb hd rfl (k0 rfl LS hL)
    · cases hs
  | i2c =>
    simp only [sm_lenOk, beq_iff_eq] at hlen
    subst hlen
    simp only [sm_step] at hs
    split at hs
    · next x r =>
      obtain ⟨rfl, rfl, rfl, rfl⟩ := sm_nx_inv hs
      exact lv_i2c hexec hb hd rfl (k0 rfl LS hL)
    · cases hs
  | i2b =>
    simp only [sm_lenOk, beq_iff_eq] at hlen
    subst hlen
    simp only [sm_step] at hs
    split at hs
    · next x r =>
      obtain ⟨rfl, rfl, rfl, rfl⟩ := sm_nx_inv hs
      exact lv_i2b hexec hb hd rfl (k0 rfl LS hL)
    · cases hs
  | lushr =>
    simp only [sm_lenOk, beq_iff_eq] at hlen
    subst hlen
    simp only [sm_step] at hs
    split at hs
    · next y x r =>
      obtain ⟨rfl, rfl, rfl, rfl⟩ := sm_nx_inv hs
      exact lv_lushr hexec hb hd rfl (k0 rfl LS hL)
    · cases hs
  | lshl =>
    simp only [sm_lenOk, beq_iff_eq] at hlen
    subst hlen
    simp only [sm_step] at hs
    split at hs
    · next y x r =>
      obtain ⟨rfl, rfl, rfl, rfl⟩ := sm_nx_inv hs
      exact lv_lshl hexec hb hd rfl (k0 rfl LS hL)
    · cases hs
  | lshr =>
    simp only [sm_lenOk, beq_iff_eq] at hlen
    subst hlen
    simp only [sm_step] at hs
    split at hs
    · next y x r =>
      obtain ⟨rfl, rfl, rfl, rfl⟩ := sm_nx_inv hs
      exact lv_lshr hexec hb hd rfl (k0 rfl LS hL)
    · cases hs
  | lcmp =>
    simp only [sm_lenOk, beq_iff_eq] at hlen
    subst hlen
    simp only [sm_step] at hs
    split at hs
    · next y x r =>
      obtain ⟨rfl, rfl, rfl, rfl⟩ := sm_nx_inv hs
      exact W.lcmp hexec hb hd (k0 rfl LS hL)
    · cases hs
  | idiv =>
    simp only [sm_lenOk, beq_iff_eq] at hlen
    subst hlen
    simp only [sm_step] at hs
    split at hs
    · next y x r =>
      split at hs
      · cases hs
      · next hne =>
        obtain ⟨rfl, rfl, rfl, rfl⟩ := sm_nx_inv hs
        exact lv_idiv hexec hb hd hne (k0 rfl LS hL)
    · cases hs
  | irem =>
    simp only [sm_lenOk, beq_iff_eq] at hlen
    subst hlen
    simp only [sm_step] at hs
    split at hs
    · next y x r =>
      split at hs
      · cases hs
      · next hne =>
        obtain ⟨rfl, rfl, rfl, rfl⟩ := sm_nx_inv hs
        exact lv_irem hexec hb hd hne (k0 rfl LS hL)
    · cases hs
  | ldiv =>
    simp only [sm_lenOk, beq_iff_eq] at hlen
    subst hlen
    simp only [sm_step] at hs
    split at hs
    · next y x r =>
      split at hs
      · cases hs
      · next hne =>
        obtain ⟨rfl, rfl, rfl, rfl⟩ := sm_nx_inv hs
        exact lv_ldiv hexec hb hd hne (k0 rfl LS hL)
    · cases hs
  | lrem =>
    simp only [sm_lenOk, beq_iff_eq] at hlen
    subst hlen
    simp only [sm_step] at hs
    split at hs
    · next y x r =>
      split at hs
      · cases hs
      · next hne =>
        obtain ⟨rfl, rfl, rfl, rfl⟩ := sm_nx_inv hs
        exact lv_lrem hexec hb hd hne (k0 rfl LS hL)
    · cases hs
  | dup =>
    simp only [sm_lenOk, beq_iff_eq] at hlen
    subst hlen
    simp only [sm_step] at hs
    split at hs
    · next v r =>
      split at hs
      · next hc =>
        obtain ⟨rfl, rfl, rfl, rfl⟩ := sm_nx_inv hs
        exact lv_dup hexec hb hd ((sm_cat _ _).trans hc) (k0 rfl LS hL)
      · cases hs
    · cases hs
  | pop =>
    simp only [sm_lenOk, beq_iff_eq] at hlen
    subst hlen
    simp only [sm_step] at hs
    split at hs
    · next v r =>
      split at hs
      · next hc =>
        obtain ⟨rfl, rfl, rfl, rfl⟩ := sm_nx_inv hs
        exact lv_pop hexec hb hd ((sm_cat _ _).trans hc) (k0 rfl LS hL)
      · cases hs
    · cases hs
  | dup_x1 =>
    simp only [sm_lenOk, beq_iff_eq] at hlen
    subst hlen
    simp only [sm_step] at hs
    split at hs
    · next v u r =>
      split at hs
      · next hc =>
        obtain ⟨rfl, rfl, rfl, rfl⟩ := sm_nx_inv hs
        exact lv_dup_x1 hexec hb hd ((sm_cat _ _).trans hc.1) ((sm_cat _ _).trans hc.2) (k0 rfl LS hL)
      · cases hs
    · cases hs
  | dup2 =>
    simp only [sm_lenOk, beq_iff_eq] at hlen
    subst hlen
    simp only [sm_step] at hs
    split at hs
    · obtain ⟨rfl, rfl, rfl, rfl⟩ := sm_nx_inv hs
      exact lv_dup2_2 hexec hb hd rfl (k0 rfl LS hL)
    · split at hs
      · next hc =>
        obtain ⟨rfl, rfl, rfl, rfl⟩ := sm_nx_inv hs
        exact lv_dup2_11 hexec hb hd ((sm_cat _ _).trans hc.1) ((sm_cat _ _).trans hc.2) (k0 rfl LS hL)
      · cases hs
    · cases hs
  | pop2 =>
    simp only [sm_lenOk, beq_iff_eq] at hlen
    subst hlen
    simp only [sm_step] at hs
    split at hs
    · obtain ⟨rfl, rfl, rfl, rfl⟩ := sm_nx_inv hs
      exact lv_pop2_2 hexec hb hd rfl (k0 rfl LS hL)
    · split at hs
      · next hc =>
        obtain ⟨rfl, rfl, rfl, rfl⟩ := sm_nx_inv hs
        exact lv_pop2_11 hexec hb hd ((sm_cat _ _).trans hc.1) ((sm_cat _ _).trans hc.2) (k0 rfl LS hL)
      · cases hs
    · cases hs
  | iinc k n =>
    simp only [sm_lenOk, beq_iff_eq] at hlen
    subst hlen
    simp only [sm_step] at hs
    split at hs
    · next x hx =>
      cases hp : sm_put1 ls k (.int (x + Int32.ofInt n)) with
      | none => rw [hp] at hs; cases hs
      | some l2 =>
        rw [hp] at hs
        obtain ⟨rfl, rfl, rfl, rfl⟩ := sm_nx_inv hs
        have hm : (k, Value.int x) ∈ sm_al (sm_ad N0 cs) ls := by
          refine sm_al_mem.mpr ⟨.int x, ?_, rfl⟩
          unfold sm_lget at hx
          split at hx
          · next w hw => cases hx; exact hw
          · cases hx
        obtain ⟨j, hj⟩ := List.getElem?_of_mem hm
        exact lv_iinc hexec hb hd hL.has hj rfl (sm_put1_len hp).1 rfl (fun LS' hl => k0 rfl LS' (sm_LR.put1 (LS := LS) hp hl))
    · cases hs
  | if_icmp cd off =>
    simp only [sm_lenOk, beq_iff_eq] at hlen
    subst hlen
    simp only [sm_step] at hs
    split at hs
    · next y x r =>
      obtain ⟨e1, rfl, rfl, rfl⟩ := sm_nx_inv hs
      have hk := k0 rfl LS hL
      rw [e1] at hk
      have ho : (pc : Int) + off = ((sm_jmp pc off : Nat) : Int) := sm_jmp_ok hok
      cases cd with
      | eq => exact lv_icmp_eq hexec hb hd ho (fun z => by simpa [sm_cmp, z] using hk) (fun z => by simpa [sm_cmp, z] using hk)
      | ne => exact lv_icmp_ne hexec hb hd ho (fun z => by simpa [sm_cmp, z] using hk) (fun z => by simpa [sm_cmp, z] using hk)
      | lt => exact lv_icmp_lt hexec hb hd ho (fun z => by simpa [sm_cmp, z] using hk) (fun z => by simpa [sm_cmp, z] using hk)
      | ge => exact lv_icmp_ge hexec hb hd ho (fun z => by simpa [sm_cmp, z] using hk) (fun z => by simpa [sm_cmp, z] using hk)
      | gt => exact lv_icmp_gt hexec hb hd ho (fun z => by simpa [sm_cmp, z] using hk) (fun z => by simpa [sm_cmp, z] using hk)
      | le => exact lv_icmp_le hexec hb hd ho (fun z => by simpa [sm_cmp, z] using hk) (fun z => by simpa [sm_cmp, z] using hk)
    · cases hs
  | ifCond cd off =>
    simp only [sm_lenOk, beq_iff_eq] at hlen
    subst hlen
    simp only [sm_step] at hs
    split at hs
    · next x r =>
      obtain ⟨e1, rfl, rfl, rfl⟩ := sm_nx_inv hs
      have hk := k0 rfl LS hL
      rw [e1] at hk
      have ho : (pc : Int) + off = ((sm_jmp pc off : Nat) : Int) := sm_jmp_ok hok
      cases cd with
      | eq => exact lv_if_eq hexec hb hd ho (fun z => by simpa [sm_cmp, z] using hk) (fun z => by simpa [sm_cmp, z] using hk)
      | ne => exact lv_if_ne hexec hb hd ho (fun z => by simpa [sm_cmp, z] using hk) (fun z => by simpa [sm_cmp, z] using hk)
      | lt => exact lv_if_lt hexec hb hd ho (fun z => by simpa [sm_cmp, z] using hk) (fun z => by simpa [sm_cmp, z] using hk)
      | ge => exact lv_if_ge hexec hb hd ho (fun z => by simpa [sm_cmp, z] using hk) (fun z => by simpa [sm_cmp, z] using hk)
      | gt => exact lv_if_gt hexec hb hd ho (fun z => by simpa [sm_cmp, z] using hk) (fun z => by simpa [sm_cmp, z] using hk)
      | le => exact lv_if_le hexec hb hd ho (fun z => by simpa [sm_cmp, z] using hk) (fun z => by simpa [sm_cmp, z] using hk)
    · cases hs
  | dup_x2 =>
    simp only [sm_lenOk, beq_iff_eq] at hlen
    subst hlen
    simp only [sm_step] at hs
    split at hs
    · next v u z r =>
      split at hs
      · next hc =>
        obtain ⟨rfl, rfl, rfl, rfl⟩ := sm_nx_inv hs
        exact lv_dup_x2 hexec hb hd ((sm_cat _ _).trans hc.1) ((sm_cat _ _).trans hc.2.1) ((sm_cat _ _).trans hc.2.2) (k0 rfl LS hL)
      · cases hs
    · cases hs
  | goto off =>
    simp only [sm_lenOk, beq_iff_eq] at hlen
    subst hlen
    obtain ⟨rfl, rfl, rfl, rfl⟩ := sm_nx_inv hs
    exact lv_goto hexec hb hd (sm_jmp_ok hok) (k0 rfl LS hL)
  | tableswitch dd lo hi offs =>
    simp only [sm_step] at hs
    split at hs
    · next x r =>
      split at hs
      · next hc =>
        obtain ⟨rfl, rfl, rfl, rfl⟩ := sm_nx_inv hs
        exact lv_tableOut hexec hb hd hc (sm_jmp_ok hok.1) (k0 rfl LS hL)
      · next hc =>
        split at hs
        · next off ho =>
          obtain ⟨rfl, rfl, rfl, rfl⟩ := sm_nx_inv hs
          have hm : off ∈ offs.toList := Array.mem_toList_iff.mpr (Array.mem_of_getElem? ho)
          exact lv_tableIn hexec hb hd (fun z => hc (Or.inl z)) (fun z => hc (Or.inr z)) ho (sm_jmp_ok (hok.2 off hm)) (k0 rfl LS hL)
        · cases hs
    · cases hs
  | arraylength =>
    simp only [sm_lenOk, beq_iff_eq] at hlen
    subst hlen
    simp only [sm_step] at hs
    split at hs
    · next a r =>
      split at hs
      · next t n f ha =>
        split at hs
        · next hc =>
          obtain ⟨rfl, rfl, rfl, rfl⟩ := sm_nx_inv hs
          obtain ⟨ty, hty⟩ := Option.isSome_iff_exists.mp hc
          by_cases hC : a < sm_C
          · obtain ⟨cell, q1, q2, q3⟩ := sm_len hP hX.2.2.2.2.2 hF hty hC ha
            exact W.alen hexec hb q1 q2 q3 rfl rfl hd (k0 rfl LS hL)
          have h1 := sm_cell hP (Nat.not_lt.mp hC) ha
          exact va_alen (D := D) (cl := cl) (ws := [(sm_ad N0 cs a, .inl ((tys.getD t (0, .int)).1, n, f))]) hexec hb hK (sm_P1 h1) 0 t rfl (sm_tys hT hty) rfl hd (k0 rfl LS hL)
        · cases hs
      · cases hs
    · cases hs
  | iaload =>
    simp only [sm_lenOk, beq_iff_eq] at hlen
    subst hlen
    obtain ⟨i, a, n, f, r, rfl, ha, ⟨hi, hC⟩, rfl, rfl, rfl, rfl⟩ := sm_ald_inv hs
    obtain ⟨cell, q1, q2, q3, q4, q5⟩ := sm_arr hP hX.2.2.2.2.2 hF hK hT (ty := .int) rfl ha
    have hin := sm_in hi
    exact W.iald hexec hb q1 q2 q3 (fun z => hin (z.imp id (fun w => Nat.le_trans q4 w))) (q5 _ (Nat.not_le.mp fun z => hin (Or.inr z))) rfl rfl hd (k0 rfl LS hL)
  | caload =>
    simp only [sm_lenOk, beq_iff_eq] at hlen
    subst hlen
    obtain ⟨i, a, n, f, r, rfl, ha, ⟨hi, hC⟩, rfl, rfl, rfl, rfl⟩ := sm_ald_inv hs
    have h1 := sm_cell hP (hC.resolve_right (by decide)) ha
    exact va_cald (D := D) (cl := cl) (ws := [(sm_ad N0 cs a, .inl ((tys.getD 2 (0, .int)).1, n, .inl f))]) hexec hb hK (sm_P1 h1) 0 2 rfl (sm_tys hT rfl) (sm_in hi) hd (k0 rfl LS hL)
  | baload =>
    simp only [sm_lenOk, beq_iff_eq] at hlen
    subst hlen
    simp only [sm_step] at hs
    split at hs
    · next r0 hr0 =>
      cases hs
      obtain ⟨i, a, n, f, r, rfl, ha, ⟨hi, hC⟩, rfl, rfl, rfl, rfl⟩ := sm_ald_inv hr0
      have h1 := sm_cell hP (hC.resolve_right (by decide)) ha
      exact va_zald (D := D) (cl := cl) (ws := [(sm_ad N0 cs a, .inl ((tys.getD 3 (0, .int)).1, n, .inl f))]) hexec hb hK (sm_P1 h1) 0 3 rfl (sm_tys hT rfl) (sm_in hi) hd (k0 rfl LS hL)
    · obtain ⟨i, a, n, f, r, rfl, ha, ⟨hi, hC⟩, rfl, rfl, rfl, rfl⟩ := sm_ald_inv hs
      obtain ⟨cell, q1, q2, q3, q4, q5⟩ := sm_arr hP hX.2.2.2.2.2 hF hK hT (ty := .byte) rfl ha
      have hin := sm_in hi
      exact W.bald hexec hb q1 q2 q3 (fun z => hin (z.imp id (fun w => Nat.le_trans q4 w))) (q5 _ (Nat.not_le.mp fun z => hin (Or.inr z))) rfl rfl hd (k0 rfl LS hL)
  | laload =>
    simp only [sm_lenOk, beq_iff_eq] at hlen
    subst hlen
    simp only [sm_step, sm_aldL] at hs
    split at hs
    · next i a r =>
      split at hs
      · next t' n f ha =>
        split at hs
        · next hc =>
          obtain ⟨rfl, hi, hC⟩ := hc
          obtain ⟨rfl, rfl, rfl, rfl⟩ := sm_nx_inv hs
          have h1 := sm_cell hP hC ha
          exact va_lald (D := D) (cl := cl) (ws := [(sm_ad N0 cs a, .inl ((tys.getD 1 (0, .int)).1, n, .inr (.inl f)))]) hexec hb hK (sm_P1 h1) 0 1 rfl (sm_tys hT rfl) (sm_in hi) hd (k0 rfl LS hL)
        · cases hs
      · cases hs
    · cases hs
  | iastore =>
    simp only [sm_lenOk, beq_iff_eq] at hlen
    subst hlen
    obtain ⟨x, i, a, n, f, rfl, ha, hi, hC, rfl, rfl, rfl⟩ := sm_ast_inv hs
    have h1 := sm_cell hP hC ha
    have hin := sm_in hi
    refine W.iast hexec hb h1 ((hK.2 0 _ (sm_tys hT rfl)).1 n (fun j => .int (f j))) (fun z => by cases z) (by show ¬ (i < 0 ∨ (arrV _ _ _).slots.size ≤ _); rw [arrV_size]; exact hin) rfl rfl hd fun H1 e1 z o => ?_
    have hP1 := hP.put (H1 := H1) (e1 := .inl (0, n, .inl (upd f i.toNatClampNeg x))) ha hC (by show H1[sm_ad N0 cs a]? = some (vp_cell _ _); rw [e1]; exact congrArg some (sm_upd_i _ _ _ _ _)) z o
    have e2 : (h.set a (.inl (0, n, .inl (upd f i.toNatClampNeg x)))).length - h.length = 0 := by rw [List.length_set]; omega
    have e3 := sm_sl_set (e := .inl (0, n, .inl f)) (e' := .inl (0, n, .inl (upd f i.toNatClampNeg x))) rfl h a ha
    have := kk H1 (locs ++ [⟨sm_ad N0 cs a, i.toNatClampNeg⟩]) LS hP1 hL (fun q hq => o q (Nat.ne_of_lt (Nat.lt_of_lt_of_le hq (sm_adN hC)))) (fun x hx => (List.mem_append.mp hx).elim (hlocs x) (fun hx => by rw [List.mem_singleton.mp hx]; exact sm_adN hC))
    rw [e2, e3, Nat.sub_self] at this
    exact this
  | castore =>
    simp only [sm_lenOk, beq_iff_eq] at hlen
    subst hlen
    obtain ⟨x, i, a, n, f, rfl, ha, hi, hC, rfl, rfl, rfl⟩ := sm_ast_inv hs
    have h1 := sm_cell hP hC ha
    have hin := sm_in hi
    refine W.cast hexec hb h1 ((hK.2 2 _ (sm_tys hT rfl)).1 n (fun j => .int (f j))) (fun z => by cases z) (by show ¬ (i < 0 ∨ (arrV _ _ _).slots.size ≤ _); rw [arrV_size]; exact hin) rfl rfl hd fun H1 e1 z o => ?_
    have hP1 := hP.put (H1 := H1) (e1 := .inl (2, n, .inl (upd f i.toNatClampNeg (sm_chr x)))) ha hC (by show H1[sm_ad N0 cs a]? = some (vp_cell _ _); rw [e1]; rw [sm_nchr]; exact congrArg some (sm_upd_i _ _ _ _ _)) z o
    have e2 : (h.set a (.inl (2, n, .inl (upd f i.toNatClampNeg (sm_chr x))))).length - h.length = 0 := by rw [List.length_set]; omega
    have e3 := sm_sl_set (e := .inl (2, n, .inl f)) (e' := .inl (2, n, .inl (upd f i.toNatClampNeg (sm_chr x)))) rfl h a ha
    have := kk H1 (locs ++ [⟨sm_ad N0 cs a, i.toNatClampNeg⟩]) LS hP1 hL (fun q hq => o q (Nat.ne_of_lt (Nat.lt_of_lt_of_le hq (sm_adN hC)))) (fun x hx => (List.mem_append.mp hx).elim (hlocs x) (fun hx => by rw [List.mem_singleton.mp hx]; exact sm_adN hC))
    rw [e2, e3, Nat.sub_self] at this
    exact this
  | bastore =>
    simp only [sm_lenOk, beq_iff_eq] at hlen
    subst hlen
    obtain ⟨x, i, a, n, f, rfl, ha, hi, hC, rfl, rfl, rfl⟩ := sm_ast_inv hs
    have h1 := sm_cell hP hC ha
    have hin := sm_in hi
    refine W.zast hexec hb h1 ((hK.2 3 _ (sm_tys hT rfl)).1 n (fun j => .int (f j))) (fun z => by cases z) (by show ¬ (i < 0 ∨ (arrV _ _ _).slots.size ≤ _); rw [arrV_size]; exact hin) rfl rfl hd fun H1 e1 z o => ?_
    have hP1 := hP.put (H1 := H1) (e1 := .inl (3, n, .inl (upd f i.toNatClampNeg (x &&& 1)))) ha hC (by show H1[sm_ad N0 cs a]? = some (vp_cell _ _); rw [e1]; exact congrArg some (sm_upd_i _ _ _ _ _)) z o
    have e2 : (h.set a (.inl (3, n, .inl (upd f i.toNatClampNeg (x &&& 1))))).length - h.length = 0 := by rw [List.length_set]; omega
    have e3 := sm_sl_set (e := .inl (3, n, .inl f)) (e' := .inl (3, n, .inl (upd f i.toNatClampNeg (x &&& 1)))) rfl h a ha
    have := kk H1 (locs ++ [⟨sm_ad N0 cs a, i.toNatClampNeg⟩]) LS hP1 hL (fun q hq => o q (Nat.ne_of_lt (Nat.lt_of_lt_of_le hq (sm_adN hC)))) (fun x hx => (List.mem_append.mp hx).elim (hlocs x) (fun hx => by rw [List.mem_singleton.mp hx]; exact sm_adN hC))
    rw [e2, e3, Nat.sub_self] at this
    exact this
  | lastore =>
    simp only [sm_lenOk, beq_iff_eq] at hlen
    subst hlen
    simp only [sm_step, sm_astL] at hs
    split at hs
    · next x i a r =>
      split at hs
      · next t' n f ha =>
        split at hs
        · next hc =>
          obtain ⟨rfl, hi, hC⟩ := hc
          obtain ⟨rfl, rfl, rfl, rfl⟩ := sm_nx_inv hs
          have h1 := sm_cell hP hC ha
          have hin := sm_in hi
          refine W.last hexec hb h1 ((hK.2 1 _ (sm_tys hT rfl)).1 n (fun j => .long (f j))) (fun z => by cases z) (by show ¬ (i < 0 ∨ (arrV _ _ _).slots.size ≤ _); rw [arrV_size]; exact hin) rfl rfl hd fun H1 e1 z o => ?_
          have hP1 := hP.put (H1 := H1) (e1 := .inl (1, n, .inr (.inl (vp_updL f i.toNatClampNeg x)))) ha hC (by show H1[sm_ad N0 cs a]? = some (vp_cell _ _); rw [e1]; exact congrArg some (sm_upd_l _ _ _ _ _)) z o
          have e2 : (h.set a (.inl (1, n, .inr (.inl (vp_updL f i.toNatClampNeg x))))).length - h.length = 0 := by rw [List.length_set]; omega
          have e3 := sm_sl_set (e := .inl (1, n, .inr (.inl f))) (e' := .inl (1, n, .inr (.inl (vp_updL f i.toNatClampNeg x)))) rfl h a ha
          have := kk H1 (locs ++ [⟨sm_ad N0 cs a, i.toNatClampNeg⟩]) LS hP1 hL (fun q hq => o q (Nat.ne_of_lt (Nat.lt_of_lt_of_le hq (sm_adN hC)))) (fun x hx => (List.mem_append.mp hx).elim (hlocs x) (fun hx => by rw [List.mem_singleton.mp hx]; exact sm_adN hC))
          rw [e2, e3, Nat.sub_self] at this
          exact this
        · cases hs
      · cases hs
    · cases hs
  | getstatic idx =>
    simp only [sm_lenOk, beq_iff_eq] at hlen
    subst hlen
    simp only [sm_step] at hs
    split at hs
    · next n =>
      obtain ⟨rfl, rfl, rfl, rfl⟩ := sm_nx_inv hs
      obtain ⟨C, nm, dd, ref, g1, g2, g3⟩ := hok
      exact va_gets hexec hb (hX.2.1 _ g1) hSS hown (hts _ g2) (sm_same hts g3) hd (k0 rfl LS hL)
    · cases hs
  | getfield idx =>
    simp only [sm_lenOk, beq_iff_eq] at hlen
    subst hlen
    simp only [sm_step, sm_getf] at hs
    split at hs
    · next a r k z cs' =>
      split at hs
      · next ci fs ha =>
        split at hs
        · next hc =>
          obtain ⟨hc, hz⟩ := hc
          split at hs
          · next v hv =>
            obtain ⟨rfl, rfl, rfl, rfl⟩ := sm_nx_inv hs
            match z, hok, hz with
            | 0, hok, hz =>
              obtain ⟨C, T, N, ref, g1, g2, g3, g4, g5⟩ := hok ci hc
              have h1 := sm_obj hP (hz.elim (fun w => w.2) (fun w => absurd rfl w.1)) ha
              exact va_get (D := D) (cl := cl) (ws := [(sm_ad N0 cs a, .inr (ci, fs.map (sm_mv (sm_ad N0 cs))))]) hexec hb hts g3 hown hK (sm_P1 h1) 0 rfl g1 k g2 (hts _ g4) (sm_same hts g5) (v := sm_mv (sm_ad N0 cs) v) (by rw [List.getElem?_map, hv]; rfl) hd (k0 rfl LS hL)
            | 1, hok, hz =>
              have hz : a < sm_C := hz.elim (fun w => absurd w.1 (by decide)) (fun w => w.2)
              obtain ⟨o, nm, dd, ref, g1, g2, g3⟩ := hok ci hc a fs v hz ((hP.2.2.1 a hz).2.symm.trans ha) hv
              exact vk_getf hexec hb (hX.2.2.1 _ g1) hSS hown (hts _ g2) (sm_same hts g3) hd (k0 rfl LS hL)
            | z + 2, hok, hz => exact hok.elim
          · cases hs
        · cases hs
      · cases hs
    · cases hs
  | putfield idx =>
    simp only [sm_lenOk, beq_iff_eq] at hlen
    subst hlen
    simp only [sm_step, sm_putf] at hs
    split at hs
    · next v a r k t fin cs' =>
      split at hs
      · next ci fs ha =>
        split at hs
        · next hc =>
          obtain ⟨hc1, hc2, hc3, hC⟩ := hc
          obtain ⟨rfl, rfl, rfl, rfl⟩ := sm_nx_inv hs
          obtain ⟨C, T, N, ref, ty0, g1, g2, g3, g4, g5, g6, g7, g8, g9⟩ := hok ci hc1
          have h1 := sm_obj hP hC ha
          obtain ⟨f1, f2⟩ := sm_fit_ok (ad := sm_ad N0 cs) hc3 g9
          refine sm_Wput hexec hb hts g3 ty0 g6 g7 hown hK h1 g1 k g2 (hts _ g4) (sm_same hts g5) g8 f1 f2 (by rw [List.length_map]; exact hc2) hd fun H1 j e1 z o => ?_
          have hP1 := hP.put (H1 := H1) (e1 := .inr (ci, fs.set k v)) ha hC (by show va_at D cl (sm_ad N0 cs a, .inr (ci, (fs.set k v).map (sm_mv (sm_ad N0 cs)))) H1; rw [List.map_set]; exact e1) z o
          have e2 : (h.set a (.inr (ci, fs.set k v))).length - h.length = 0 := by rw [List.length_set]; omega
          have e3 := sm_sl_set (e := .inr (ci, fs)) (e' := .inr (ci, fs.set k v)) (by simp [sm_sz]) h a ha
          have := kk H1 (locs ++ [⟨sm_ad N0 cs a, j⟩]) LS hP1 hL (fun q hq => o q (Nat.ne_of_lt (Nat.lt_of_lt_of_le hq (sm_adN hC)))) (fun x hx => (List.mem_append.mp hx).elim (hlocs x) (fun hx => by rw [List.mem_singleton.mp hx]; exact sm_adN hC))
          rw [e2, e3, Nat.sub_self] at this
          exact this
        · cases hs
      · cases hs
    · cases hs
  | new idx =>
    simp only [sm_lenOk, beq_iff_eq] at hlen
    subst hlen
    simp only [sm_step, sm_newo] at hs
    split at hs
    · next ci ts =>
      split at hs
      · cases hs
      · next hc1000 =>
        obtain ⟨rfl, rfl, rfl, rfl⟩ := sm_nx_inv hs
        have hok2 : ∃ (C : String) (T : u_T) (N : Nat) (ty0 : Nat → FieldType), cl[ci]? = some (C, T, N) ∧ (∀ w ∈ u_ws C T N, w ∈ Ts) ∧ (∀ k, k < N → parseFieldDescriptor (T k).2.2.1 = some (ty0 k)) ∧ Cond.classLink own idx C ∈ Ts ∧ Cond.instantiable C N ∈ Ts ∧ Cond.initialized C ∈ Ts ∧ ts.length = N ∧ ∀ j, j < N → defaultValue (ty0 j) = sm_dflt (ts.getD j 0) := by
          unfold sm_okI at hok
          split at hok <;> first | (rename_i hz; cases hz; done) | (simp_all; done) | simp_all
        obtain ⟨C, T, N, ty0, g1, g2, g3, g4, g5, g6, g7, g8⟩ := hok2
        have hKn := hK.1 ci _ g1
        have e2 : (h ++ [(.inr (ci, ts.map sm_dflt) : sm_E)]).length - h.length = 1 := by simp
        have e3 : sm_sl (h ++ [(.inr (ci, ts.map sm_dflt) : sm_E)]) - sm_sl h = N := by rw [sm_sl_app]; simp [sm_sz, g7]
        rw [e2, e3] at hroom
        refine W.newcK hexec hb hown (hts _ g4) (hts _ g5) (hts _ g6) rfl hd hroom.1 hroom.2 hKn.2.1 rfl fun H1 kC hkC e1 z o => ?_
        have hfs : ∀ j, j < N → defaultValue (ty0 j) = vp_V ((ts.map sm_dflt).map (sm_mv (sm_ad N0 cs))) j := fun j hj => by
          rw [g8 j hj]
          have hj2 : j < ts.length := by omega
          unfold vp_V
          rw [List.getD_eq_getElem?_getD, List.getD_eq_getElem?_getD, List.getElem?_map, List.getElem?_map, List.getElem?_eq_getElem hj2]
          show sm_dflt ts[j] = sm_mv _ (sm_dflt ts[j])
          unfold sm_dflt
          split <;> rfl
        have hP1 := hP.make (H1 := H1) (e1 := .inr (ci, ts.map sm_dflt)) ⟨_, g1, (u_born ty0 hts g2 hKn hkC e1 g3).to hfs⟩ z o
        have := kk H1 locs LS hP1 hL (fun q hq => o q (Nat.lt_of_lt_of_le hq (by have h1 := hP.1; have h2 := hP.2.1; omega))) hlocs
        rw [e2, e3] at this
        have e4 := sm_top hP
        rw [e4]
        exact this
    · cases hs
  | newarray at' =>
    simp only [sm_lenOk, beq_iff_eq] at hlen
    subst hlen
    simp only [sm_step, sm_newa] at hs
    split at hs
    · next n r t =>
      split at hs
      · next hc =>
        obtain ⟨hc1, hc2⟩ := hc
        obtain ⟨rfl, rfl, rfl, rfl⟩ := sm_nx_inv hs
        obtain ⟨g1, g2⟩ := hok
        have e2 : ∀ E : sm_E, (h ++ [E]).length - h.length = 1 := by simp
        have e3 : ∀ x, sm_sl (h ++ [(.inl (t, n.toNatClampNeg, x) : sm_E)]) - sm_sl h = n.toNatClampNeg := fun x => by rw [sm_sl_app]; simp [sm_sz]
        rw [e2, e3] at hroom
        have hby : n.toNatClampNeg * componentBytes (newarray.typeOf at') ≤ 536870912 := by
          have : componentBytes (newarray.typeOf at') ≤ 8 := by cases at' <;> decide
          calc _ ≤ 65536 * 8 := Nat.mul_le_mul hc2 this
            _ ≤ _ := by decide
        refine va_newaK hexec hb (hts _ g2) rfl hd rfl hc1 rfl hby hroom.1 hroom.2 rfl fun H1 cA e1 z o hAr hNm => ?_
        have hcA : (tys.getD t (0, .int)).1 = cA := by
          have h1 := sm_tys hT g1
          have h2 := (hK.2 t _ h1).2
          have h3 : s.vm.findClass ("[" ++ (newarray.typeOf at').toString) = some (tys.getD t (0, .int)).1 := by cases at' <;> exact h2
          exact Option.some.inj (h3.symm.trans hNm)
        have hat : va_at D cl (H.size, sm_me (sm_ad N0 cs) tys (.inl (t, n.toNatClampNeg, if t = 1 then .inr (.inl (fun _ => 0)) else .inl (fun _ => 0)))) H1 := by
          show H1[H.size]? = some (vp_cell (tys.getD t (0, .int)).1 _)
          rw [hcA, e1]
          congr 1
          unfold sm_ty at g1
          split at g1
          · cases at' <;> cases g1; rfl
          · cases at' <;> cases g1; rfl
          · cases at' <;> cases g1; rfl
          · cases at' <;> cases g1; rfl
          · cases at' <;> cases g1; rfl
          · cases g1
        have hP1 := hP.make (H1 := H1) hat z o
        have := kk H1 locs LS hP1 hL (fun q hq => o q (Nat.lt_of_lt_of_le hq (by have h1 := hP.1; have h2 := hP.2.1; omega))) hlocs
        rw [e2, e3] at this
        have e4 := sm_top hP
        rw [e4]
        exact this
      · cases hs
    · cases hs
  | ldc idx =>
    simp only [sm_lenOk, beq_iff_eq] at hlen
    subst hlen
    simp only [sm_step] at hs
    split at hs
    · next n =>
      obtain ⟨rfl, rfl, rfl, rfl⟩ := sm_nx_inv hs
      exact lv_ldc hexec hb hown (hts _ hok) hd (k0 rfl LS hL)
    · next n =>
      obtain ⟨rfl, rfl, rfl, rfl⟩ := sm_nx_inv hs
      obtain ⟨tx, hm⟩ := hok
      exact va_ldcS hexec hb hown (hX.1 _ hm) hd (k0 rfl LS hL)
    · cases hs
  | ldc_w idx =>
    simp only [sm_lenOk, beq_iff_eq] at hlen
    subst hlen
    simp only [sm_step] at hs
    split at hs
    · next n =>
      obtain ⟨rfl, rfl, rfl, rfl⟩ := sm_nx_inv hs
      exact lv_ldcw hexec hb hown (hts _ hok) hd (k0 rfl LS hL)
    · cases hs
  | ldc2_w idx =>
    simp only [sm_lenOk, beq_iff_eq] at hlen
    subst hlen
    simp only [sm_step] at hs
    split at hs
    · next n =>
      obtain ⟨rfl, rfl, rfl, rfl⟩ := sm_nx_inv hs
      exact lv_ldc2 hexec hb hown (hts _ hok) hd (k0 rfl LS hL)
    · cases hs
  | ireturn =>
    simp only [sm_step] at hs
    split at hs
    · simp [sm_ret] at hs
    · cases hs
  | lreturn =>
    simp only [sm_step] at hs
    split at hs
    · simp [sm_ret] at hs
    · cases hs
  | areturn =>
    simp only [sm_step] at hs
    split at hs
    · simp [sm_ret] at hs
    · cases hs
  | return_ =>
    simp only [sm_step] at hs
    split at hs
    · simp [sm_ret] at hs
    · cases hs
  | invokestatic idx =>
    simp only [sm_lenOk, beq_iff_eq] at hlen
    subst hlen
    simp only [sm_step] at hs
    split at hs
    · next k0' k1 =>
      split at hs
      · next y x r =>
        split at hs
        · next hc =>
          obtain ⟨rfl, rfl, rfl, rfl⟩ := sm_nx_inv hs
          have hc2 : ((r.map (sm_mv (sm_ad N0 cs))).map fun v => v.category).sum ≤ 8 := by
            rw [List.map_map, show ((fun v : Value => v.category) ∘ sm_mv (sm_ad N0 cs)) = fun v : Value => v.category from funext fun v => sm_cat _ v]
            exact hc
          have hkk := k0 rfl LS hL
          rcases hok with ⟨rfl, g1, g2, g3, g4⟩ | ⟨rfl, g1, g2, g3, g4⟩
          · exact va_mmax hexec hb (by rw [hml]; exact hL.1.symm) hown (hts _ g1) (hts _ g2) (hts _ g3) (hts _ g4) (by omega) (by omega) (by omega) (by omega) hd (by simpa [sm_mv] using hkk)
          · exact va_mmin hexec hb (by rw [hml]; exact hL.1.symm) hown (hts _ g1) (hts _ g2) (hts _ g3) (hts _ g4) (by omega) (by omega) (by omega) (by omega) hd (by simpa [sm_mv] using hkk)
        · cases hs
      · cases hs
    · next k0' k1 k2 k3 =>
      split at hs
      · next n x r =>
        split at hs
        · next hc =>
          obtain ⟨rfl, rfl, rfl, rfl⟩ := sm_nx_inv hs
          obtain ⟨hc0, hc1, hc⟩ := hc
          have hc2 : ((st'.map (sm_mv (sm_ad N0 cs))).map fun v => v.category).sum ≤ 8 := by
            rw [List.map_map, show ((fun v : Value => v.category) ∘ sm_mv (sm_ad N0 cs)) = fun v : Value => v.category from funext fun v => sm_cat _ v]
            exact hc
          obtain ⟨g1, g2, g3, g4⟩ := hok
          exact sm_chk hexec hb (by rw [hml]; exact hL.1.symm) hown hts g1 g2 g3 g4 hX.2.2.2.2.1.1 hF hR1 (by omega) (by omega) hc0 hc1 hc2 hd (k0 rfl LS hL)
        · cases hs
      · cases hs
    · simp only [sm_callS] at hs
      split at hs
      · split at hs
        · simp [sm_call] at hs
        · cases hs
      · cases hs
  | invokespecial idx =>
    simp only [sm_lenOk, beq_iff_eq] at hlen
    subst hlen
    simp only [sm_step] at hs
    split at hs
    · next k1 =>
      split at hs
      · next a r =>
        split at hs
        · next hc =>
          obtain ⟨rfl, rfl, rfl, rfl⟩ := sm_nx_inv hs
          obtain ⟨g1, g2, g3⟩ := hok
          have hc2 : ((st'.map (sm_mv (sm_ad N0 cs))).map fun v => v.category).sum ≤ 8 := by
            rw [List.map_map, show ((fun v : Value => v.category) ∘ sm_mv (sm_ad N0 cs)) = fun v : Value => v.category from funext fun v => sm_cat _ v]
            exact hc
          exact W.objInit hexec hb hown (hts _ g1) (hts _ g2) (hts _ g3) rfl (by rw [hml]; exact hL.1) rfl hd (by omega) (by show 2 * 0 + _ + 12 ≤ _; omega) (k0 rfl LS hL)
        · cases hs
      · cases hs
    · simp only [sm_callI] at hs
      split at hs
      · split at hs
        · simp [sm_call] at hs
        · cases hs
      · cases hs
  | invokevirtual idx =>
    simp only [sm_step, sm_callV] at hs
    split at hs
    · split at hs
      · split at hs
        · split at hs
          · simp [sm_call] at hs
          · cases hs
        · cases hs
      · cases hs
    · cases hs
  | _ => simp [sm_step] at hs
end SMN
