/-! one step -/
section MIP
variable {sk : ab_K} {h : sm_H} {pc : Nat} {ls : mi_L} {st : List mi_V} {O : List mi_U}
theorem mi_raw_ok {q : sm_I} {b : Nat} {R : mi_R} {f : Int32 → Int32 → Int32} (hs : mi_raw f pc ls st O = some R) (hl : mi_okL ls) (hst : mi_okS st) (hO : mi_okO O) (hm : ∀ x y r, mo_step sk q pc (mi_cl ls) (.int y :: .int x :: r) h (O.map mi_cU) b = some (pc + 1, mi_cl ls, .int (f x y) :: r, O.map mi_cU, [])) : mi_good sk q pc ls st h O b R := by
  unfold mi_raw at hs
  split at hs
  · next y x r =>
    cases hs
    refine ⟨⟨[], ?_, fun p hp => mi_none hp⟩, hl, mi_okS_cons (mi_inT _) (mi_okS_tl (mi_okS_tl hst)), hO⟩
    dsimp only
    rw [List.map_cons, List.map_cons, List.map_cons, mi_cT]
    exact hm _ _ _
  · cases hs
theorem mi_binL_ok {q : sm_I} {b : Nat} {R : mi_R} {f : Int64 → Int64 → Int64} (hs : mi_binL f pc ls st O = some R) (hl : mi_okL ls) (hst : mi_okS st) (hO : mi_okO O) (hm : ∀ x y r, mo_step sk q pc (mi_cl ls) (.long y :: .long x :: r) h (O.map mi_cU) b = some (pc + 1, mi_cl ls, .long (f x y) :: r, O.map mi_cU, [])) : mi_good sk q pc ls st h O b R := by
  unfold mi_binL at hs
  split at hs
  · next y x r =>
    cases hs
    exact ⟨⟨[], hm _ _ _, fun p hp => mi_none hp⟩, hl, mi_okS_cons trivial (mi_okS_tl (mi_okS_tl hst)), hO⟩
  · cases hs
theorem mi_shL_ok {q : sm_I} {b : Nat} {R : mi_R} {f : Int64 → Int32 → Int64} (hs : mi_shL f pc ls st O = some R) (hl : mi_okL ls) (hst : mi_okS st) (hO : mi_okO O) (hm : ∀ x y r, mo_step sk q pc (mi_cl ls) (.int y :: .long x :: r) h (O.map mi_cU) b = some (pc + 1, mi_cl ls, .long (f x y) :: r, O.map mi_cU, [])) : mi_good sk q pc ls st h O b R := by
  unfold mi_shL at hs
  split at hs
  · next y x r =>
    cases hs
    exact ⟨⟨[], hm _ _ _, fun p hp => mi_none hp⟩, hl, mi_okS_cons trivial (mi_okS_tl (mi_okS_tl hst)), hO⟩
  · cases hs
theorem mi_ald_ok {q : sm_I} {b : Nat} {R : mi_R} {t0 : Nat} (hs : mi_ald t0 sk pc ls st h O = some R) (hl : mi_okL ls) (hst : mi_okS st) (hO : mi_okO O) (ho : ∀ p ∈ R.2.2.2.2, p) (hm : ∀ (x : Int32) (a n : Nat) (lo hi : Int) (r : List Value), mo_ak sk a = some (t0, n, lo, hi) → mo_step sk q pc (mi_cl ls) (.int x :: .ref a :: r) h (O.map mi_cU) b = some (pc + 1, mi_cl ls, .int (mx_ra (O.map mi_cU) a x.toNatClampNeg h) :: r, O.map mi_cU, [0 ≤ x.toInt ∧ x.toInt < (n : Int)])) : mi_good sk q pc ls st h O b R := by
  unfold mi_ald at hs
  split at hs
  · next x a r =>
    split at hs
    · next t n lo hi hak =>
      split at hs
      · next ht =>
        cases hs
        subst ht
        have hx : mi_in x := mi_okS_hd hst
        have h1 := ho _ List.mem_cons_self
        refine ⟨⟨[0 ≤ (Int32.ofInt x).toInt ∧ (Int32.ofInt x).toInt < (n : Int)], ?_, ?_⟩, hl, mi_okS_cons (mi_ra_in _ _ O hO) (mi_okS_tl (mi_okS_tl hst)), hO⟩
        · have := hm (Int32.ofInt x) a n lo hi (r.map mi_c) hak
          rw [mi_ra_eq, mi_tn hx] at this
          exact this
        · intro p hp
          rw [List.mem_singleton.mp hp, mi_ti hx]
          exact h1
      · cases hs
    · cases hs
  · cases hs
theorem mi_if_ok {q : sm_I} {b : Nat} {R : mi_R} {c : ClassFile.Cond} {x y off : Int} {r : List mi_V} (hs : mi_if c x y pc off ls r O b = some R) (hx : mi_in x) (hy : mi_in y) (hl : mi_okL ls) (hst : mi_okS r) (hO : mi_okO O) (ho : ∀ p ∈ R.2.2.2.2, p) (hm : mo_step sk q pc (mi_cl ls) (st.map mi_c) h (O.map mi_cU) b = if b = 1 then some (sm_jmp pc off, mi_cl ls, r.map mi_c, O.map mi_cU, [sm_cmp c (Int32.ofInt x) (Int32.ofInt y) = true]) else some (pc + 3, mi_cl ls, r.map mi_c, O.map mi_cU, [sm_cmp c (Int32.ofInt x) (Int32.ofInt y) = false])) : mi_good sk q pc ls st h O b R := by
  unfold mi_if at hs
  split at hs
  · next hb =>
    cases hs
    have h1 := ho _ List.mem_cons_self
    rw [if_pos hb] at hm
    refine ⟨⟨_, hm, fun p hp => ?_⟩, hl, hst, hO⟩
    rw [List.mem_singleton.mp hp]
    exact mi_cmp_ok hx hy h1
  · next hb =>
    cases hs
    have h1 := ho _ List.mem_cons_self
    rw [if_neg hb] at hm
    refine ⟨⟨_, hm, fun p hp => ?_⟩, hl, hst, hO⟩
    rw [List.mem_singleton.mp hp]
    exact mi_cmp_no hx hy h1
set_option maxHeartbeats 4000000 in
theorem mi_step_ok {q : sm_I} {b : Nat} {R : mi_R} (hs : mi_step sk q pc ls st h O b = some R) (hl : mi_okL ls) (hst : mi_okS st) (hO : mi_okO O) (ho : ∀ p ∈ R.2.2.2.2, p) : mi_good sk q pc ls st h O b R := by
  obtain ⟨i, len, rs⟩ := q
  have pr : ∀ {n : Nat} {v : mi_V}, mi_ok v → mo_step sk (i, len, rs) pc (mi_cl ls) (st.map mi_c) h (O.map mi_cU) b = some (pc + n, mi_cl ls, mi_c v :: st.map mi_c, O.map mi_cU, []) → mi_good sk (i, len, rs) pc ls st h O b (pc + n, ls, v :: st, O, []) := fun hv hm => ⟨⟨[], hm, fun p hp => mi_none hp⟩, hl, mi_okS_cons hv hst, hO⟩
  cases i with
  | iconst n =>
    simp only [mi_step] at hs
    cases hs
    exact pr (mi_inT _) (by rw [mi_cT]; rfl)
  | bipush n =>
    simp only [mi_step] at hs
    cases hs
    exact pr (mi_inT _) (by rw [mi_cT]; rfl)
  | sipush n =>
    simp only [mi_step] at hs
    cases hs
    exact pr (mi_inT _) (by rw [mi_cT]; rfl)
  | lconst n =>
    simp only [mi_step] at hs
    cases hs
    exact pr trivial rfl
  | ldc n =>
    simp only [mi_step] at hs
    split at hs
    · cases hs
      exact pr (mi_inT _) (by rw [mi_cT]; rfl)
    · cases hs
  | ldc_w n =>
    simp only [mi_step] at hs
    split at hs
    · cases hs
      exact pr (mi_inT _) (by rw [mi_cT]; rfl)
    · cases hs
  | ldc2_w n =>
    simp only [mi_step] at hs
    split at hs
    · cases hs
      exact pr trivial rfl
    · cases hs
  | iload_n k =>
    simp only [mi_step] at hs
    refine mi_ld_ok hs hl hst hO (fun w hw => mi_okL_get hl (mi_isI_eq hw).1) (fun w hw => ?_)
    obtain ⟨e, z, rfl⟩ := mi_isI_eq hw
    simp only [mo_step, mx_pureI, if_true, sm_step, sm_loadK, mi_lget_eq, e, Option.map_some, mi_c, sm_isI, sm_nx]
  | iload k =>
    simp only [mi_step] at hs
    refine mi_ld_ok hs hl hst hO (fun w hw => mi_okL_get hl (mi_isI_eq hw).1) (fun w hw => ?_)
    obtain ⟨e, z, rfl⟩ := mi_isI_eq hw
    simp only [mo_step, mx_pureI, if_true, sm_step, sm_loadK, mi_lget_eq, e, Option.map_some, mi_c, sm_isI, sm_nx]
  | lload_n k =>
    simp only [mi_step] at hs
    refine mi_ld_ok hs hl hst hO (fun w hw => mi_okL_get hl (mi_isL_eq hw).1) (fun w hw => ?_)
    obtain ⟨e, z, rfl⟩ := mi_isL_eq hw
    simp only [mo_step, mx_pureI, if_true, sm_step, sm_loadK, mi_lget_eq, e, Option.map_some, mi_c, sm_isL, sm_nx]
  | lload k =>
    simp only [mi_step] at hs
    refine mi_ld_ok hs hl hst hO (fun w hw => mi_okL_get hl (mi_isL_eq hw).1) (fun w hw => ?_)
    obtain ⟨e, z, rfl⟩ := mi_isL_eq hw
    simp only [mo_step, mx_pureI, if_true, sm_step, sm_loadK, mi_lget_eq, e, Option.map_some, mi_c, sm_isL, sm_nx]
  | aload_n k =>
    simp only [mi_step] at hs
    refine mi_ld_ok hs hl hst hO (fun w hw => mi_okL_get hl (mi_isA_eq hw).1) (fun w hw => ?_)
    obtain ⟨e, z, rfl⟩ := mi_isA_eq hw
    simp only [mo_step, mx_pureI, if_true, sm_step, sm_loadK, mi_lget_eq, e, Option.map_some, mi_c, sm_isA, sm_nx]
  | aload k =>
    simp only [mi_step] at hs
    refine mi_ld_ok hs hl hst hO (fun w hw => mi_okL_get hl (mi_isA_eq hw).1) (fun w hw => ?_)
    obtain ⟨e, z, rfl⟩ := mi_isA_eq hw
    simp only [mo_step, mx_pureI, if_true, sm_step, sm_loadK, mi_lget_eq, e, Option.map_some, mi_c, sm_isA, sm_nx]
  | istore_n k =>
    simp only [mi_step] at hs
    split at hs
    · next z r =>
      refine mi_sto_ok hs (mi_okS_tl hst) hO (fun w hw => mi_okL_put1 hl (mi_okS_hd hst) hw) (fun w hw => ?_)
      have e := mi_put1_eq (ls := ls) k (.inl z)
      rw [hw] at e
      simp only [mi_c, Option.map_some] at e
      simp only [mo_step, mx_pureI, if_true, sm_step, sm_store1, List.map_cons, mi_c, sm_isI, e, Option.bind, sm_nx]
    · cases hs
  | istore k =>
    simp only [mi_step] at hs
    split at hs
    · next z r =>
      refine mi_sto_ok hs (mi_okS_tl hst) hO (fun w hw => mi_okL_put1 hl (mi_okS_hd hst) hw) (fun w hw => ?_)
      have e := mi_put1_eq (ls := ls) k (.inl z)
      rw [hw] at e
      simp only [mi_c, Option.map_some] at e
      simp only [mo_step, mx_pureI, if_true, sm_step, sm_store1, List.map_cons, mi_c, sm_isI, e, Option.bind, sm_nx]
    · cases hs
  | lstore_n k =>
    simp only [mi_step] at hs
    split at hs
    · next z r =>
      refine mi_sto_ok hs (mi_okS_tl hst) hO (fun w hw => mi_okL_put2 hl (mi_okS_hd hst) hw) (fun w hw => ?_)
      have e := mi_put2_eq (ls := ls) k (.inr (.inl z))
      rw [hw] at e
      simp only [mi_c, Option.map_some] at e
      simp only [mo_step, mx_pureI, if_true, sm_step, sm_store2, List.map_cons, mi_c, e, Option.bind, sm_nx]
    · cases hs
  | lstore k =>
    simp only [mi_step] at hs
    split at hs
    · next z r =>
      refine mi_sto_ok hs (mi_okS_tl hst) hO (fun w hw => mi_okL_put2 hl (mi_okS_hd hst) hw) (fun w hw => ?_)
      have e := mi_put2_eq (ls := ls) k (.inr (.inl z))
      rw [hw] at e
      simp only [mi_c, Option.map_some] at e
      simp only [mo_step, mx_pureI, if_true, sm_step, sm_store2, List.map_cons, mi_c, e, Option.bind, sm_nx]
    · cases hs
  | iinc k n =>
    simp only [mi_step] at hs
    split at hs
    · next z hz =>
      split at hs
      · next l hw =>
        cases hs
        have h1 := ho _ List.mem_cons_self
        refine ⟨⟨[], ?_, fun p hp => mi_none hp⟩, mi_okL_put1 (v := .inl (z + (Int32.ofInt n).toInt)) hl h1 hw, hst, hO⟩
        have e := mi_put1_eq (ls := ls) k (.inl (z + (Int32.ofInt n).toInt))
        rw [hw] at e
        simp only [mi_c, Option.map_some, Int32.ofInt_add, Int32.ofInt_toInt] at e
        simp only [mo_step, mx_pureI, if_true, sm_step, mi_lget_eq, hz, Option.map_some, mi_c, e, Option.bind, sm_nx]
      · cases hs
    · cases hs
  | iadd =>
    simp only [mi_step] at hs
    split at hs
    · next y x r =>
      split at hs
      · cases hs
        refine ⟨⟨[], ?_, fun p hp => mi_none hp⟩, hl, mi_okS_cons (mi_inT _) (mi_okS_tl (mi_okS_tl hst)), hO⟩
        dsimp only
        rw [List.map_cons, List.map_cons, List.map_cons, mi_cT]
        rfl
      · cases hs
        refine ⟨⟨[], ?_, fun p hp => mi_none hp⟩, hl, mi_okS_cons (ho _ List.mem_cons_self) (mi_okS_tl (mi_okS_tl hst)), hO⟩
        simp only [mo_step, mx_pureI, if_true, sm_step, sm_bin, List.map_cons, mi_c, sm_nx, Int32.ofInt_add]
    · cases hs
  | isub =>
    simp only [mi_step] at hs
    split at hs
    · next y x r =>
      split at hs
      · cases hs
        refine ⟨⟨[], ?_, fun p hp => mi_none hp⟩, hl, mi_okS_cons (mi_inT _) (mi_okS_tl (mi_okS_tl hst)), hO⟩
        dsimp only
        rw [List.map_cons, List.map_cons, List.map_cons, mi_cT]
        rfl
      · cases hs
        refine ⟨⟨[], ?_, fun p hp => mi_none hp⟩, hl, mi_okS_cons (ho _ List.mem_cons_self) (mi_okS_tl (mi_okS_tl hst)), hO⟩
        simp only [mo_step, mx_pureI, if_true, sm_step, sm_bin, List.map_cons, mi_c, sm_nx, Int32.ofInt_sub]
    · cases hs
  | imul =>
    simp only [mi_step] at hs
    split at hs
    · next y x r =>
      cases hs
      refine ⟨⟨[], ?_, fun p hp => mi_none hp⟩, hl, mi_okS_cons (ho _ List.mem_cons_self) (mi_okS_tl (mi_okS_tl hst)), hO⟩
      simp only [mo_step, mx_pureI, if_true, sm_step, sm_bin, List.map_cons, mi_c, sm_nx, Int32.ofInt_mul]
    · cases hs
  | iand => simp only [mi_step] at hs; exact mi_raw_ok hs hl hst hO (fun _ _ _ => rfl)
  | ior => simp only [mi_step] at hs; exact mi_raw_ok hs hl hst hO (fun _ _ _ => rfl)
  | ishl => simp only [mi_step] at hs; exact mi_raw_ok hs hl hst hO (fun _ _ _ => rfl)
  | ishr => simp only [mi_step] at hs; exact mi_raw_ok hs hl hst hO (fun _ _ _ => rfl)
  | ladd => simp only [mi_step] at hs; exact mi_binL_ok hs hl hst hO (fun _ _ _ => rfl)
  | lsub => simp only [mi_step] at hs; exact mi_binL_ok hs hl hst hO (fun _ _ _ => rfl)
  | lmul => simp only [mi_step] at hs; exact mi_binL_ok hs hl hst hO (fun _ _ _ => rfl)
  | land => simp only [mi_step] at hs; exact mi_binL_ok hs hl hst hO (fun _ _ _ => rfl)
  | lor => simp only [mi_step] at hs; exact mi_binL_ok hs hl hst hO (fun _ _ _ => rfl)
  | lxor => simp only [mi_step] at hs; exact mi_binL_ok hs hl hst hO (fun _ _ _ => rfl)
  | lushr => simp only [mi_step] at hs; exact mi_shL_ok hs hl hst hO (fun _ _ _ => rfl)
  | lshl => simp only [mi_step] at hs; exact mi_shL_ok hs hl hst hO (fun _ _ _ => rfl)
  | lshr => simp only [mi_step] at hs; exact mi_shL_ok hs hl hst hO (fun _ _ _ => rfl)
  | lcmp =>
    simp only [mi_step] at hs
    split at hs
    · next y x r =>
      cases hs
      refine ⟨⟨[], ?_, fun p hp => mi_none hp⟩, hl, mi_okS_cons (mi_inT _) (mi_okS_tl (mi_okS_tl hst)), hO⟩
      dsimp only
      rw [List.map_cons, List.map_cons, List.map_cons, mi_cT]
      rfl
    · cases hs
  | i2l =>
    simp only [mi_step] at hs
    split at hs
    · next x r =>
      cases hs
      exact ⟨⟨[], rfl, fun p hp => mi_none hp⟩, hl, mi_okS_cons trivial (mi_okS_tl hst), hO⟩
    · cases hs
  | l2i =>
    simp only [mi_step] at hs
    split at hs
    · next x r =>
      cases hs
      refine ⟨⟨[], ?_, fun p hp => mi_none hp⟩, hl, mi_okS_cons (mi_inT _) (mi_okS_tl hst), hO⟩
      dsimp only
      rw [List.map_cons, List.map_cons, mi_cT]
      rfl
    · cases hs
  | dup =>
    simp only [mi_step] at hs
    split at hs
    · next v r =>
      split at hs
      · next hc =>
        cases hs
        refine ⟨⟨[], ?_, fun p hp => mi_none hp⟩, hl, mi_okS_cons (mi_okS_hd hst) hst, hO⟩
        simp only [mo_step, mx_pureI, if_true, sm_step, List.map_cons, mi_catv, hc, sm_nx]
      · cases hs
    · cases hs
  | pop =>
    simp only [mi_step] at hs
    split at hs
    · next v r =>
      split at hs
      · next hc =>
        cases hs
        refine ⟨⟨[], ?_, fun p hp => mi_none hp⟩, hl, mi_okS_tl hst, hO⟩
        simp only [mo_step, mx_pureI, if_true, sm_step, List.map_cons, mi_catv, hc, sm_nx]
      · cases hs
    · cases hs
  | dup_x1 =>
    simp only [mi_step] at hs
    split at hs
    · next v w r =>
      split at hs
      · next hc =>
        cases hs
        refine ⟨⟨[], ?_, fun p hp => mi_none hp⟩, hl, mi_okS_cons (mi_okS_hd hst) (mi_okS_cons (mi_okS_hd (mi_okS_tl hst)) (mi_okS_cons (mi_okS_hd hst) (mi_okS_tl (mi_okS_tl hst)))), hO⟩
        simp only [mo_step, mx_pureI, if_true, sm_step, List.map_cons, mi_catv, hc.1, hc.2, and_self, sm_nx]
      · cases hs
    · cases hs
  | dup_x2 =>
    simp only [mi_step] at hs
    split at hs
    · next v w u r =>
      split at hs
      · next hc =>
        cases hs
        have k1 := mi_okS_hd hst
        have k2 := mi_okS_hd (mi_okS_tl hst)
        have k3 := mi_okS_tl (mi_okS_tl hst)
        refine ⟨⟨[], ?_, fun p hp => mi_none hp⟩, hl, mi_okS_cons k1 (mi_okS_cons k2 (mi_okS_cons (mi_okS_hd k3) (mi_okS_cons k1 (mi_okS_tl k3)))), hO⟩
        simp only [mo_step, mx_pureI, if_true, sm_step, List.map_cons, mi_catv, hc.1, hc.2.1, hc.2.2, and_self, sm_nx]
      · cases hs
    · cases hs
  | dup2 =>
    simp only [mi_step] at hs
    split at hs
    · next v w r =>
      cases hs
      have k1 := mi_okS_hd hst
      have k2 := mi_okS_hd (mi_okS_tl hst)
      exact ⟨⟨[], rfl, fun p hp => mi_none hp⟩, hl, mi_okS_cons k1 (mi_okS_cons k2 hst), hO⟩
    · cases hs
  | goto off =>
    simp only [mi_step] at hs
    cases hs
    exact ⟨⟨[], rfl, fun p hp => mi_none hp⟩, hl, hst, hO⟩
  | if_icmp c off =>
    simp only [mi_step] at hs
    split at hs
    · next y x r => exact mi_if_ok hs (mi_okS_hd (mi_okS_tl hst)) (mi_okS_hd hst) hl (mi_okS_tl (mi_okS_tl hst)) hO ho rfl
    · cases hs
  | ifCond c off =>
    simp only [mi_step] at hs
    split at hs
    · next x r => exact mi_if_ok (y := 0) hs (mi_okS_hd hst) ⟨by decide, by decide⟩ hl (mi_okS_tl hst) hO ho rfl
    · cases hs
  | tableswitch d lo hi offs =>
    simp only [mi_step] at hs
    split at hs
    · next x r =>
      have hx : mi_in x := mi_okS_hd hst
      split at hs
      · next hb =>
        cases hs
        have h1 := ho _ List.mem_cons_self
        refine ⟨⟨[(Int32.ofInt x).toInt < lo ∨ hi < (Int32.ofInt x).toInt], ?_, fun p hp => ?_⟩, hl, mi_okS_tl hst, hO⟩
        · simp only [mo_step, List.map_cons, mi_c, hb, if_true]
        · rw [List.mem_singleton.mp hp, mi_ti hx]
          exact h1
      · next hb =>
        split at hs
        · next off hoff =>
          cases hs
          have h1 := ho _ List.mem_cons_self
          refine ⟨⟨[(Int32.ofInt x).toInt = lo + (b : Int) ∧ (Int32.ofInt x).toInt ≤ hi], ?_, fun p hp => ?_⟩, hl, mi_okS_tl hst, hO⟩
          · simp only [mo_step, List.map_cons, mi_c]
            rw [if_neg hb, hoff]
          · rw [List.mem_singleton.mp hp, mi_ti hx]
            exact h1
        · cases hs
    · cases hs
  | idiv =>
    simp only [mi_step] at hs
    split at hs
    · next y x r =>
      cases hs
      have h1 := ho _ List.mem_cons_self
      have hy : mi_in y := mi_okS_hd hst
      refine ⟨⟨[Int32.ofInt y ≠ 0], ?_, fun p hp => ?_⟩, hl, mi_okS_cons (mi_inT _) (mi_okS_tl (mi_okS_tl hst)), hO⟩
      · dsimp only
        rw [List.map_cons, List.map_cons, List.map_cons, mi_cT]
        rfl
      · rw [List.mem_singleton.mp hp]
        intro e
        have e2 := mi_ti hy
        rw [e] at e2
        exact h1 e2.symm
    · cases hs
  | irem =>
    simp only [mi_step] at hs
    split at hs
    · next y x r =>
      cases hs
      have h1 := ho _ List.mem_cons_self
      have hy : mi_in y := mi_okS_hd hst
      refine ⟨⟨[Int32.ofInt y ≠ 0], ?_, fun p hp => ?_⟩, hl, mi_okS_cons (mi_inT _) (mi_okS_tl (mi_okS_tl hst)), hO⟩
      · dsimp only
        rw [List.map_cons, List.map_cons, List.map_cons, mi_cT]
        rfl
      · rw [List.mem_singleton.mp hp]
        intro e
        have e2 := mi_ti hy
        rw [e] at e2
        exact h1 e2.symm
    · cases hs
  | lrem =>
    simp only [mi_step] at hs
    split at hs
    · next y x r =>
      cases hs
      exact ⟨⟨_, rfl, ho⟩, hl, mi_okS_cons trivial (mi_okS_tl (mi_okS_tl hst)), hO⟩
    · cases hs
  | getfield n =>
    simp only [mi_step] at hs
    split at hs
    · next a r k z cs =>
      split at hs
      · next hz =>
        split at hs
        · next t lo hi hfk =>
          cases hs
          refine ⟨⟨[], ?_, fun p hp => mi_none hp⟩, hl, mi_okS_cons ?_ (mi_okS_tl hst), hO⟩
          · simp only [mo_step, List.map_cons, mi_c]
            rw [if_pos hz, hfk]
            dsimp only
            rw [mi_ri_eq, mi_rl_eq]
            split
            · rfl
            · split <;> rfl
          · split
            · exact mi_ri_in _ O hO
            · split <;> trivial
        · cases hs
      · cases hs
    · cases hs
  | putfield n =>
    simp only [mi_step] at hs
    split at hs
    · next x a r k t fin cs =>
      split at hs
      · next t' lo hi hfk =>
        split at hs
        · next hc =>
          cases hs
          have hx : mi_in x := mi_okS_hd hst
          have h2 := mi_bd_ok hx (fun p hp => ho p (List.mem_append_right _ hp))
          refine ⟨⟨[lo ≤ (Int32.ofInt x).toInt ∧ (Int32.ofInt x).toInt ≤ hi, t = 3 → 0 ≤ (Int32.ofInt x).toInt ∧ (Int32.ofInt x).toInt ≤ 1], ?_, fun p hp => ?_⟩, hl, mi_okS_tl (mi_okS_tl hst), mi_okO_cons hx hO⟩
          · simp only [mo_step, List.map_cons, mi_c]
            rw [hfk]
            dsimp only
            rw [if_pos hc]
            rfl
          · rcases List.mem_cons.mp hp with rfl | hp
            · rw [mi_ti hx]; exact h2
            · rw [List.mem_singleton.mp hp, mi_ti hx]
              intro ht
              exact ho _ (List.mem_append_left _ (by rw [if_pos ht]; exact List.mem_cons_self))
        · cases hs
      · cases hs
    · next x a r k t fin cs =>
      split at hs
      · next t' lo hi hfk =>
        split at hs
        · next hc =>
          cases hs
          have h2 := mi_bdL_ok ho
          refine ⟨⟨[lo ≤ x.toInt ∧ x.toInt ≤ hi], ?_, fun p hp => ?_⟩, hl, mi_okS_tl (mi_okS_tl hst), mi_okO_cons trivial hO⟩
          · simp only [mo_step, List.map_cons, mi_c]
            rw [hfk]
            dsimp only
            rw [if_pos hc]
            rfl
          · rw [List.mem_singleton.mp hp]
            exact h2
        · cases hs
      · cases hs
    · cases hs
  | iaload =>
    simp only [mi_step] at hs
    refine mi_ald_ok hs hl hst hO ho (fun x a n lo hi r hak => ?_)
    simp only [mo_step]
    rw [hak]
    rfl
  | baload =>
    simp only [mi_step] at hs
    refine mi_ald_ok hs hl hst hO ho (fun x a n lo hi r hak => ?_)
    simp only [mo_step]
    rw [hak]
    rfl
  | iastore =>
    simp only [mi_step] at hs
    split at hs
    · next y x a r =>
      split at hs
      · next t n lo hi hak =>
        split at hs
        · next ht =>
          cases hs
          have hy : mi_in y := mi_okS_hd hst
          have hx : mi_in x := mi_okS_hd (mi_okS_tl hst)
          have h1 := ho _ (List.mem_append_left _ List.mem_cons_self)
          have h2 := mi_bd_ok hy (fun p hp => ho p (List.mem_append_right _ hp))
          refine ⟨⟨[0 ≤ (Int32.ofInt x).toInt ∧ (Int32.ofInt x).toInt < (n : Int), lo ≤ (Int32.ofInt y).toInt ∧ (Int32.ofInt y).toInt ≤ hi], ?_, fun p hp => ?_⟩, hl, mi_okS_tl (mi_okS_tl (mi_okS_tl hst)), mi_okO_cons hy hO⟩
          · simp only [mo_step, List.map_cons, mi_c]
            rw [hak]
            dsimp only
            rw [if_pos ht, mi_tn hx]
            rfl
          · rcases List.mem_cons.mp hp with rfl | hp
            · rw [mi_ti hx]; exact h1
            · rw [List.mem_singleton.mp hp, mi_ti hy]; exact h2
        · cases hs
      · cases hs
    · cases hs
  | bastore =>
    simp only [mi_step] at hs
    split at hs
    · next y x a r =>
      split at hs
      · next t n lo hi hak =>
        split at hs
        · next ht =>
          cases hs
          obtain ⟨ht, rfl, rfl⟩ := ht
          have hy : mi_in y := mi_okS_hd hst
          have hx : mi_in x := mi_okS_hd (mi_okS_tl hst)
          have h1 := ho _ List.mem_cons_self
          have h2 := ho _ (List.mem_cons_of_mem _ List.mem_cons_self)
          have ey : Int32.ofInt y &&& 1 = Int32.ofInt y := by
            have hc : y = 0 ∨ y = 1 := by omega
            rcases hc with rfl | rfl <;> rfl
          refine ⟨⟨[0 ≤ (Int32.ofInt x).toInt ∧ (Int32.ofInt x).toInt < (n : Int), 0 ≤ (Int32.ofInt y).toInt ∧ (Int32.ofInt y).toInt ≤ 1], ?_, fun p hp => ?_⟩, hl, mi_okS_tl (mi_okS_tl (mi_okS_tl hst)), mi_okO_cons hy hO⟩
          · simp only [mo_step, List.map_cons, mi_c]
            rw [hak]
            dsimp only
            rw [if_pos ht, mi_tn hx, ey]
            rfl
          · rcases List.mem_cons.mp hp with rfl | hp
            · rw [mi_ti hx]; exact h1
            · rw [List.mem_singleton.mp hp, mi_ti hy]; exact h2
        · cases hs
      · cases hs
    · cases hs
  | laload =>
    simp only [mi_step] at hs
    split at hs
    · next x a r =>
      split at hs
      · next t n lo hi hak =>
        split at hs
        · next ht =>
          cases hs
          have hx : mi_in x := mi_okS_hd hst
          have h1 := ho _ List.mem_cons_self
          refine ⟨⟨[0 ≤ (Int32.ofInt x).toInt ∧ (Int32.ofInt x).toInt < (n : Int)], ?_, fun p hp => ?_⟩, hl, mi_okS_cons trivial (mi_okS_tl (mi_okS_tl hst)), hO⟩
          · simp only [mo_step, List.map_cons, mi_c]
            rw [hak]
            dsimp only
            rw [if_pos ht, mi_tn hx, mi_rb_eq]
          · rw [List.mem_singleton.mp hp, mi_ti hx]; exact h1
        · cases hs
      · cases hs
    · cases hs
  | lastore =>
    simp only [mi_step] at hs
    split at hs
    · next y x a r =>
      split at hs
      · next t n lo hi hak =>
        split at hs
        · next ht =>
          cases hs
          have hx : mi_in x := mi_okS_hd (mi_okS_tl hst)
          have h1 := ho _ (List.mem_append_left _ List.mem_cons_self)
          have h2 := mi_bdL_ok (fun p hp => ho p (List.mem_append_right _ hp))
          refine ⟨⟨[0 ≤ (Int32.ofInt x).toInt ∧ (Int32.ofInt x).toInt < (n : Int), lo ≤ y.toInt ∧ y.toInt ≤ hi], ?_, fun p hp => ?_⟩, hl, mi_okS_tl (mi_okS_tl (mi_okS_tl hst)), mi_okO_cons trivial hO⟩
          · simp only [mo_step, List.map_cons, mi_c]
            rw [hak]
            dsimp only
            rw [if_pos ht, mi_tn hx]
            rfl
          · rcases List.mem_cons.mp hp with rfl | hp
            · rw [mi_ti hx]; exact h1
            · rw [List.mem_singleton.mp hp]; exact h2
        · cases hs
      · cases hs
    · cases hs
  | _ => simp [mi_step] at hs
end MIP
