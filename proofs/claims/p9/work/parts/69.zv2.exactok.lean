/-! a step of the exact machine is a step -/
section MXO
variable {sk : ab_K} {h : sm_H} {ls : sm_L} {st : List Value} {pc : Nat}
theorem mx_dflt_ok {q : sm_I} {R : mx_R} (hs : mx_dflt q pc ls st h = some R) (hS : ab_Sh sk h) : sm_step q pc ls st h = some (.inl (R.1, R.2.1, R.2.2.1, R.2.2.2.1)) ∧ ab_Sh sk R.2.2.2.1 := by
  unfold mx_dflt at hs
  split at hs
  · next hp =>
    split at hs
    · next hq =>
      cases hs
      exact ⟨mx_pure_ok hp hq, hS⟩
    · cases hs
  · cases hs
set_option maxHeartbeats 1000000 in
theorem mx_step_ok {q : sm_I} {b : Nat} {R : mx_R} (hs : mx_step sk q pc ls st h b = some R) (hS : ab_Sh sk h) (ho : ∀ p ∈ R.2.2.2.2, p) : sm_step q pc ls st h = some (.inl (R.1, R.2.1, R.2.2.1, R.2.2.2.1)) ∧ ab_Sh sk R.2.2.2.1 := by
  obtain ⟨i, len, rs⟩ := q
  cases i with
  | getfield n => exact mx_getf_ok hs hS
  | putfield n => exact mx_putf_ok hs hS ho
  | iaload => exact mx_ald_ok rfl hs hS ho
  | caload => exact mx_ald_ok rfl hs hS ho
  | baload =>
    obtain ⟨e, z⟩ := mx_ald_ok rfl hs hS ho
    simp only [sm_step]
    rw [e]
    exact ⟨rfl, z⟩
  | iastore => exact mx_ast_ok hs hS ho
  | castore => exact mx_ast_ok hs hS ho
  | bastore => exact mx_ast_ok hs hS ho
  | laload =>
    simp only [mx_step] at hs
    split at hs
    · next x a r =>
      split at hs
      · next t n lo hi ex hk =>
        split at hs
        · next hc =>
          cases hs
          obtain ⟨rfl, hC⟩ := hc
          have hi1 := mx_ix (ho _ List.mem_cons_self)
          obtain ⟨f, e1, -⟩ := mx_arrL hS hk
          refine ⟨?_, hS⟩
          simp only [sm_step, sm_aldL, mx_b]
          rw [e1]
          dsimp only
          rw [if_pos ⟨rfl, hi1.1, hC⟩]
          rfl
        · cases hs
      · cases hs
    · cases hs
  | lastore =>
    simp only [mx_step] at hs
    split at hs
    · next y x a r =>
      split at hs
      · next t n lo hi ex hk =>
        split at hs
        · next hc =>
          cases hs
          obtain ⟨rfl, hC⟩ := hc
          have hi1 := mx_ix (ho _ List.mem_cons_self)
          have hv := ho _ (List.mem_cons_of_mem _ List.mem_cons_self)
          obtain ⟨f, e1, e2⟩ := mx_arrL hS hk
          dsimp only
          simp only [sm_step, sm_astL, mx_pb]
          rw [e1]
          dsimp only
          rw [if_pos ⟨rfl, hi1.1, hC⟩]
          refine ⟨rfl, ab_Sh_set hS (List.getElem?_eq_some_iff.mp e1).1 fun s hs => ?_⟩
          rw [hk] at hs
          cases hs
          refine ⟨_, rfl, rfl, fun j hj => ?_⟩
          obtain ⟨f1, f2⟩ := e2 j hj
          refine ⟨?_, ?_⟩
          · unfold vp_updL
            split
            · exact hv.1
            · exact f1
          · unfold vp_updL
            split
            · exact hv.2
            · exact f2
        · cases hs
      · cases hs
    · cases hs
  | if_icmp c off =>
    simp only [mx_step] at hs
    split at hs
    · split at hs
      · cases hs
        have := ho _ List.mem_cons_self
        refine ⟨?_, hS⟩
        simp only [sm_step, sm_if]
        rw [this]
        rfl
      · cases hs
        have := ho _ List.mem_cons_self
        refine ⟨?_, hS⟩
        simp only [sm_step, sm_if]
        rw [this]
        rfl
    · cases hs
  | ifCond c off =>
    simp only [mx_step] at hs
    split at hs
    · split at hs
      · cases hs
        have := ho _ List.mem_cons_self
        refine ⟨?_, hS⟩
        simp only [sm_step, sm_if]
        rw [this]
        rfl
      · cases hs
        have := ho _ List.mem_cons_self
        refine ⟨?_, hS⟩
        simp only [sm_step, sm_if]
        rw [this]
        rfl
    · cases hs
  | tableswitch d lo hi offs =>
    simp only [mx_step] at hs
    split at hs
    · next x r =>
      split at hs
      · cases hs
        have := ho _ List.mem_cons_self
        refine ⟨?_, hS⟩
        simp only [sm_step]
        rw [if_pos this]
        rfl
      · split at hs
        · next off hoff =>
          cases hs
          have h1 := ho _ List.mem_cons_self
          refine ⟨?_, hS⟩
          simp only [sm_step]
          have e : (x.toInt - lo).toNat = b := by omega
          rw [if_neg (by omega), e, hoff]
          rfl
        · cases hs
    · cases hs
  | idiv =>
    simp only [mx_step] at hs
    split at hs
    · cases hs
      refine ⟨?_, hS⟩
      simp only [sm_step]
      rw [if_neg (ho _ List.mem_cons_self)]
      rfl
    · cases hs
  | irem =>
    simp only [mx_step] at hs
    split at hs
    · cases hs
      refine ⟨?_, hS⟩
      simp only [sm_step]
      rw [if_neg (ho _ List.mem_cons_self)]
      rfl
    · cases hs
  | lrem =>
    simp only [mx_step] at hs
    split at hs
    · cases hs
      refine ⟨?_, hS⟩
      simp only [sm_step]
      rw [if_neg (ho _ List.mem_cons_self)]
      rfl
    · cases hs
  | _ => exact mx_dflt_ok hs hS
end MXO
