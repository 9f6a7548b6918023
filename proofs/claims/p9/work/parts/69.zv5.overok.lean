/-! .. is a step -/
section MOO
variable {sk : ab_K} {h : sm_H} {ls : sm_L} {st : List Value} {pc : Nat} {O : List mx_U}
theorem mo_fk_inv {a k : Nat} {cs : List Nat} {x : Nat × Int × Int} (hf : mo_fk sk a k cs = some x) : ∃ ci fl, sk[a]? = some (some (.inr (ci, fl))) ∧ ci ∈ cs ∧ k < 128 ∧ sm_C ≤ a ∧ fl[k]? = some x := by
  unfold mo_fk at hf
  split at hf
  · next ci fl hk =>
    split at hf
    · next hc => exact ⟨ci, fl, hk, hc.1, hc.2.1, hc.2.2, hf⟩
    · cases hf
  · cases hf
theorem mo_ak_inv {a t n : Nat} {lo hi : Int} (hf : mo_ak sk a = some (t, n, lo, hi)) : sk[a]? = some (some (.inl (t, n, lo, hi, []))) ∧ sm_C ≤ a := by
  unfold mo_ak at hf
  split at hf
  · next hk =>
    split at hf
    · next hc =>
      cases hf
      obtain ⟨h1, rfl⟩ := hc
      exact ⟨hk, h1⟩
    · cases hf
  · cases hf
theorem mo_isF {a k ci : Nat} {fl : List (Nat × Int × Int)} {x : Nat × Int × Int} (hk : sk[a]? = some (some (.inr (ci, fl)))) (h128 : k < 128) (hf : fl[k]? = some x) : mx_isF sk (a * 128 + k) = true := by
  unfold mx_isF
  have ea : (a * 128 + k) / 128 = a := by omega
  have eb : (a * 128 + k) % 128 = k := by omega
  rw [ea, eb, hk]
  exact decide_eq_true (List.getElem?_eq_some_iff.mp hf).1
theorem mo_oO_cons {u : mx_U} (ho : mx_oO sk O) (hu : mx_o1 sk u = true) : mx_oO sk (u :: O) := fun v hv => by
  rcases List.mem_cons.mp hv with rfl | hv
  · exact hu
  · exact ho v hv
set_option maxHeartbeats 2000000 in
theorem mo_step_ok {q : sm_I} {b : Nat} {R : mo_R} (hs : mo_step sk q pc ls st h O b = some R) (hP : mx_Sp sk h) (hO : mx_oO sk O) (hS : ab_Sh sk (mx_ap O h)) (ho : ∀ p ∈ R.2.2.2.2, p) : sm_step q pc ls st (mx_ap O h) = some (.inl (R.1, R.2.1, R.2.2.1, mx_ap R.2.2.2.1 h)) ∧ ab_Sh sk (mx_ap R.2.2.2.1 h) ∧ mx_oO sk R.2.2.2.1 := by
  obtain ⟨i, len, rs⟩ := q
  have viaX : ∀ {R0 : mx_R} {i0 : Instr} {b0 : Nat}, mx_step sk (i0, len, rs) pc ls st (mx_ap O h) b0 = some R0 → (∀ p ∈ R0.2.2.2.2, p) → sm_step (i0, len, rs) pc ls st (mx_ap O h) = some (.inl (R0.1, R0.2.1, R0.2.2.1, R0.2.2.2.1)) ∧ ab_Sh sk R0.2.2.2.1 := fun h1 h2 => mx_step_ok h1 hS h2
  cases i with
  | getfield n =>
    simp only [mo_step] at hs
    split at hs
    · next a r k z cs =>
      split at hs
      · next hz =>
        subst hz
        split at hs
        · next t lo hi hfk =>
          cases hs
          obtain ⟨ci, fl, hk, g1, g2, g3, hf⟩ := mo_fk_inv hfk
          obtain ⟨e, z⟩ := viaX (i0 := .getfield n) (b0 := 0) (R0 := (pc + 3, ls, (if t = 0 then .int (mx_i (mx_ap O h) (a * 128 + k)) else if t = 1 then .long (mx_l (mx_ap O h) (a * 128 + k)) else .ref lo.toNat) :: r, mx_ap O h, [])) (by
            simp only [mx_step, mx_getf]
            rw [hk]
            dsimp only
            rw [if_pos ⟨g1, g2, trivial, g3⟩, hf]) (fun p hp => absurd hp List.not_mem_nil)
          rw [mx_i_ap hP O hO, mx_l_ap hP O hO] at e
          exact ⟨e, z, hO⟩
        · cases hs
      · cases hs
    · cases hs
  | putfield n =>
    simp only [mo_step] at hs
    split at hs
    · next x a r k t fin cs =>
      split at hs
      · next t' lo hi hfk =>
        split at hs
        · next hc =>
          cases hs
          obtain ⟨ci, fl, hk, g1, g2, g3, hf⟩ := mo_fk_inv hfk
          obtain ⟨e, z⟩ := viaX (i0 := .putfield n) (b0 := 0) (R0 := (pc + 3, ls, r, mx_pf (mx_ap O h) (a * 128 + k) (.int x), [lo ≤ x.toInt ∧ x.toInt ≤ hi, t = 3 → 0 ≤ x.toInt ∧ x.toInt ≤ 1])) (by
            simp only [mx_step, mx_putf]
            rw [hk]
            dsimp only
            rw [if_pos ⟨g1, g2, g3⟩, hf]
            dsimp only
            rw [if_pos hc]) ho
          exact ⟨e, z, mo_oO_cons hO (mo_isF hk g2 hf)⟩
        · cases hs
      · cases hs
    · next x a r k t fin cs =>
      split at hs
      · next t' lo hi hfk =>
        split at hs
        · next hc =>
          cases hs
          obtain ⟨ci, fl, hk, g1, g2, g3, hf⟩ := mo_fk_inv hfk
          obtain ⟨e, z⟩ := viaX (i0 := .putfield n) (b0 := 0) (R0 := (pc + 3, ls, r, mx_pf (mx_ap O h) (a * 128 + k) (.long x), [lo ≤ x.toInt ∧ x.toInt ≤ hi])) (by
            simp only [mx_step, mx_putf]
            rw [hk]
            dsimp only
            rw [if_pos ⟨g1, g2, g3⟩, hf]
            dsimp only
            rw [if_pos hc]) ho
          exact ⟨e, z, mo_oO_cons hO (mo_isF hk g2 hf)⟩
        · cases hs
      · cases hs
    · cases hs
  | iaload =>
    simp only [mo_step] at hs
    split at hs
    · next x a r =>
      split at hs
      · next t n lo hi hak =>
        split at hs
        · next ht =>
          cases hs
          subst ht
          obtain ⟨hk, g1⟩ := mo_ak_inv hak
          obtain ⟨e, z⟩ := viaX (i0 := .iaload) (b0 := 0) (R0 := (pc + 1, ls, .int (mx_a (mx_ap O h) a x.toNatClampNeg) :: r, mx_ap O h, [0 ≤ x.toInt ∧ x.toInt < (n : Int)])) (by
            simp only [mx_step, mx_ald]
            rw [hk]
            dsimp only
            rw [if_pos ⟨List.mem_singleton.mpr rfl, by decide, g1⟩]) ho
          rw [mx_a_ap hP O hO] at e
          exact ⟨e, z, hO⟩
        · cases hs
      · cases hs
    · cases hs
  | baload =>
    simp only [mo_step] at hs
    split at hs
    · next x a r =>
      split at hs
      · next t n lo hi hak =>
        split at hs
        · next ht =>
          cases hs
          subst ht
          obtain ⟨hk, g1⟩ := mo_ak_inv hak
          obtain ⟨e, z⟩ := viaX (i0 := .baload) (b0 := 0) (R0 := (pc + 1, ls, .int (mx_a (mx_ap O h) a x.toNatClampNeg) :: r, mx_ap O h, [0 ≤ x.toInt ∧ x.toInt < (n : Int)])) (by
            simp only [mx_step, mx_ald]
            rw [hk]
            dsimp only
            rw [if_pos ⟨List.mem_singleton.mpr rfl, by decide, g1⟩]) ho
          rw [mx_a_ap hP O hO] at e
          exact ⟨e, z, hO⟩
        · cases hs
      · cases hs
    · cases hs
  | iastore =>
    simp only [mo_step] at hs
    split at hs
    · next y x a r =>
      split at hs
      · next t n lo hi hak =>
        split at hs
        · next ht =>
          cases hs
          subst ht
          obtain ⟨hk, g1⟩ := mo_ak_inv hak
          obtain ⟨e, z⟩ := viaX (i0 := .iastore) (b0 := 0) (R0 := (pc + 1, ls, r, mx_pa (mx_ap O h) a x.toNatClampNeg y, [0 ≤ x.toInt ∧ x.toInt < (n : Int), lo ≤ y.toInt ∧ y.toInt ≤ hi])) (by
            simp only [mx_step, mx_ast]
            rw [hk]
            dsimp only
            rw [if_pos ⟨rfl, by decide, g1, rfl⟩]) ho
          refine ⟨e, z, mo_oO_cons hO ?_⟩
          show mx_isA sk a = true
          unfold mx_isA
          rw [hk]
          rfl
        · cases hs
      · cases hs
    · cases hs
  | bastore =>
    simp only [mo_step] at hs
    split at hs
    · next y x a r =>
      split at hs
      · next t n lo hi hak =>
        split at hs
        · next ht =>
          cases hs
          subst ht
          obtain ⟨hk, g1⟩ := mo_ak_inv hak
          obtain ⟨e, z⟩ := viaX (i0 := .bastore) (b0 := 0) (R0 := (pc + 1, ls, r, mx_pa (mx_ap O h) a x.toNatClampNeg (y &&& 1), [0 ≤ x.toInt ∧ x.toInt < (n : Int), lo ≤ (y &&& 1).toInt ∧ (y &&& 1).toInt ≤ hi])) (by
            simp only [mx_step, mx_ast]
            rw [hk]
            dsimp only
            rw [if_pos ⟨rfl, by decide, g1, rfl⟩]) ho
          refine ⟨e, z, mo_oO_cons hO ?_⟩
          show mx_isA sk a = true
          unfold mx_isA
          rw [hk]
          rfl
        · cases hs
      · cases hs
    · cases hs
  | laload =>
    simp only [mo_step] at hs
    split at hs
    · next x a r =>
      split at hs
      · next t n lo hi hak =>
        split at hs
        · next ht =>
          cases hs
          subst ht
          obtain ⟨hk, g1⟩ := mo_ak_inv hak
          obtain ⟨e, z⟩ := viaX (i0 := .laload) (b0 := 0) (R0 := (pc + 1, ls, .long (mx_b (mx_ap O h) a x.toNatClampNeg) :: r, mx_ap O h, [0 ≤ x.toInt ∧ x.toInt < (n : Int)])) (by
            simp only [mx_step]
            rw [hk]
            dsimp only
            rw [if_pos ⟨rfl, g1⟩]) ho
          rw [mx_b_ap hP O hO] at e
          exact ⟨e, z, hO⟩
        · cases hs
      · cases hs
    · cases hs
  | lastore =>
    simp only [mo_step] at hs
    split at hs
    · next y x a r =>
      split at hs
      · next t n lo hi hak =>
        split at hs
        · next ht =>
          cases hs
          subst ht
          obtain ⟨hk, g1⟩ := mo_ak_inv hak
          obtain ⟨e, z⟩ := viaX (i0 := .lastore) (b0 := 0) (R0 := (pc + 1, ls, r, mx_pb (mx_ap O h) a x.toNatClampNeg y, [0 ≤ x.toInt ∧ x.toInt < (n : Int), lo ≤ y.toInt ∧ y.toInt ≤ hi])) (by
            simp only [mx_step]
            rw [hk]
            dsimp only
            rw [if_pos ⟨rfl, g1⟩]) ho
          refine ⟨e, z, mo_oO_cons hO ?_⟩
          show mx_isB sk a = true
          unfold mx_isB
          rw [hk]
          rfl
        · cases hs
      · cases hs
    · cases hs
  | if_icmp c off =>
    simp only [mo_step] at hs
    split at hs
    · split at hs
      · next hb =>
        cases hs
        obtain ⟨e, z⟩ := viaX (i0 := .if_icmp c off) (b0 := 1) rfl ho
        exact ⟨e, z, hO⟩
      · next hb =>
        cases hs
        obtain ⟨e, z⟩ := viaX (i0 := .if_icmp c off) (b0 := 0) rfl ho
        exact ⟨e, z, hO⟩
    · cases hs
  | ifCond c off =>
    simp only [mo_step] at hs
    split at hs
    · split at hs
      · next hb =>
        cases hs
        obtain ⟨e, z⟩ := viaX (i0 := .ifCond c off) (b0 := 1) rfl ho
        exact ⟨e, z, hO⟩
      · next hb =>
        cases hs
        obtain ⟨e, z⟩ := viaX (i0 := .ifCond c off) (b0 := 0) rfl ho
        exact ⟨e, z, hO⟩
    · cases hs
  | tableswitch d lo hi offs =>
    simp only [mo_step] at hs
    split at hs
    · next x r =>
      split at hs
      · next hb =>
        cases hs
        obtain ⟨e, z⟩ := viaX (i0 := .tableswitch d lo hi offs) (b0 := 1000) rfl ho
        exact ⟨e, z, hO⟩
      · next hb =>
        split at hs
        · next off hoff =>
          cases hs
          obtain ⟨e, z⟩ := viaX (i0 := .tableswitch d lo hi offs) (b0 := b) (R0 := (sm_jmp pc off, ls, r, mx_ap O h, [x.toInt = lo + (b : Int) ∧ x.toInt ≤ hi])) (by
            simp only [mx_step]
            rw [if_neg hb, hoff]) ho
          exact ⟨e, z, hO⟩
        · cases hs
    · cases hs
  | idiv =>
    simp only [mo_step] at hs
    split at hs
    · cases hs
      obtain ⟨e, z⟩ := viaX (i0 := .idiv) (b0 := 0) rfl ho
      exact ⟨e, z, hO⟩
    · cases hs
  | irem =>
    simp only [mo_step] at hs
    split at hs
    · cases hs
      obtain ⟨e, z⟩ := viaX (i0 := .irem) (b0 := 0) rfl ho
      exact ⟨e, z, hO⟩
    · cases hs
  | lrem =>
    simp only [mo_step] at hs
    split at hs
    · cases hs
      obtain ⟨e, z⟩ := viaX (i0 := .lrem) (b0 := 0) rfl ho
      exact ⟨e, z, hO⟩
    · cases hs
  | _ =>
    simp only [mo_step] at hs
    split at hs
    · next hp =>
      split at hs
      · next hq =>
        cases hs
        exact ⟨mx_pure_ok hp hq, hS, hO⟩
      · cases hs
    · cases hs
theorem mo_path_ok {P : Nat → Option sm_M} {QT : Nat → sm_H → Prop} {Q : Option Value → sm_H → Prop} {d m nl k : Nat} {tab : List (Option sm_I)} (hM : P m = some (nl, k, tab)) (hP : mx_Sp sk h) : ∀ (n : Nat) (bs : List Nat) (pc : Nat) (ls : sm_L) (st : List Value) (O : List mx_U) (R : mo_R), mo_path tab sk h n bs pc ls st O = some R → mx_oO sk O → ab_Sh sk (mx_ap O h) → (∀ p ∈ R.2.2.2.2, p) → (ab_Sh sk (mx_ap R.2.2.2.1 h) → mx_oO sk R.2.2.2.1 → ab_EndsX P QT d m R.1 R.2.1 R.2.2.1 (mx_ap R.2.2.2.1 h) Q) → ab_EndsX P QT d m pc ls st (mx_ap O h) Q := by
  intro n
  induction n with
  | zero =>
    intro bs pc ls st O R hp hO hS ho hk
    simp only [mo_path] at hp
    cases hp
    exact hk hS hO
  | succ n ih =>
    intro bs pc ls st O R hp hO hS ho hk
    simp only [mo_path] at hp
    split at hp
    · next q hq =>
      split at hp
      · next pc' ls' st' O' ob hs =>
        split at hp
        · next pc2 ls2 st2 O2 ob2 hp2 =>
          cases hp
          have ho1 : ∀ p ∈ ob, p := fun p hm => ho p (List.mem_append_left _ hm)
          have ho2 : ∀ p ∈ ob2, p := fun p hm => ho p (List.mem_append_right _ hm)
          obtain ⟨e1, e2, e3⟩ := mo_step_ok hs hP hO hS ho1
          exact ab_EndsX.step (M := (nl, k, tab)) hM hq e1 (ih _ _ _ _ _ _ hp2 e3 e2 ho2 hk)
        · cases hp
      · cases hp
    · cases hp
end MOO
