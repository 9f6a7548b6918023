/-! every instruction -/
section ABH
variable {L0 ls : sm_L} {h0 h : sm_H} {sk : ab_K} {wr : List (Nat × Nat)} {st : List Value} {A : ab_A} {outs : List (Nat × ab_A)} {pc : Nat}
theorem ab_ald34 {r : sm_R} (h4 : sm_ald 4 pc ls st h = some r) : sm_ald 3 pc ls st h = none := by
  unfold sm_ald at h4 ⊢
  split at h4
  · split at h4
    · next i a r t n f ha =>
      split at h4
      · next hc =>
        exact if_neg (fun z => by have := hc.1; have := z.1; omega)
      · cases h4
    · cases h4
  · cases h4
theorem ab_un_inv {kd : Nat} {g : ab_V → ab_V} (hs : ab_un kd g pc A = some outs) (hA : ab_ok L0 h0 A ls st h) : ∃ a v s r, A.2.1 = a :: r ∧ a.1 = kd ∧ st = v :: s ∧ ab_okV ls h L0 h0 a (some v) ∧ ab_okSt ls h L0 h0 r s ∧ outs = [(pc + 1, (A.1, g a :: r, A.2.2))] := by
  obtain ⟨al, as, hc⟩ := A
  rcases as with _ | ⟨a, r⟩
  · cases hs
  · simp only [ab_un] at hs
    split at hs
    · next hk =>
      obtain ⟨v, s, rfl, hv, hr⟩ := ab_pop hA.2.1
      cases hs
      exact ⟨a, v, s, r, rfl, hk, rfl, hv, hr, rfl⟩
    · cases hs
theorem ab_div_inv {kd : Nat} {g : ab_V → ab_V → ab_V} (hs : ab_div g kd pc A = some outs) (hA : ab_ok L0 h0 A ls st h) : ∃ a b v w s r, b.1 = kd ∧ a.1 = kd ∧ ab_n0d b = true ∧ st = v :: w :: s ∧ ab_okV ls h L0 h0 b (some v) ∧ ab_okV ls h L0 h0 a (some w) ∧ ab_okSt ls h L0 h0 r s ∧ outs = [(pc + 1, (A.1, g a b :: r, A.2.2))] := by
  obtain ⟨al, as, hc⟩ := A
  rcases as with _ | ⟨b, _ | ⟨a, r⟩⟩
  · cases hs
  · cases hs
  · simp only [ab_div] at hs
    split at hs
    · next hk =>
      obtain ⟨v, w, s, rfl, hv, hw, hr⟩ := ab_two (kd := 0) (kd' := 0) hA
      cases hs
      exact ⟨a, b, v, w, s, r, hk.1, hk.2.1, hk.2.2, rfl, hv, hw, hr, rfl⟩
    · cases hs
theorem ab_binS_inv {g : ab_V → ab_V → ab_V} (hs : ab_binS g pc A = some outs) (hA : ab_ok L0 h0 A ls st h) : ∃ (a b : ab_V) (x : Int64) (y : Int32) (s : List Value) (r : List ab_V), a.1 = 2 ∧ b.1 = 1 ∧ st = .int y :: .long x :: s ∧ ab_okV ls h L0 h0 b (some (.int y)) ∧ ab_okV ls h L0 h0 a (some (.long x)) ∧ ab_okSt ls h L0 h0 r s ∧ outs = [(pc + 1, (A.1, g a b :: r, A.2.2))] := by
  obtain ⟨al, as, hc⟩ := A
  rcases as with _ | ⟨b, _ | ⟨a, r⟩⟩
  · cases hs
  · cases hs
  · simp only [ab_binS] at hs
    split at hs
    · next hk =>
      obtain ⟨v, w, s, rfl, hv, hw, hr⟩ := ab_two (kd := 0) (kd' := 0) hA
      obtain ⟨y, e, -⟩ := ab_kd1 hv hk.1
      cases e
      obtain ⟨x, e, -⟩ := ab_kd2 hw hk.2
      cases e
      cases hs
      exact ⟨a, b, x, y, s, r, hk.2, hk.1, rfl, hv, hw, hr, rfl⟩
    · cases hs
set_option maxHeartbeats 4000000 in
theorem ab_step_ok {q : sm_I} (hs : ab_step sk wr q pc A = some outs) (hA : ab_ok L0 h0 A ls st h) (hS : ab_Sh sk h) : ab_to sk wr L0 h0 outs h (sm_step q pc ls st h) := by
  obtain ⟨i, len, rs⟩ := q
  cases i with
  | iconst n => exact ab_push_ok hs hA hS (ab_mkc _)
  | bipush n => exact ab_push_ok hs hA hS (ab_mkc _)
  | sipush n => exact ab_push_ok hs hA hS (ab_mkc _)
  | lconst n => exact ab_push_ok hs hA hS (ab_mkcl _)
  | ldc n =>
    simp only [ab_step] at hs
    simp only [sm_step]
    split at hs
    · exact ab_push_ok hs hA hS (ab_mkc _)
    · exact ab_push_ok hs hA hS (ab_mk3 _)
    · cases hs
  | ldc_w n =>
    simp only [ab_step] at hs
    simp only [sm_step]
    split at hs
    · exact ab_push_ok hs hA hS (ab_mkc _)
    · cases hs
  | ldc2_w n =>
    simp only [ab_step] at hs
    simp only [sm_step]
    split at hs
    · exact ab_push_ok hs hA hS (ab_mkcl _)
    · cases hs
  | iload_n k => exact ab_load1_ok hs hA hS
  | iload k => exact ab_load1_ok hs hA hS
  | lload_n k => exact ab_load2_ok hs hA hS
  | lload k => exact ab_load2_ok hs hA hS
  | aload_n k => exact ab_load3_ok hs hA hS
  | aload k => exact ab_load3_ok hs hA hS
  | istore_n k => exact ab_store1_ok hs hA hS
  | istore k => exact ab_store1_ok hs hA hS
  | astore_n k => exact ab_store3_ok hs hA hS
  | astore k => exact ab_store3_ok hs hA hS
  | lstore_n k => exact ab_store2_ok hs hA hS
  | lstore k => exact ab_store2_ok hs hA hS
  | iinc k n =>
    simp only [ab_step, ab_iinc] at hs
    split at hs
    · next v hv =>
      split at hs
      · next hk =>
        have hx := hA.1.2 k v hv
        obtain ⟨x, e, h1, h2, h3⟩ := ab_kd1 hx hk
        rw [e] at hx
        have hlt : k < ls.length := by rw [← hA.1.1]; exact (List.getElem?_eq_some_iff.mp hv).1
        have hp := ab_put1_some (ls := ls) (k := k) (w := .int (x + Int32.ofInt n)) hlt
        cases hs
        simp only [sm_step]
        rw [e]
        dsimp only
        rw [hp]
        exact ⟨_, List.mem_singleton.mpr rfl, _, st, h, rfl, ab_set1 hA (ab_add_ok hk rfl hx (ab_mkc _)) hp, hS, ab_Fr.refl⟩
      · cases hs
    · cases hs
  | iadd => exact ab_bin_ok (fun a b x y => ab_add_ok) hs hA hS
  | isub => exact ab_bin_ok (fun a b x y => ab_sub_ok) hs hA hS
  | iand => exact ab_bin_ok (fun a b x y => ab_and_ok) hs hA hS
  | imul => exact ab_bin_ok (f := (· * ·)) (fun a b x y => ab_fold_ok) hs hA hS
  | ior => exact ab_bin_ok (f := (· ||| ·)) (fun a b x y => ab_fold_ok) hs hA hS
  | ixor => exact ab_bin_ok (f := (· ^^^ ·)) (fun a b x y => ab_fold_ok) hs hA hS
  | ishl => exact ab_bin_ok (f := fun x y => x <<< (y &&& 31)) (fun a b x y => ab_fold_ok) hs hA hS
  | ishr => exact ab_bin_ok (f := fun x y => x >>> (y &&& 31)) (fun a b x y => ab_fold_ok) hs hA hS
  | iushr => exact ab_bin_ok (f := fun x y => (x.toUInt32 >>> (y.toUInt32 &&& Int32.toUInt32 31)).toInt32) (fun a b x y => ab_fold_ok) hs hA hS
  | idiv =>
    obtain ⟨a, b, v, w, s, r, kb, ka, hn, rfl, hv, hw, hr, rfl⟩ := ab_div_inv (kd := 1) hs hA
    obtain ⟨y, e, g1, g2, -⟩ := ab_kd1 hv kb
    cases e
    obtain ⟨x, e, -⟩ := ab_kd1 hw ka
    cases e
    simp only [sm_step]
    rw [if_neg (ab_n0d_ok hn g1 g2)]
    exact ab_to_same ⟨hA.1, ⟨ab_fold_ok (f := (· / ·)) ka kb hw hv, hr⟩, hA.2.2⟩ hS
  | irem =>
    obtain ⟨a, b, v, w, s, r, kb, ka, hn, rfl, hv, hw, hr, rfl⟩ := ab_div_inv (kd := 1) hs hA
    obtain ⟨y, e, g1, g2, -⟩ := ab_kd1 hv kb
    cases e
    obtain ⟨x, e, -⟩ := ab_kd1 hw ka
    cases e
    simp only [sm_step]
    rw [if_neg (ab_n0d_ok hn g1 g2)]
    exact ab_to_same ⟨hA.1, ⟨ab_fold_ok (f := fun x y => x - x / y * y) ka kb hw hv, hr⟩, hA.2.2⟩ hS
  | lrem =>
    obtain ⟨a, b, v, w, s, r, kb, ka, hn, rfl, hv, hw, hr, rfl⟩ := ab_div_inv (kd := 2) hs hA
    obtain ⟨y, e, g1, g2⟩ := ab_kd2 hv kb
    cases e
    obtain ⟨x, e, -⟩ := ab_kd2 hw ka
    cases e
    simp only [sm_step]
    rw [if_neg (ab_n0dL_ok hn g1 g2)]
    exact ab_to_same ⟨hA.1, ⟨ab_foldL_ok (f := fun x y => x - x / y * y) ka kb hw hv, hr⟩, hA.2.2⟩ hS
  | ldiv =>
    obtain ⟨a, b, v, w, s, r, kb, ka, hn, rfl, hv, hw, hr, rfl⟩ := ab_div_inv (kd := 2) hs hA
    obtain ⟨y, e, g1, g2⟩ := ab_kd2 hv kb
    cases e
    obtain ⟨x, e, -⟩ := ab_kd2 hw ka
    cases e
    simp only [sm_step]
    rw [if_neg (ab_n0dL_ok hn g1 g2)]
    exact ab_to_same ⟨hA.1, ⟨ab_foldL_ok (f := (· / ·)) ka kb hw hv, hr⟩, hA.2.2⟩ hS
  | ineg =>
    obtain ⟨a, v, s, r, ea, hk, rfl, hv, hr, rfl⟩ := ab_un_inv (kd := 1) hs hA
    obtain ⟨x, e, -⟩ := ab_kd1 hv hk
    cases e
    exact ab_to_same ⟨hA.1, ⟨ab_mkt _, hr⟩, hA.2.2⟩ hS
  | ladd => exact ab_binL_ok (f := (· + ·)) (fun a b x y => ab_foldL_ok) hs hA hS
  | lsub => exact ab_binL_ok (f := (· - ·)) (fun a b x y => ab_foldL_ok) hs hA hS
  | lmul => exact ab_binL_ok (f := (· * ·)) (fun a b x y => ab_foldL_ok) hs hA hS
  | land => exact ab_binL_ok (f := (· &&& ·)) (fun a b x y => ab_foldL_ok) hs hA hS
  | lor => exact ab_binL_ok (f := (· ||| ·)) (fun a b x y => ab_foldL_ok) hs hA hS
  | lxor => exact ab_binL_ok (f := (· ^^^ ·)) (fun a b x y => ab_foldL_ok) hs hA hS
  | lushr =>
    obtain ⟨a, b, x, y, s, r, ka, kb, rfl, hb, ha, hr, rfl⟩ := ab_binS_inv hs hA
    exact ab_to_same ⟨hA.1, ⟨ab_foldS_ok (f := fun x y => (x.toUInt64 >>> (y.toInt64.toUInt64 &&& Int64.toUInt64 63)).toInt64) ka kb ha hb, hr⟩, hA.2.2⟩ hS
  | lshl =>
    obtain ⟨a, b, x, y, s, r, ka, kb, rfl, hb, ha, hr, rfl⟩ := ab_binS_inv hs hA
    exact ab_to_same ⟨hA.1, ⟨ab_foldS_ok (f := fun x y => x <<< (y.toInt64 &&& 63)) ka kb ha hb, hr⟩, hA.2.2⟩ hS
  | lshr =>
    obtain ⟨a, b, x, y, s, r, ka, kb, rfl, hb, ha, hr, rfl⟩ := ab_binS_inv hs hA
    exact ab_to_same ⟨hA.1, ⟨ab_foldS_ok (f := fun x y => x >>> (y.toInt64 &&& 63)) ka kb ha hb, hr⟩, hA.2.2⟩ hS
  | lcmp =>
    simp only [ab_step] at hs
    obtain ⟨al, as, hc⟩ := A
    rcases as with _ | ⟨b, _ | ⟨a, r⟩⟩
    · cases hs
    · cases hs
    · simp only [ab_binL] at hs
      split at hs
      · next hk =>
        obtain ⟨v, w, s, rfl, hv, hw, hr⟩ := ab_two (kd := 0) (kd' := 0) hA
        obtain ⟨y, e, -⟩ := ab_kd2 hv hk.1
        cases e
        obtain ⟨x, e, -⟩ := ab_kd2 hw hk.2
        cases e
        cases hs
        exact ab_to_same ⟨hA.1, ⟨ab_lcmp_ok hk.2 hk.1 hw hv, hr⟩, hA.2.2⟩ hS
      · cases hs
  | i2l =>
    obtain ⟨a, v, s, r, ea, hk, rfl, hv, hr, rfl⟩ := ab_un_inv (kd := 1) hs hA
    obtain ⟨x, e, h1, h2, -⟩ := ab_kd1 hv hk
    cases e
    exact ab_to_same ⟨hA.1, ⟨ab_mk2 (by rw [Int32.toInt_toInt64]; exact h1) (by rw [Int32.toInt_toInt64]; exact h2), hr⟩, hA.2.2⟩ hS
  | l2i =>
    obtain ⟨a, v, s, r, ea, hk, rfl, hv, hr, rfl⟩ := ab_un_inv (kd := 2) hs hA
    obtain ⟨x, e, h1, h2⟩ := ab_kd2 hv hk
    cases e
    refine ab_to_same ⟨hA.1, ⟨?_, hr⟩, hA.2.2⟩ hS
    split
    · next hc =>
      simp only [ab_inI, decide_eq_true_eq] at hc
      have e2 : x.toInt32.toInt = x.toInt := by rw [Int64.toInt_toInt32]; exact ab_bm (by omega) (by omega)
      exact ab_mk1 (by rw [e2]; exact h1) (by rw [e2]; exact h2) (fun _ ht => absurd ht List.not_mem_nil)
    · exact ab_mkt _
  | i2c =>
    obtain ⟨a, v, s, r, ea, hk, rfl, hv, hr, rfl⟩ := ab_un_inv (kd := 1) hs hA
    obtain ⟨x, e, h1, h2, -⟩ := ab_kd1 hv hk
    cases e
    exact ab_to_same ⟨hA.1, ⟨ab_chr_ok hk hv, hr⟩, hA.2.2⟩ hS
  | i2b =>
    obtain ⟨a, v, s, r, ea, hk, rfl, hv, hr, rfl⟩ := ab_un_inv (kd := 1) hs hA
    obtain ⟨x, e, -⟩ := ab_kd1 hv hk
    cases e
    exact ab_to_same ⟨hA.1, ⟨ab_mkt _, hr⟩, hA.2.2⟩ hS
  | dup =>
    obtain ⟨al, as, hc⟩ := A
    rcases as with _ | ⟨a, r⟩
    · cases hs
    · simp only [ab_step] at hs
      split at hs
      · next hk =>
        obtain ⟨v, s, rfl, hv, hr⟩ := ab_pop hA.2.1
        cases hs
        rcases ab_c1_cat hv hk with ⟨x, rfl⟩ | ⟨x, rfl⟩
        · exact ab_to_same ⟨hA.1, ⟨hv, hv, hr⟩, hA.2.2⟩ hS
        · exact ab_to_same ⟨hA.1, ⟨hv, hv, hr⟩, hA.2.2⟩ hS
      · cases hs
  | pop =>
    obtain ⟨al, as, hc⟩ := A
    rcases as with _ | ⟨a, r⟩
    · cases hs
    · simp only [ab_step] at hs
      split at hs
      · next hk =>
        obtain ⟨v, s, rfl, hv, hr⟩ := ab_pop hA.2.1
        cases hs
        rcases ab_c1_cat hv hk with ⟨x, rfl⟩ | ⟨x, rfl⟩
        · exact ab_to_same ⟨hA.1, hr, hA.2.2⟩ hS
        · exact ab_to_same ⟨hA.1, hr, hA.2.2⟩ hS
      · cases hs
  | dup_x1 =>
    obtain ⟨al, as, hc⟩ := A
    rcases as with _ | ⟨a, _ | ⟨b, r⟩⟩
    · cases hs
    · cases hs
    · simp only [ab_step] at hs
      split at hs
      · next hk =>
        obtain ⟨v, w, s, rfl, hv, hw, hr⟩ := ab_two (kd := 0) (kd' := 0) hA
        cases hs
        rcases ab_c1_cat hv hk.1 with ⟨x, rfl⟩ | ⟨x, rfl⟩ <;> rcases ab_c1_cat hw hk.2 with ⟨y, rfl⟩ | ⟨y, rfl⟩ <;>
          exact ab_to_same ⟨hA.1, ⟨hv, hw, hv, hr⟩, hA.2.2⟩ hS
      · cases hs
  | dup_x2 =>
    obtain ⟨al, as, hc⟩ := A
    rcases as with _ | ⟨a, _ | ⟨b, _ | ⟨c, r⟩⟩⟩
    · cases hs
    · cases hs
    · cases hs
    · simp only [ab_step] at hs
      split at hs
      · next hk =>
        obtain ⟨v, s1, rfl, hv, hr1⟩ := ab_pop hA.2.1
        obtain ⟨w, s2, rfl, hw, hr2⟩ := ab_pop hr1
        obtain ⟨u, s, rfl, hu, hr⟩ := ab_pop hr2
        cases hs
        rcases ab_c1_cat hv hk.1 with ⟨x, rfl⟩ | ⟨x, rfl⟩ <;> rcases ab_c1_cat hw hk.2.1 with ⟨y, rfl⟩ | ⟨y, rfl⟩ <;> rcases ab_c1_cat hu hk.2.2 with ⟨z, rfl⟩ | ⟨z, rfl⟩ <;>
          exact ab_to_same ⟨hA.1, ⟨hv, hw, hu, hv, hr⟩, hA.2.2⟩ hS
      · cases hs
  | dup2 =>
    obtain ⟨al, as, hc⟩ := A
    rcases as with _ | ⟨a, r⟩
    · cases hs
    · simp only [ab_step] at hs
      split at hs
      · next hk =>
        obtain ⟨v, s, rfl, hv, hr⟩ := ab_pop hA.2.1
        obtain ⟨x, e, -⟩ := ab_kd2 hv hk
        cases e
        cases hs
        exact ab_to_same ⟨hA.1, ⟨hv, hv, hr⟩, hA.2.2⟩ hS
      · split at hs
        · next b r2 =>
          split at hs
          · next hk =>
            obtain ⟨v, w, s, rfl, hv, hw, hr⟩ := ab_two (kd := 0) (kd' := 0) hA
            cases hs
            rcases ab_c1_cat hv hk.1 with ⟨x, rfl⟩ | ⟨x, rfl⟩ <;> rcases ab_c1_cat hw hk.2 with ⟨y, rfl⟩ | ⟨y, rfl⟩ <;>
              exact ab_to_same ⟨hA.1, ⟨hv, hw, hv, hw, hr⟩, hA.2.2⟩ hS
          · cases hs
        · cases hs
  | pop2 =>
    obtain ⟨al, as, hc⟩ := A
    rcases as with _ | ⟨a, r⟩
    · cases hs
    · simp only [ab_step] at hs
      split at hs
      · next hk =>
        obtain ⟨v, s, rfl, hv, hr⟩ := ab_pop hA.2.1
        obtain ⟨x, e, -⟩ := ab_kd2 hv hk
        cases e
        cases hs
        exact ab_to_same ⟨hA.1, hr, hA.2.2⟩ hS
      · split at hs
        · next b r2 =>
          split at hs
          · next hk =>
            obtain ⟨v, w, s, rfl, hv, hw, hr⟩ := ab_two (kd := 0) (kd' := 0) hA
            cases hs
            rcases ab_c1_cat hv hk.1 with ⟨x, rfl⟩ | ⟨x, rfl⟩ <;> rcases ab_c1_cat hw hk.2 with ⟨y, rfl⟩ | ⟨y, rfl⟩ <;>
              exact ab_to_same ⟨hA.1, hr, hA.2.2⟩ hS
          · cases hs
        · cases hs
  | if_icmp c off =>
    obtain ⟨al, as, hc⟩ := A
    rcases as with _ | ⟨b, _ | ⟨a, r⟩⟩
    · cases hs
    · cases hs
    · have hs' : ab_if c a b pc off (al, r, hc) = some outs := hs
      obtain ⟨v, w, s, rfl, hv, hw, hr⟩ := ab_two (kd := 0) (kd' := 0) hA
      have hk : a.1 = 1 ∧ b.1 = 1 := by
        unfold ab_if at hs'
        split at hs'
        · next hk => exact hk
        · cases hs'
      obtain ⟨y, e, -⟩ := ab_kd1 hv hk.2
      cases e
      obtain ⟨x, e, -⟩ := ab_kd1 hw hk.1
      cases e
      exact ab_if_ok hs' hw hv ⟨hA.1, hr, hA.2.2⟩ hS
  | ifCond c off =>
    obtain ⟨al, as, hc⟩ := A
    rcases as with _ | ⟨a, r⟩
    · cases hs
    · have hs' : ab_if c a (ab_ci 0) pc off (al, r, hc) = some outs := hs
      obtain ⟨v, s, rfl, hv, hr⟩ := ab_pop hA.2.1
      have hk : a.1 = 1 := by
        unfold ab_if at hs'
        split at hs'
        · next hk => exact hk.1
        · cases hs'
      obtain ⟨x, e, -⟩ := ab_kd1 hv hk
      cases e
      exact ab_if_ok hs' hv (ab_mkc (0 : Int32)) ⟨hA.1, hr, hA.2.2⟩ hS
  | goto off =>
    cases hs
    exact ab_to_same hA hS
  | tableswitch d lo hi offs =>
    obtain ⟨al, as, hc⟩ := A
    rcases as with _ | ⟨a, r⟩
    · cases hs
    · simp only [ab_step, ab_switch] at hs
      split at hs
      · next hk =>
        obtain ⟨v, s, rfl, hv, hr⟩ := ab_pop hA.2.1
        obtain ⟨x, e, h1, h2, h3⟩ := ab_kd1 hv hk.1
        cases e
        cases hs
        have hA2 : ab_ok L0 h0 (al, r, hc) ls s h := ⟨hA.1, hr, hA.2.2⟩
        simp only [sm_step]
        by_cases hout : x.toInt < lo ∨ hi < x.toInt
        · rw [if_pos hout]
          refine ⟨(sm_jmp pc d, (al, r, hc)), List.mem_append_left _ ?_, ls, s, h, rfl, hA2, hS, ab_Fr.refl⟩
          rw [if_neg (by omega)]
          exact List.mem_singleton.mpr rfl
        · rw [if_neg hout]
          have hsz := hk.2
          rw [Array.length_toList] at hsz
          have hlt : (x.toInt - lo).toNat < offs.size := by omega
          have ho : offs.toList[(x.toInt - lo).toNat]? = some offs[(x.toInt - lo).toNat] := by rw [Array.getElem?_toList]; exact Array.getElem?_eq_getElem hlt
          obtain ⟨A', m1, m2⟩ := ab_sw_ok (pc := pc) hk.1 hv hA2 offs.toList lo (by omega) ho
          rw [Array.getElem?_eq_getElem hlt]
          exact ⟨_, List.mem_append_right _ m1, ls, s, h, rfl, m2, hS, ab_Fr.refl⟩
      · cases hs
  | arraylength => exact ab_alen_ok hs hA hS
  | iaload => exact ab_ald_ok hs hA hS
  | caload => exact ab_ald_ok hs hA hS
  | baload =>
    simp only [ab_step] at hs
    simp only [sm_step]
    split at hs
    · next o ho =>
      cases hs
      obtain ⟨o1, m1, ls', st', h', e, z⟩ := ab_ald_ok (wr := wr) ho hA hS
      rw [e]
      exact ⟨o1, m1, ls', st', h', rfl, z⟩
    · obtain ⟨o1, m1, ls', st', h', e, z⟩ := ab_ald_ok (wr := wr) hs hA hS
      rw [ab_ald34 e]
      exact ⟨o1, m1, ls', st', h', e, z⟩
  | iastore => exact ab_ast_ok (g := fun x => x) (fun a x ka ha => ⟨ka, ha⟩) hs hA hS
  | bastore => exact ab_ast_ok (g := fun x => x &&& 1) (fun a x ka ha => ⟨rfl, ab_mk1 (ab_and_le (by decide)).1 (ab_and_le (x := x) (y := 1) (by decide)).2 (fun _ ht => absurd ht List.not_mem_nil)⟩) hs hA hS
  | castore => exact ab_ast_ok (g := sm_chr) (fun a x ka ha => ⟨by show (ab_chr a).1 = 1; unfold ab_chr; split; exact ka; rfl, ab_chr_ok ka ha⟩) hs hA hS
  | laload => exact ab_aldL_ok hs hA hS
  | lastore => exact ab_astL_ok hs hA hS
  | getstatic n =>
    simp only [ab_step] at hs
    simp only [sm_step]
    split at hs
    · exact ab_push_ok hs hA hS (ab_mkc _)
    · cases hs
  | getfield n => exact ab_getf_ok hs hA hS
  | putfield n => exact ab_putf_ok hs hA hS
  | invokestatic n =>
    obtain ⟨al, as, hc⟩ := A
    simp only [ab_step] at hs
    split at hs
    · rcases as with _ | ⟨b, _ | ⟨a, r⟩⟩
      · cases hs
      · cases hs
      · dsimp only at hs
        split at hs
        · next hk =>
          obtain ⟨v, w, s, rfl, hv, hw, hr⟩ := ab_two (kd := 0) (kd' := 0) hA
          obtain ⟨y, e, -⟩ := ab_kd1 hv hk.1
          cases e
          obtain ⟨x, e, -⟩ := ab_kd1 hw hk.2.1
          cases e
          cases hs
          simp only [sm_step]
          rw [if_pos (ab_cats_le hr hk.2.2)]
          exact ab_to_same ⟨hA.1, ⟨ab_mm_ok hk.2.1 hk.1 hw hv, hr⟩, hA.2.2⟩ hS
        · cases hs
    · rcases as with _ | ⟨b, _ | ⟨a, r⟩⟩
      · cases hs
      · cases hs
      · dsimp only at hs
        split at hs
        · next hk =>
          obtain ⟨v, w, s, rfl, hv, hw, hr⟩ := ab_two (kd := 0) (kd' := 0) hA
          obtain ⟨y, e, b1, b2, -⟩ := ab_kd1 hv hk.1
          cases e
          obtain ⟨x, e, a1, a2, -⟩ := ab_kd1 hw hk.2.1
          cases e
          cases hs
          simp only [sm_step]
          have e0 : (0 : Int32).toInt = 0 := rfl
          rw [if_pos ⟨by rw [Int32.lt_iff_toInt_lt]; omega, by rw [Int32.lt_iff_toInt_lt]; omega, ab_cats_le hr hk.2.2.2.2⟩]
          exact ab_to_same ⟨hA.1, hr, hA.2.2⟩ hS
        · cases hs
    · cases hs
  | _ => exact absurd hs (by simp [ab_step])
end ABH
