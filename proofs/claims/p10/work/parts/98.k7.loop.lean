/-! THE LAW'S LOOP, round by round -/
section C5
variable {L : Nat} {xs : Nat → Int32}
theorem c5_len {h : sm_H} {pc : Nat} {ls : sm_L} {s : List Value} (hJ : lj_J M9 L xs h) : sm_step (.arraylength, 1, []) pc ls (.ref 0 :: s) h = some (.inl (pc + 1, ls, .int (Int32.ofNat L) :: s, h)) := by
  simp only [sm_step]
  rw [hJ.2.2]
  rfl
set_option maxRecDepth 20000 in
theorem c5_sw {v : Int32} {ls : sm_L} {h : sm_H} {j : Nat} {off : Int} (hv : v.toInt = (j : Int)) (hj : j < 15) (ho : (#[73, 115, 143, 171, 184, 224, 240, 312, 352, 459, 475, 503, 516, 529, 545] : Array Int)[j]? = some off) : sm_step (.tableswitch 570 0 14 #[73, 115, 143, 171, 184, 224, 240, 312, 352, 459, 475, 503, 516, 529, 545], 73, []) 39 ls [.int v] h = some (.inl (sm_jmp 39 off, ls, [], h)) := by
  simp only [sm_step]
  have e : (v.toInt - 0).toNat = j := by omega
  rw [if_neg (by omega), e, ho]
  rfl
set_option maxRecDepth 20000 in
set_option maxHeartbeats 2000000 in
theorem c5_loop {C S : Nat} (hL : L ≤ 2048) : ∀ (N : Nat) (x : Int32) (a b c : Option Value) (h : sm_H), 0 ≤ x.toInt → x.toInt ≤ 2052 → (L : Int) < x.toInt + 4 * (N : Int) + 4 → ab_Sh sx_sk h → lj_J M9 L xs h → h.length + N ≤ C → sm_sl h + 6 * N ≤ S → lb_Ends sc_P sc_PW sl_tab 300 23 (xl_ls x a b c) [] h (fun h' => h'.length ≤ C ∧ sm_sl h' ≤ S) := by
  intro N
  induction N with
  | zero =>
    intro x a b c h h0 h1 h2 hSh hJ hC hS
    have eL : (Int32.ofNat L).toInt = (L : Int) := Int32.toInt_ofInt_of_le (n := (L : Int)) (by omega) (by omega)
    have e4 : (Int32.ofInt 4).toInt = 4 := rfl
    have ey : (Int32.ofNat L - Int32.ofInt 4).toInt = (L : Int) - 4 := by
      rw [Int32.toInt_sub, eL, e4]
      exact ab_bm (by omega) (by omega)
    refine lb_Ends.step (q := (.iload 4, 2, [])) rfl rfl ?_
    refine lb_Ends.step (q := (.aload_n 0, 1, [])) rfl rfl ?_
    refine lb_Ends.step (q := (.arraylength, 1, [])) rfl (c5_len hJ) ?_
    refine lb_Ends.step (q := (.iconst 4, 1, [])) rfl rfl ?_
    refine lb_Ends.step (q := (.isub, 1, [])) rfl rfl ?_
    refine lb_Ends.step (q := (.if_icmp .gt 586, 3, [])) (pc' := 615) (ls' := xl_ls x a b c) (st' := []) (h' := h) rfl ?_ ?_
    · simp only [sm_step, sm_if]
      rw [ab_cmp]
      dsimp only
      rw [decide_eq_true (by omega)]
      rfl
    · refine lb_Ends.step (q := (.iconst 1, 1, [])) rfl rfl ?_
      exact lb_Ends.ret (q := (.ireturn, 1, [])) rfl rfl ⟨by omega, by omega⟩
  | succ N ih =>
    intro x a b c h h0 h1 h2 hSh hJ hC hS
    have eL : (Int32.ofNat L).toInt = (L : Int) := Int32.toInt_ofInt_of_le (n := (L : Int)) (by omega) (by omega)
    have e4 : (Int32.ofInt 4).toInt = 4 := rfl
    have ey : (Int32.ofNat L - Int32.ofInt 4).toInt = (L : Int) - 4 := by
      rw [Int32.toInt_sub, eL, e4]
      exact ab_bm (by omega) (by omega)
    refine lb_Ends.step (q := (.iload 4, 2, [])) rfl rfl ?_
    refine lb_Ends.step (q := (.aload_n 0, 1, [])) rfl rfl ?_
    refine lb_Ends.step (q := (.arraylength, 1, [])) rfl (c5_len hJ) ?_
    refine lb_Ends.step (q := (.iconst 4, 1, [])) rfl rfl ?_
    refine lb_Ends.step (q := (.isub, 1, [])) rfl rfl ?_
    by_cases hgt : (L : Int) - 4 < x.toInt
    · refine lb_Ends.step (q := (.if_icmp .gt 586, 3, [])) (pc' := 615) (ls' := xl_ls x a b c) (st' := []) (h' := h) rfl ?_ ?_
      · simp only [sm_step, sm_if]
        rw [ab_cmp]
        dsimp only
        rw [decide_eq_true (by omega)]
        rfl
      · refine lb_Ends.step (q := (.iconst 1, 1, [])) rfl rfl ?_
        exact lb_Ends.ret (q := (.ireturn, 1, [])) rfl rfl ⟨by omega, by omega⟩
    · have hx : 0 ≤ x.toInt ∧ x.toInt + 4 ≤ (L : Int) := ⟨h0, by omega⟩
      refine lb_Ends.step (q := (.if_icmp .gt 586, 3, [])) (pc' := 32) (ls' := xl_ls x a b c) (st' := []) (h' := h) rfl ?_ ?_
      · simp only [sm_step, sm_if]
        rw [ab_cmp]
        dsimp only
        rw [decide_eq_false (by omega)]
        rfl
      have kk : ∀ (a b c : Option Value) (h' : sm_H), ab_Sh sx_sk h' → lj_J M9 L xs h' → h'.length ≤ h.length + 1 → sm_sl h' ≤ sm_sl h + 6 → lb_Ends sc_P sc_PW sl_tab 300 609 (xl_ls x a b c) [] h' (fun h' => h'.length ≤ C ∧ sm_sl h' ≤ S) := by
        intro a b c h' g1 g2 g3 g4
        have e5 := lj_add (c := 4) (by decide) hx hL
        refine lb_Ends.step (q := (.iinc 4 4, 3, [])) (ls' := xl_ls (x + Int32.ofInt 4) a b c) rfl rfl ?_
        refine lb_Ends.step (q := (.goto (-589), 3, [])) rfl rfl ?_
        exact ih (x + Int32.ofInt 4) a b c h' (by omega) (by omega) (by omega) g1 g2 (by omega) (by omega)
      refine lb_Ends.step (q := (.aload_n 0, 1, [])) rfl rfl ?_
      refine lb_Ends.step (q := (.iload 4, 2, [])) rfl rfl ?_
      refine lb_Ends.step (q := (.iaload, 1, [])) rfl (lj_load hJ ⟨by omega, by omega⟩) ?_
      refine lb_Ends.step (q := (.bipush 15, 2, [])) rfl rfl ?_
      refine lb_Ends.step (q := (.iand, 1, [])) rfl rfl ?_
      have hb := ab_and_le (x := xs x.toNatClampNeg) (y := (Int8.ofInt 15).toInt32) (by decide)
      have h15 : ((Int8.ofInt 15).toInt32).toInt = 15 := rfl
      rw [h15] at hb
      show lb_Ends sc_P sc_PW sl_tab 300 39 (xl_ls x a b c) [.int (xs x.toNatClampNeg &&& (Int8.ofInt 15).toInt32)] h _
      generalize xs x.toNatClampNeg &&& (Int8.ofInt 15).toInt32 = v at hb ⊢
      have hcs : v.toInt = 0 ∨ v.toInt = 1 ∨ v.toInt = 2 ∨ v.toInt = 3 ∨ v.toInt = 4 ∨ v.toInt = 5 ∨ v.toInt = 6 ∨ v.toInt = 7 ∨ v.toInt = 8 ∨ v.toInt = 9 ∨ v.toInt = 10 ∨ v.toInt = 11 ∨ v.toInt = 12 ∨ v.toInt = 13 ∨ v.toInt = 14 ∨ v.toInt = 15 := by omega
      rcases hcs with hv | hv | hv | hv | hv | hv | hv | hv | hv | hv | hv | hv | hv | hv | hv | hv
      · exact lb_Ends.step (q := (.tableswitch 570 0 14 #[73, 115, 143, 171, 184, 224, 240, 312, 352, 459, 475, 503, 516, 529, 545], 73, [])) rfl (c5_sw (j := 0) hv (by decide) rfl) (c9_0 hL hx hSh hJ (Nat.le_refl _) (Nat.le_refl _) kk)
      · exact lb_Ends.step (q := (.tableswitch 570 0 14 #[73, 115, 143, 171, 184, 224, 240, 312, 352, 459, 475, 503, 516, 529, 545], 73, [])) rfl (c5_sw (j := 1) hv (by decide) rfl) (c9_1 hL hx hSh hJ (Nat.le_refl _) (Nat.le_refl _) kk)
      · exact lb_Ends.step (q := (.tableswitch 570 0 14 #[73, 115, 143, 171, 184, 224, 240, 312, 352, 459, 475, 503, 516, 529, 545], 73, [])) rfl (c5_sw (j := 2) hv (by decide) rfl) (c9_2 hL hx hSh hJ (Nat.le_refl _) (Nat.le_refl _) kk)
      · exact lb_Ends.step (q := (.tableswitch 570 0 14 #[73, 115, 143, 171, 184, 224, 240, 312, 352, 459, 475, 503, 516, 529, 545], 73, [])) rfl (c5_sw (j := 3) hv (by decide) rfl) (c9_3 hL hx hSh hJ (Nat.le_refl _) (Nat.le_refl _) kk)
      · exact lb_Ends.step (q := (.tableswitch 570 0 14 #[73, 115, 143, 171, 184, 224, 240, 312, 352, 459, 475, 503, 516, 529, 545], 73, [])) rfl (c5_sw (j := 4) hv (by decide) rfl) (c4_go hL xl_4 hx hSh hJ (Nat.le_refl _) (Nat.le_refl _) kk)
      · exact lb_Ends.step (q := (.tableswitch 570 0 14 #[73, 115, 143, 171, 184, 224, 240, 312, 352, 459, 475, 503, 516, 529, 545], 73, [])) rfl (c5_sw (j := 5) hv (by decide) rfl) (c9_5 hL hx hSh hJ (Nat.le_refl _) (Nat.le_refl _) kk)
      · exact lb_Ends.step (q := (.tableswitch 570 0 14 #[73, 115, 143, 171, 184, 224, 240, 312, 352, 459, 475, 503, 516, 529, 545], 73, [])) rfl (c5_sw (j := 6) hv (by decide) rfl) (c9_6 hL hx hSh hJ (Nat.le_refl _) (Nat.le_refl _) kk)
      · exact lb_Ends.step (q := (.tableswitch 570 0 14 #[73, 115, 143, 171, 184, 224, 240, 312, 352, 459, 475, 503, 516, 529, 545], 73, [])) rfl (c5_sw (j := 7) hv (by decide) rfl) (c9_7 hL hx hSh hJ (Nat.le_refl _) (Nat.le_refl _) kk)
      · exact lb_Ends.step (q := (.tableswitch 570 0 14 #[73, 115, 143, 171, 184, 224, 240, 312, 352, 459, 475, 503, 516, 529, 545], 73, [])) rfl (c5_sw (j := 8) hv (by decide) rfl) (c9_8 hL hx hSh hJ (Nat.le_refl _) (Nat.le_refl _) kk)
      · exact lb_Ends.step (q := (.tableswitch 570 0 14 #[73, 115, 143, 171, 184, 224, 240, 312, 352, 459, 475, 503, 516, 529, 545], 73, [])) rfl (c5_sw (j := 9) hv (by decide) rfl) (c9_9 hL hx hSh hJ (Nat.le_refl _) (Nat.le_refl _) kk)
      · exact lb_Ends.step (q := (.tableswitch 570 0 14 #[73, 115, 143, 171, 184, 224, 240, 312, 352, 459, 475, 503, 516, 529, 545], 73, [])) rfl (c5_sw (j := 10) hv (by decide) rfl) (c4_go hL xl_10 hx hSh hJ (Nat.le_refl _) (Nat.le_refl _) kk)
      · exact lb_Ends.step (q := (.tableswitch 570 0 14 #[73, 115, 143, 171, 184, 224, 240, 312, 352, 459, 475, 503, 516, 529, 545], 73, [])) rfl (c5_sw (j := 11) hv (by decide) rfl) (c9_11 hL hx hSh hJ (Nat.le_refl _) (Nat.le_refl _) kk)
      · exact lb_Ends.step (q := (.tableswitch 570 0 14 #[73, 115, 143, 171, 184, 224, 240, 312, 352, 459, 475, 503, 516, 529, 545], 73, [])) rfl (c5_sw (j := 12) hv (by decide) rfl) (c9_12 hL hx hSh hJ (Nat.le_refl _) (Nat.le_refl _) kk)
      · exact lb_Ends.step (q := (.tableswitch 570 0 14 #[73, 115, 143, 171, 184, 224, 240, 312, 352, 459, 475, 503, 516, 529, 545], 73, [])) rfl (c5_sw (j := 13) hv (by decide) rfl) (c4_go hL xl_13 hx hSh hJ (Nat.le_refl _) (Nat.le_refl _) kk)
      · exact lb_Ends.step (q := (.tableswitch 570 0 14 #[73, 115, 143, 171, 184, 224, 240, 312, 352, 459, 475, 503, 516, 529, 545], 73, [])) rfl (c5_sw (j := 14) hv (by decide) rfl) (c4_go hL xl_14 hx hSh hJ (Nat.le_refl _) (Nat.le_refl _) kk)
      · refine lb_Ends.step (q := (.tableswitch 570 0 14 #[73, 115, 143, 171, 184, 224, 240, 312, 352, 459, 475, 503, 516, 529, 545], 73, [])) (pc' := 609) (ls' := xl_ls x a b c) (st' := []) (h' := h) rfl ?_ (kk a b c h hSh hJ (by omega) (by omega))
        simp only [sm_step]
        rw [if_pos (by omega)]
        rfl
end C5
