/-! THE LAW'S LOOP, round by round -/
section C5
variable {L : Nat} {xs : Nat → Int32}
theorem c5_len {h : sm_H} {pc : Nat} {ls : sm_L} {s : List Value} (hJ : lj_J M9 L xs h) : sm_step (.arraylength, 1, []) pc ls (.ref 0 :: s) h = some (.inl (pc + 1, ls, .int (Int32.ofNat L) :: s, h)) := by
  simp only [sm_step]
  rw [hJ.2.2]
  rfl
set_option maxRecDepth 20000 in
theorem c5_sw {v : Int32} {ls : sm_L} {h : sm_H} {j : Nat} {off : Int} (hv : v.toInt = (j : Int)) (hj : j < 15) (ho : (#[73, 115, 143, 171, 184, 224, 240, 312, 352, 424, 440, 468, 481, 494, 510] : Array Int)[j]? = some off) : sm_step (.tableswitch 535 0 14 #[73, 115, 143, 171, 184, 224, 240, 312, 352, 424, 440, 468, 481, 494, 510], 73, []) 39 ls [.int v] h = some (.inl (sm_jmp 39 off, ls, [], h)) := by
  simp only [sm_step]
  have e : (v.toInt - 0).toNat = j := by omega
  rw [if_neg (by omega), e, ho]
  rfl
set_option maxRecDepth 20000 in
set_option maxHeartbeats 2000000 in
theorem c5_loop {C S : Nat} (hL : L ≤ 2048) : ∀ (N : Nat) (x : Int32) (a b c : Option Value) (h : sm_H), 0 ≤ x.toInt → x.toInt ≤ 2052 → (L : Int) < x.toInt + 4 * (N : Int) + 4 → ab_Sh sx_sk h → lj_J M9 L xs h → h.length + N ≤ C → sm_sl h + 6 * N ≤ S → lb_Ends sc_P sc_PW sl_tab 300 23 (xl_ls x a b c) [] h (fun h' => h'.length ≤ C ∧ sm_sl h' ≤ S) := by
  intro N
  induction N with
  | zero =>
    intro x a b c h h0 h1 h2 hSh hJ hC hS
    have eL : (Int32.ofNat L).toInt = (L : Int) := Int32.toInt_ofInt_of_le (n := (L : Int)) (by omega) (by omega)
    have e4 : (Int32.ofInt 4).toInt = 4 := rfl
    have ey : (Int32.ofNat L - Int32.ofInt 4).toInt = (L : Int) - 4 := by
      rw [Int32.toInt_sub, eL, e4]
      exact ab_bm (by omega) (by omega)
    refine lb_Ends.step (q := (.iload 4, 2, [])) rfl rfl ?_
    refine lb_Ends.step (q := (.aload_n 0, 1, [])) rfl rfl ?_
    refine lb_Ends.step (q := (.arraylength, 1, [])) rfl (c5_len hJ) ?_
    refine lb_Ends.step (q := (.iconst 4, 1, [])) rfl rfl ?_
    refine lb_Ends.step (q := (.isub, 1, [])) rfl rfl ?_
    refine lb_Ends.step (q := (.if_icmp .gt 551, 3, [])) (pc' := 580) (ls' := xl_ls x a b c) (st' := []) (h' := h) rfl ?_ ?_
    · simp only [sm_step, sm_if]
      rw [ab_cmp]
      dsimp only
      rw [decide_eq_true (by omega)]
      rfl
    · refine lb_Ends.step (q := (.iconst 1, 1, [])) rfl rfl ?_
      exact lb_Ends.ret (q := (.ireturn, 1, [])) rfl rfl ⟨by omega, by omega⟩
  | succ N ih =>
    intro x a b c h h0 h1 h2 hSh hJ hC hS
    have eL : (Int32.ofNat L).toInt = (L : Int) := Int32.toInt_ofInt_of_le (n := (L : Int)) (by omega) (by omega)
    have e4 : (Int32.ofInt 4).toInt = 4 := rfl
    have ey : (Int32.ofNat L - Int32.ofInt 4).toInt = (L : Int) - 4 := by
      rw [Int32.toInt_sub, eL, e4]
      exact ab_bm (by omega) (by omega)
    refine lb_Ends.step (q := (.iload 4, 2, [])) rfl rfl ?_
    refine lb_Ends.step (q := (.aload_n 0, 1, [])) rfl rfl ?_
    refine lb_Ends.step (q := (.arraylength, 1, [])) rfl (c5_len hJ) ?_
    refine lb_Ends.step (q := (.iconst 4, 1, [])) rfl rfl ?_
    refine lb_Ends.step (q := (.isub, 1, [])) rfl rfl ?_
    by_cases hgt : (L : Int) - 4 < x.toInt
    · refine lb_Ends.step (q := (.if_icmp .gt 551, 3, [])) (pc' := 580) (ls' := xl_ls x a b c) (st' := []) (h' := h) rfl ?_ ?_
      · simp only [sm_step, sm_if]
        rw [ab_cmp]
        dsimp only
        rw [decide_eq_true (by omega)]
        rfl
      · refine lb_Ends.step (q := (.iconst 1, 1, [])) rfl rfl ?_
        exact lb_Ends.ret (q := (.ireturn, 1, [])) rfl rfl ⟨by omega, by omega⟩
    · have hx : 0 ≤ x.toInt ∧ x.toInt + 4 ≤ (L : Int) := ⟨h0, by omega⟩
      refine lb_Ends.step (q := (.if_icmp .gt 551, 3, [])) (pc' := 32) (ls' := xl_ls x a b c) (st' := []) (h' := h) rfl ?_ ?_
      · simp only [sm_step, sm_if]
        rw [ab_cmp]
        dsimp only
        rw [decide_eq_false (by omega)]
        rfl
      have kk : ∀ (a b c : Option Value) (h' : sm_H), ab_Sh sx_sk h' → lj_J M9 L xs h' → h'.length ≤ h.length + 1 → sm_sl h' ≤ sm_sl h + 6 → lb_Ends sc_P sc_PW sl_tab 300 574 (xl_ls x a b c) [] h' (fun h' => h'.length ≤ C ∧ sm_sl h' ≤ S) := by
        intro a b c h' g1 g2 g3 g4
        have e5 := lj_add (c := 4) (by decide) hx hL
        refine lb_Ends.step (q := (.iinc 4 4, 3, [])) (ls' := xl_ls (x + Int32.ofInt 4) a b c) rfl rfl ?_
        refine lb_Ends.step (q := (.goto (-554), 3, [])) rfl rfl ?_
        exact ih (x + Int32.ofInt 4) a b c h' (by omega) (by omega) (by omega) g1 g2 (by omega) (by omega)
      refine lb_Ends.step (q := (.aload_n 0, 1, [])) rfl rfl ?_
      refine lb_Ends.step (q := (.iload 4, 2, [])) rfl rfl ?_
      refine lb_Ends.step (q := (.iaload, 1, [])) rfl (lj_load hJ ⟨by omega, by omega⟩) ?_
      refine lb_Ends.step (q := (.bipush 15, 2, [])) rfl rfl ?_
      refine lb_Ends.step (q := (.iand, 1, [])) rfl rfl ?_
      have hb := ab_and_le (x := xs x.toNatClampNeg) (y := (Int8.ofInt 15).toInt32) (by decide)
      have h15 : ((Int8.ofInt 15).toInt32).toInt = 15 := rfl
      rw [h15] at hb
      show lb_Ends sc_P sc_PW sl_tab 300 39 (xl_ls x a b c) [.int (xs x.toNatClampNeg &&& (Int8.ofInt 15).toInt32)] h _
      generalize xs x.toNatClampNeg &&& (Int8.ofInt 15).toInt32 = v at hb ⊢
      have hcs : v.toInt = 0 ∨ v.toInt = 1 ∨ v.toInt = 2 ∨ v.toInt = 3 ∨ v.toInt = 4 ∨ v.toInt = 5 ∨ v.toInt = 6 ∨ v.toInt = 7 ∨ v.toInt = 8 ∨ v.toInt = 9 ∨ v.toInt = 10 ∨ v.toInt = 11 ∨ v.toInt = 12 ∨ v.toInt = 13 ∨ v.toInt = 14 ∨ v.toInt = 15 := by omega
      rcases hcs with hv | hv | hv | hv | hv | hv | hv | hv | hv | hv | hv | hv | hv | hv | hv | hv
      · exact lb_Ends.step (q := (.tableswitch 535 0 14 #[73, 115, 143, 171, 184, 224, 240, 312, 352, 424, 440, 468, 481, 494, 510], 73, [])) rfl (c5_sw (j := 0) hv (by decide) rfl) (c9_0 hL hx hSh hJ (Nat.le_refl _) (Nat.le_refl _) kk)
      · exact lb_Ends.step (q := (.tableswitch 535 0 14 #[73, 115, 143, 171, 184, 224, 240, 312, 352, 424, 440, 468, 481, 494, 510], 73, [])) rfl (c5_sw (j := 1) hv (by decide) rfl) (c9_1 hL hx hSh hJ (Nat.le_refl _) (Nat.le_refl _) kk)
      · exact lb_Ends.step (q := (.tableswitch 535 0 14 #[73, 115, 143, 171, 184, 224, 240, 312, 352, 424, 440, 468, 481, 494, 510], 73, [])) rfl (c5_sw (j := 2) hv (by decide) rfl) (c9_2 hL hx hSh hJ (Nat.le_refl _) (Nat.le_refl _) kk)
      · exact lb_Ends.step (q := (.tableswitch 535 0 14 #[73, 115, 143, 171, 184, 224, 240, 312, 352, 424, 440, 468, 481, 494, 510], 73, [])) rfl (c5_sw (j := 3) hv (by decide) rfl) (c9_3 hL hx hSh hJ (Nat.le_refl _) (Nat.le_refl _) kk)
      · exact lb_Ends.step (q := (.tableswitch 535 0 14 #[73, 115, 143, 171, 184, 224, 240, 312, 352, 424, 440, 468, 481, 494, 510], 73, [])) rfl (c5_sw (j := 4) hv (by decide) rfl) (c4_go hL xl_4 hx hSh hJ (Nat.le_refl _) (Nat.le_refl _) kk)
      · exact lb_Ends.step (q := (.tableswitch 535 0 14 #[73, 115, 143, 171, 184, 224, 240, 312, 352, 424, 440, 468, 481, 494, 510], 73, [])) rfl (c5_sw (j := 5) hv (by decide) rfl) (c9_5 hL hx hSh hJ (Nat.le_refl _) (Nat.le_refl _) kk)
      · exact lb_Ends.step (q := (.tableswitch 535 0 14 #[73, 115, 143, 171, 184, 224, 240, 312, 352, 424, 440, 468, 481, 494, 510], 73, [])) rfl (c5_sw (j := 6) hv (by decide) rfl) (c9_6 hL hx hSh hJ (Nat.le_refl _) (Nat.le_refl _) kk)
      · exact lb_Ends.step (q := (.tableswitch 535 0 14 #[73, 115, 143, 171, 184, 224, 240, 312, 352, 424, 440, 468, 481, 494, 510], 73, [])) rfl (c5_sw (j := 7) hv (by decide) rfl) (c9_7 hL hx hSh hJ (Nat.le_refl _) (Nat.le_refl _) kk)
      · exact lb_Ends.step (q := (.tableswitch 535 0 14 #[73, 115, 143, 171, 184, 224, 240, 312, 352, 424, 440, 468, 481, 494, 510], 73, [])) rfl (c5_sw (j := 8) hv (by decide) rfl) (c9_8 hL hx hSh hJ (Nat.le_refl _) (Nat.le_refl _) kk)
      · exact lb_Ends.step (q := (.tableswitch 535 0 14 #[73, 115, 143, 171, 184, 224, 240, 312, 352, 424, 440, 468, 481, 494, 510], 73, [])) rfl (c5_sw (j := 9) hv (by decide) rfl) (c9_9 hL hx hSh hJ (Nat.le_refl _) (Nat.le_refl _) kk)
      · exact lb_Ends.step (q := (.tableswitch 535 0 14 #[73, 115, 143, 171, 184, 224, 240, 312, 352, 424, 440, 468, 481, 494, 510], 73, [])) rfl (c5_sw (j := 10) hv (by decide) rfl) (c4_go hL xl_10 hx hSh hJ (Nat.le_refl _) (Nat.le_refl _) kk)
      · exact lb_Ends.step (q := (.tableswitch 535 0 14 #[73, 115, 143, 171, 184, 224, 240, 312, 352, 424, 440, 468, 481, 494, 510], 73, [])) rfl (c5_sw (j := 11) hv (by decide) rfl) (c9_11 hL hx hSh hJ (Nat.le_refl _) (Nat.le_refl _) kk)
      · exact lb_Ends.step (q := (.tableswitch 535 0 14 #[73, 115, 143, 171, 184, 224, 240, 312, 352, 424, 440, 468, 481, 494, 510], 73, [])) rfl (c5_sw (j := 12) hv (by decide) rfl) (c9_12 hL hx hSh hJ (Nat.le_refl _) (Nat.le_refl _) kk)
      · exact lb_Ends.step (q := (.tableswitch 535 0 14 #[73, 115, 143, 171, 184, 224, 240, 312, 352, 424, 440, 468, 481, 494, 510], 73, [])) rfl (c5_sw (j := 13) hv (by decide) rfl) (c4_go hL xl_13 hx hSh hJ (Nat.le_refl _) (Nat.le_refl _) kk)
      · exact lb_Ends.step (q := (.tableswitch 535 0 14 #[73, 115, 143, 171, 184, 224, 240, 312, 352, 424, 440, 468, 481, 494, 510], 73, [])) rfl (c5_sw (j := 14) hv (by decide) rfl) (c4_go hL xl_14 hx hSh hJ (Nat.le_refl _) (Nat.le_refl _) kk)
      · refine lb_Ends.step (q := (.tableswitch 535 0 14 #[73, 115, 143, 171, 184, 224, 240, 312, 352, 424, 440, 468, 481, 494, 510], 73, [])) (pc' := 574) (ls' := xl_ls x a b c) (st' := []) (h' := h) rfl ?_ (kk a b c h hSh hJ (by omega) (by omega))
        simp only [sm_step]
        rw [if_pos (by omega)]
        rfl
end C5
/-! THE START: what the Statement gives, for our machine -/
def sq_str : List (String × Nat) := [("TwoWayGrammar$Tokens", 65), ("TwoWayGrammar$Tokens", 71), ("TwoWayGrammar$Tokens", 73), ("TwoWayGrammar$Tokens", 75), ("TwoWayGrammar$Tokens", 77), ("TwoWayGrammar$Tokens", 79), ("TwoWayGrammar$Tokens", 81), ("TwoWayGrammar$Tokens", 100), ("TwoWayGrammar", 106), ("TwoWayGrammar", 128), ("TwoWayGrammar", 131), ("TwoWayGrammar", 133), ("TwoWayGrammar", 135), ("TwoWayGrammar", 159), ("TwoWayGrammar", 166), ("TwoWayGrammar", 196), ("TwoWayGrammar", 198), ("TwoWayGrammar", 208), ("TwoWayGrammar", 221), ("TwoWayGrammar", 231), ("TwoWayGrammar", 246), ("TwoWayGrammar", 261), ("TwoWayGrammar", 267), ("TwoWayGrammar", 271), ("TwoWayGrammar", 276)]
def sq_byt : List (List Int32) := [[110, 117, 109, 98, 101, 114], [110, 97, 109, 101], [101, 109, 112, 116, 121], [98, 108, 97, 110, 107], [108, 105, 110, 101], [100, 101, 101, 112, 101, 114], [98, 97, 99, 107], [61, 59, 124, 42, 63, 41, 126, 43], [110, 111, 32, 115, 117, 99, 104, 32, 116, 101, 120, 116], [110, 111, 32, 115, 117, 99, 104, 32, 115, 97, 109, 112, 108, 101], [69, 32, 61, 32, 84, 32, 40, 32, 40, 32, 39, 43, 32, 124, 32, 39, 45, 32, 41, 32, 84, 32, 41, 42, 32, 59, 10, 84, 32, 61, 32, 70, 32, 40, 32, 40, 32, 39, 42, 32, 124, 32, 39, 47, 32, 41, 32, 70, 32, 41, 42, 32, 59, 10, 70, 32, 61, 32, 110, 117, 109, 98, 101, 114, 32, 124, 32, 110, 97, 109, 101, 32, 124, 32, 39, 40, 32, 69, 32, 39, 41, 32, 59, 10], [80, 32, 61, 32, 39, 123, 32, 100, 101, 101, 112, 101, 114, 32, 40, 32, 108, 105, 110, 101, 32, 83, 32, 41, 42, 32, 98, 97, 99, 107, 32, 108, 105, 110, 101, 32, 39, 125, 32, 59, 10, 83, 32, 61, 32, 34, 108, 101, 116, 34, 32, 110, 97, 109, 101, 32, 98, 108, 97, 110, 107, 32, 39, 61, 32, 98, 108, 97, 110, 107, 32, 86, 32, 39, 59, 32, 124, 32, 34, 100, 111, 34, 32, 80, 32, 124, 32, 34, 112, 117, 116, 34, 32, 86, 32, 39, 59, 32, 59, 10, 86, 32, 61, 32, 110, 97, 109, 101, 32, 124, 32, 110, 117, 109, 98, 101, 114, 32, 43, 32, 49, 32, 124, 32, 39, 45, 32, 86, 32, 59, 10], [68, 32, 61, 32, 39, 91, 32, 40, 32, 82, 32, 40, 32, 39, 44, 32, 98, 108, 97, 110, 107, 32, 82, 32, 41, 42, 32, 41, 63, 32, 39, 93, 32, 59, 10, 82, 32, 61, 32, 110, 97, 109, 101, 32, 39, 58, 32, 40, 32, 110, 117, 109, 98, 101, 114, 32, 126, 32, 85, 32, 41, 32, 59, 10, 85, 32, 61, 32, 39, 35, 32, 110, 97, 109, 101, 63, 32, 124, 32, 39, 36, 32, 124, 32, 101, 109, 112, 116, 121, 32, 59, 10], [110, 111, 32, 100, 101, 115, 99, 114, 105, 112, 116, 105, 111, 110, 32, 116, 104, 97, 116, 32, 99, 97, 110, 32, 98, 101, 32, 114, 101, 97, 100], [110, 111, 32, 115, 117, 99, 104, 32, 114, 117, 108, 101], [110, 111, 116, 104, 105, 110, 103, 32, 116, 104, 97, 116, 32, 97, 32, 114, 117, 108, 101, 32, 104, 97, 115], [110, 111, 32, 103, 111, 111, 100, 32, 100, 101, 115, 99, 114, 105, 112, 116, 105, 111, 110], [116, 111, 111, 32, 109, 97, 110, 121, 32, 110, 111, 100, 101, 115, 32, 111, 114, 32, 117, 115, 101, 115], [110, 111, 32, 115, 117, 99, 104, 32, 102, 117, 101, 108], [110, 111, 32, 115, 117, 99, 104, 32, 110, 111, 100, 101], [110, 111, 116, 104, 105, 110, 103, 32, 116, 104, 97, 116, 32, 97, 32, 110, 111, 100, 101, 32, 104, 97, 115], [110, 111, 32, 116, 114, 101, 101], [116, 111, 111, 32, 109, 97, 110, 121, 32, 99, 104, 97, 114, 97, 99, 116, 101, 114, 115], [110, 111, 32, 115, 117, 99, 104, 32, 99, 104, 97, 114, 97, 99, 116, 101, 114], [110, 111, 116, 32, 116, 119, 111, 32, 116, 114, 101, 101, 115]]
def sq_len : List Nat := [6, 4, 5, 5, 4, 6, 4, 8, 12, 14, 84, 131, 92, 31, 12, 23, 19, 22, 12, 12, 23, 7, 19, 17, 13]
def sq_tm (i : Nat) : Term := .string (sq_str.getD i ("", 0)).1 (sq_str.getD i ("", 0)).2
def sq_pos : List Nat := [91, 101, 110, 121, 133, 145, 160, 174, 193, 217, 244, 342, 488, 596, 644, 674, 716, 755, 798, 832, 867, 914, 946, 991, 1035]
def sq_ws (i : Nat) : List Cond := [.exactly (sq_tm i) "java/lang/String", .eq (.field (sq_tm i) "java/lang/String" "coder" "B") (.int 0), .arrayOf (.field (sq_tm i) "java/lang/String" "value" "[B") .byte, .eq (.length (.field (sq_tm i) "java/lang/String" "value" "[B")) (.int (Int32.ofNat (sq_len.getD i 0)))] ++ ((List.range (sq_len.getD i 0)).map (fun j => Cond.eq (.elem (.field (sq_tm i) "java/lang/String" "value" "[B") (.int (Int32.ofNat j))) (.int ((sq_byt.getD i []).getD j 0))) ++ (List.range i).map (fun j => Cond.not (.eq (sq_tm j) (sq_tm i))))
def sq_flat : List Cond := flatC (Jvm.Cond.and given_1 narrow_1)
set_option maxRecDepth 100000 in
theorem sq_wsOk : ((List.range 25).all (fun i => decide (((sq_flat.drop (sq_pos.getD i 0)).take (sq_ws i).length) = sq_ws i))) = true := by decide +kernel
theorem sq_wsMem {i : Nat} (hi : i < 25) : ∀ w ∈ sq_ws i, w ∈ sq_flat := fun w hw => by
  have h := of_decide_eq_true (List.all_eq_true.mp sq_wsOk i (List.mem_range.mpr hi))
  rw [← h] at hw
  exact List.mem_of_mem_drop (List.mem_of_mem_take hw)
theorem sq_at {w : Cond} (i : Nat) (h : sq_flat[i]?.any (fun v => decide (v = w)) = true) : w ∈ sq_flat := by
  rw [Option.any_eq_true_iff_get] at h
  obtain ⟨h3, h4⟩ := h
  have h5 : sq_flat[i]? = some w := by
    rw [← Option.some_get h3]
    exact congrArg some (of_decide_eq_true h4)
  exact List.mem_of_getElem? h5
theorem sq_tb {w : Cond} (i : Nat) (h : lw_tbl[i]?.any (fun v => decide (v = w)) = true) : w ∈ lw_tbl := by
  rw [Option.any_eq_true_iff_get] at h
  obtain ⟨h3, h4⟩ := h
  have h5 : lw_tbl[i]? = some w := by
    rw [← Option.some_get h3]
    exact congrArg some (of_decide_eq_true h4)
  exact List.mem_of_getElem? h5
/-- the cells that were there before, with unknown ints in the script -/
def sq_B : sa_H := sq_byt.map (fun bs => .inl (4, bs.length, bs.zipIdx.map (fun z => (z.2, Value.int z.1))))
def sq_S : sa_H := (List.range 25).map (fun i => .inr (17, [.ref (26 + i), .int 0]))
def sq_K (n : Nat) (l : List (Nat × Value)) : sa_H := .inl (0, n, l) :: (sq_S ++ sq_B)
theorem sq_Klen (n : Nat) (l : List (Nat × Value)) : (sq_K n l).length = 51 := rfl
theorem sq_K1 {n : Nat} {l : List (Nat × Value)} {i : Nat} (hi : i < 25) : (sq_K n l)[1 + i]? = some (.inr (17, [.ref (26 + i), .int 0])) := by
  rw [sq_K, Nat.add_comm 1 i, List.getElem?_cons_succ, List.getElem?_append_left (by simpa [sq_S] using hi), sq_S, List.getElem?_map, List.getElem?_range hi]
  rfl
theorem sq_Slen : sq_S.length = 25 := rfl
theorem sq_K2 {n : Nat} {l : List (Nat × Value)} {i : Nat} : (sq_K n l)[26 + i]? = sq_B[i]? := by
  rw [sq_K, show 26 + i = (25 + i) + 1 by omega, List.getElem?_cons_succ, List.getElem?_append_right (by rw [sq_Slen]; omega), sq_Slen, Nat.add_sub_cancel_left]
theorem sq_look (bs : List Int32) (j k : Nat) (hj : j < bs.length) : sa_look ((bs.zipIdx k).map (fun z => (z.2, Value.int z.1))) (k + j) = some (.int (bs.getD j 0)) := by
  induction bs generalizing j k with
  | nil => simp at hj
  | cons b bs ih =>
    simp only [List.zipIdx_cons, List.map_cons, sa_look]
    cases j with
    | zero => simp
    | succ j =>
      rw [if_neg (by omega), show k + (j + 1) = k + 1 + j by omega]
      exact ih j (k + 1) (by simpa using hj)
theorem sq_KOk {ρ : Nat → Int32} {μ : UInt64 → Int64} {n : Nat} {l : List (Nat × Value)} : sc_KOk (sa_gh ρ μ (sq_K n l)) := by
  intro a fs h
  rw [List.getElem?_map] at h
  have hl : a < 51 := by
    cases he : (sq_K n l)[a]? with
    | none => rw [he] at h; cases h
    | some e => exact (List.getElem?_eq_some_iff.mp he).1
  rcases (show a = 0 ∨ (∃ i, i < 25 ∧ a = 1 + i) ∨ ∃ i, i < 25 ∧ a = 26 + i by
    rcases Nat.lt_or_ge a 1 with z | z
    · exact Or.inl (by omega)
    · rcases Nat.lt_or_ge a 26 with y | y
      · exact Or.inr (Or.inl ⟨a - 1, by omega, by omega⟩)
      · exact Or.inr (Or.inr ⟨a - 26, by omega, by omega⟩)) with rfl | ⟨i, hi, rfl⟩ | ⟨i, hi, rfl⟩
  · simp [sq_K, sa_ge] at h
  · rw [sq_K1 hi] at h
    simp only [Option.map_some, sa_ge, List.map_cons, List.map_nil, sa_g] at h
    cases h
    exact ⟨i, hi, by omega, rfl⟩
  · rw [sq_K2, sq_B, List.getElem?_map] at h
    cases hb : sq_byt[i]? with
    | none => rw [hb] at h; cases h
    | some bs => rw [hb] at h; simp [sa_ge] at h
