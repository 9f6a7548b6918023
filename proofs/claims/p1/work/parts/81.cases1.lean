/-! THE CASES of a script of at most four ints, each by computation -/
def sq_ρ (xs : Nat → Int32) (k : Nat) : Int32 := match k with
  | 0 => xs 0
  | 1 => xs 1
  | 2 => xs 2
  | 3 => xs 3
  | _ => sm_chr (xs 2)
def sq_sh (x : Int64) : Int64 := x <<< ((32 : Int32).toInt64 &&& 63)
def sq_μ (xs : Nat → Int32) (u : UInt64) : Int64 := if u = 0 then (xs 1).toInt64 else if u = 1 then sq_sh (xs 1).toInt64 else if u = 2 then (xs 2).toInt64 else if u = 3 then (xs 2).toInt64 &&& 4294967295 else if u = 4 then sq_sh (xs 1).toInt64 ||| ((xs 2).toInt64 &&& 4294967295) else if u = 5 then sq_sh (xs 2).toInt64 else if u = 6 then (xs 3).toInt64 else if u = 7 then (xs 3).toInt64 &&& 4294967295 else sq_sh (xs 2).toInt64 ||| ((xs 3).toInt64 &&& 4294967295)
theorem sm_chr2 (x : Int32) : sm_chr (sm_chr x) = sm_chr x := by
  unfold sm_chr
  congr 1
  apply UInt32.toNat_inj.mp
  simp
theorem sq_cmp (c : ClassFile.Cond) (x y : Int32) : sm_cmp c x y = match c with
    | .eq => decide (x.toInt = y.toInt)
    | .ne => !decide (x.toInt = y.toInt)
    | .lt => decide (x.toInt < y.toInt)
    | .ge => decide (y.toInt ≤ x.toInt)
    | .gt => decide (y.toInt < x.toInt)
    | .le => decide (x.toInt ≤ y.toInt) := by
  cases c <;> simp only [sm_cmp, Int32.lt_iff_toInt_lt, Int32.le_iff_toInt_le, ← Int32.toInt_inj]
section SQC
variable {ρ : Nat → Int32} {μ : UInt64 → Int64}
theorem sq_fc {c : ClassFile.Cond} {X Y z : Value} {x y : Int32} {bb : Bool} (h : sm_cmp c x y = bb) (hx : sa_g ρ μ X = .int x) (hy : sa_g ρ μ Y = .int y) (hz : z = .int (if bb then 1 else 0)) : sa_true ρ μ (sa_cc c, X, Y, z) :=
  Or.inr (Or.inr (Or.inr (Or.inr (Or.inr (Or.inr (Or.inl ⟨c, x, y, rfl, hx, hy, by rw [h]; exact hz⟩))))))
end SQC
abbrev sq_G (L : Nat) (l : List (Nat × Value)) (F : sa_F) : Prop := sa_good 2000 40000 (sa_runL F sq_P sc_PW sl_tab 20000 10 0 (sm_entry 8 [.ref 0]) [] (sq_K L l)) = true
abbrev sq_Q (L : Nat) (xs : Nat → Int32) : Prop := ∃ (ρ : Nat → Int32) (μ : UInt64 → Int64) (l : List (Nat × Value)) (F : sa_F), (∀ j, j < L → sa_fi ρ μ l j = xs j) ∧ (∀ f ∈ F, sa_true ρ μ f) ∧ sq_G L l F
set_option maxRecDepth 100000 in
theorem sq_c_n0 : sq_G 0 [] [] := by decide +kernel
set_option maxRecDepth 100000 in
theorem sq_c_n1 : sq_G 1 [(0, .retAddr 0)] [] := by decide +kernel
set_option maxRecDepth 100000 in
theorem sq_c_n2 : sq_G 2 [(0, .retAddr 0), (1, .retAddr 1)] [] := by decide +kernel
set_option maxRecDepth 100000 in
theorem sq_c_n3 : sq_G 3 [(0, .retAddr 0), (1, .retAddr 1), (2, .retAddr 2)] [] := by decide +kernel
set_option maxRecDepth 100000 in
theorem sq_c_type_neg : sq_G 4 [(0, .retAddr 0), (1, .retAddr 1), (2, .retAddr 2), (3, .retAddr 3)] [(1, .retAddr 0, .int 15, .int 0), (2, .retAddr 2, .null, .retAddr 4), (10, .retAddr 1, .int 0, .int 0), (10, .retAddr 1, .int 1, .int 0), (12, .retAddr 1, .int 0, .int 1)] := by decide +kernel
set_option maxRecDepth 100000 in
theorem sq_c_type_big : sq_G 4 [(0, .retAddr 0), (1, .retAddr 1), (2, .retAddr 2), (3, .retAddr 3)] [(1, .retAddr 0, .int 15, .int 0), (2, .retAddr 2, .null, .retAddr 4), (10, .retAddr 1, .int 0, .int 0), (10, .retAddr 1, .int 1, .int 0), (12, .retAddr 1, .int 0, .int 0), (15, .retAddr 1, .int 1, .int 0)] := by decide +kernel
set_option maxRecDepth 100000 in
theorem sq_c_type0_low : sq_G 4 [(0, .retAddr 0), (1, .int 0), (2, .retAddr 2), (3, .retAddr 3)] [(1, .retAddr 0, .int 15, .int 0), (2, .retAddr 2, .null, .retAddr 4), (12, .retAddr 4, .int 32, .int 1), (11, .retAddr 4, .int 10, .int 1), (10, .retAddr 4, .int 10, .int 0)] := by decide +kernel
set_option maxRecDepth 100000 in
theorem sq_c_type0_nl : sq_G 4 [(0, .retAddr 0), (1, .int 0), (2, .retAddr 2), (3, .retAddr 3)] [(1, .retAddr 0, .int 15, .int 0), (2, .retAddr 2, .null, .retAddr 4), (12, .retAddr 4, .int 32, .int 1), (11, .retAddr 4, .int 10, .int 0), (2, .retAddr 4, .null, .retAddr 4), (10, .retAddr 4, .int 10, .int 1)] := by decide +kernel
set_option maxRecDepth 100000 in
theorem sq_c_type0_in : sq_G 4 [(0, .retAddr 0), (1, .int 0), (2, .retAddr 2), (3, .retAddr 3)] [(1, .retAddr 0, .int 15, .int 0), (2, .retAddr 2, .null, .retAddr 4), (12, .retAddr 4, .int 32, .int 0), (15, .retAddr 4, .int 126, .int 1), (2, .retAddr 4, .null, .retAddr 4), (10, .retAddr 4, .int 10, .int 0)] := by decide +kernel
set_option maxRecDepth 100000 in
theorem sq_c_type0_high : sq_G 4 [(0, .retAddr 0), (1, .int 0), (2, .retAddr 2), (3, .retAddr 3)] [(1, .retAddr 0, .int 15, .int 0), (2, .retAddr 2, .null, .retAddr 4), (12, .retAddr 4, .int 32, .int 0), (15, .retAddr 4, .int 126, .int 0), (11, .retAddr 4, .int 10, .int 1), (10, .retAddr 4, .int 10, .int 0)] := by decide +kernel
set_option maxRecDepth 100000 in
theorem sq_c_type1_low : sq_G 4 [(0, .retAddr 0), (1, .int 1), (2, .retAddr 2), (3, .retAddr 3)] [(1, .retAddr 0, .int 15, .int 0), (2, .retAddr 2, .null, .retAddr 4), (12, .retAddr 4, .int 32, .int 1), (11, .retAddr 4, .int 10, .int 1), (10, .retAddr 4, .int 10, .int 0)] := by decide +kernel
set_option maxRecDepth 100000 in
theorem sq_c_type1_nl : sq_G 4 [(0, .retAddr 0), (1, .int 1), (2, .retAddr 2), (3, .retAddr 3)] [(1, .retAddr 0, .int 15, .int 0), (2, .retAddr 2, .null, .retAddr 4), (12, .retAddr 4, .int 32, .int 1), (11, .retAddr 4, .int 10, .int 0), (2, .retAddr 4, .null, .retAddr 4), (10, .retAddr 4, .int 10, .int 1)] := by decide +kernel
set_option maxRecDepth 100000 in
theorem sq_c_type1_in : sq_G 4 [(0, .retAddr 0), (1, .int 1), (2, .retAddr 2), (3, .retAddr 3)] [(1, .retAddr 0, .int 15, .int 0), (2, .retAddr 2, .null, .retAddr 4), (12, .retAddr 4, .int 32, .int 0), (15, .retAddr 4, .int 126, .int 1), (2, .retAddr 4, .null, .retAddr 4), (10, .retAddr 4, .int 10, .int 0)] := by decide +kernel
set_option maxRecDepth 100000 in
theorem sq_c_type1_high : sq_G 4 [(0, .retAddr 0), (1, .int 1), (2, .retAddr 2), (3, .retAddr 3)] [(1, .retAddr 0, .int 15, .int 0), (2, .retAddr 2, .null, .retAddr 4), (12, .retAddr 4, .int 32, .int 0), (15, .retAddr 4, .int 126, .int 0), (11, .retAddr 4, .int 10, .int 1), (10, .retAddr 4, .int 10, .int 0)] := by decide +kernel
set_option maxRecDepth 100000 in
theorem sq_c_clear_neg : sq_G 4 [(0, .retAddr 0), (1, .retAddr 1), (2, .retAddr 2), (3, .retAddr 3)] [(1, .retAddr 0, .int 15, .int 1), (10, .retAddr 1, .int 0, .int 0), (10, .retAddr 1, .int 1, .int 0), (12, .retAddr 1, .int 0, .int 1)] := by decide +kernel
set_option maxRecDepth 100000 in
theorem sq_c_clear_big : sq_G 4 [(0, .retAddr 0), (1, .retAddr 1), (2, .retAddr 2), (3, .retAddr 3)] [(1, .retAddr 0, .int 15, .int 1), (10, .retAddr 1, .int 0, .int 0), (10, .retAddr 1, .int 1, .int 0), (12, .retAddr 1, .int 0, .int 0), (15, .retAddr 1, .int 1, .int 0)] := by decide +kernel
set_option maxRecDepth 100000 in
theorem sq_c_clear_0 : sq_G 4 [(0, .retAddr 0), (1, .int 0), (2, .retAddr 2), (3, .retAddr 3)] [(1, .retAddr 0, .int 15, .int 1)] := by decide +kernel
set_option maxRecDepth 100000 in
theorem sq_c_clear_1 : sq_G 4 [(0, .retAddr 0), (1, .int 1), (2, .retAddr 2), (3, .retAddr 3)] [(1, .retAddr 0, .int 15, .int 1)] := by decide +kernel
set_option maxRecDepth 100000 in
theorem sq_c_sample_neg : sq_G 4 [(0, .retAddr 0), (1, .retAddr 1), (2, .retAddr 2), (3, .retAddr 3)] [(1, .retAddr 0, .int 15, .int 2), (12, .retAddr 1, .int 0, .int 1)] := by decide +kernel
set_option maxRecDepth 100000 in
theorem sq_c_sample_big : sq_G 4 [(0, .retAddr 0), (1, .retAddr 1), (2, .retAddr 2), (3, .retAddr 3)] [(1, .retAddr 0, .int 15, .int 2), (12, .retAddr 1, .int 0, .int 0), (15, .retAddr 1, .int 2, .int 0)] := by decide +kernel
set_option maxRecDepth 100000 in
theorem sq_c_rule : sq_G 4 [(0, .retAddr 0), (1, .retAddr 1), (2, .retAddr 2), (3, .retAddr 3)] [(1, .retAddr 0, .int 15, .int 4)] := by decide +kernel
set_option maxRecDepth 100000 in
theorem sq_c_parse : sq_G 4 [(0, .retAddr 0), (1, .retAddr 1), (2, .retAddr 2), (3, .retAddr 3)] [(1, .retAddr 0, .int 15, .int 5)] := by decide +kernel
set_option maxRecDepth 100000 in
theorem sq_c_grow_neg : sq_G 4 [(0, .retAddr 0), (1, .retAddr 1), (2, .retAddr 2), (3, .retAddr 3)] [(1, .retAddr 0, .int 15, .int 6), (3, .retAddr 1, .null, .double 0), (4, .double 0, .int 32, .double 1), (3, .retAddr 2, .null, .double 2), (5, .double 2, .long 4294967295, .double 3), (6, .double 1, .double 3, .double 4), (12, .retAddr 3, .int 0, .int 1)] := by decide +kernel
set_option maxRecDepth 100000 in
theorem sq_c_grow_big : sq_G 4 [(0, .retAddr 0), (1, .retAddr 1), (2, .retAddr 2), (3, .retAddr 3)] [(1, .retAddr 0, .int 15, .int 6), (3, .retAddr 1, .null, .double 0), (4, .double 0, .int 32, .double 1), (3, .retAddr 2, .null, .double 2), (5, .double 2, .long 4294967295, .double 3), (6, .double 1, .double 3, .double 4), (12, .retAddr 3, .int 0, .int 0), (15, .retAddr 3, .int 20, .int 0)] := by decide +kernel
set_option maxRecDepth 100000 in
theorem sq_c_grow_in : sq_G 4 [(0, .retAddr 0), (1, .retAddr 1), (2, .retAddr 2), (3, .retAddr 3)] [(1, .retAddr 0, .int 15, .int 6), (3, .retAddr 1, .null, .double 0), (4, .double 0, .int 32, .double 1), (3, .retAddr 2, .null, .double 2), (5, .double 2, .long 4294967295, .double 3), (6, .double 1, .double 3, .double 4), (12, .retAddr 3, .int 0, .int 0), (15, .retAddr 3, .int 20, .int 1)] := by decide +kernel
set_option maxRecDepth 100000 in
theorem sq_c_node_neg : sq_G 4 [(0, .retAddr 0), (1, .retAddr 1), (2, .retAddr 2), (3, .retAddr 3)] [(1, .retAddr 0, .int 15, .int 7), (12, .retAddr 1, .int 0, .int 1)] := by decide +kernel
set_option maxRecDepth 100000 in
theorem sq_c_node_pos : sq_G 4 [(0, .retAddr 0), (1, .retAddr 1), (2, .retAddr 2), (3, .retAddr 3)] [(1, .retAddr 0, .int 15, .int 7), (12, .retAddr 1, .int 0, .int 0)] := by decide +kernel
set_option maxRecDepth 100000 in
theorem sq_c_set_neg : sq_G 4 [(0, .retAddr 0), (1, .retAddr 1), (2, .retAddr 2), (3, .retAddr 3)] [(1, .retAddr 0, .int 15, .int 8), (3, .retAddr 2, .null, .double 2), (4, .double 2, .int 32, .double 5), (3, .retAddr 3, .null, .double 6), (5, .double 6, .long 4294967295, .double 7), (6, .double 5, .double 7, .double 8), (12, .retAddr 1, .int 0, .int 1)] := by decide +kernel
set_option maxRecDepth 100000 in
theorem sq_c_set_pos : sq_G 4 [(0, .retAddr 0), (1, .retAddr 1), (2, .retAddr 2), (3, .retAddr 3)] [(1, .retAddr 0, .int 15, .int 8), (3, .retAddr 2, .null, .double 2), (4, .double 2, .int 32, .double 5), (3, .retAddr 3, .null, .double 6), (5, .double 6, .long 4294967295, .double 7), (6, .double 5, .double 7, .double 8), (12, .retAddr 1, .int 0, .int 0)] := by decide +kernel
set_option maxRecDepth 100000 in
theorem sq_c_print : sq_G 4 [(0, .retAddr 0), (1, .retAddr 1), (2, .retAddr 2), (3, .retAddr 3)] [(1, .retAddr 0, .int 15, .int 9)] := by decide +kernel
set_option maxRecDepth 100000 in
theorem sq_c_output_neg : sq_G 4 [(0, .retAddr 0), (1, .retAddr 1), (2, .retAddr 2), (3, .retAddr 3)] [(1, .retAddr 0, .int 15, .int 10), (12, .retAddr 1, .int 0, .int 1)] := by decide +kernel
set_option maxRecDepth 100000 in
theorem sq_c_output_pos : sq_G 4 [(0, .retAddr 0), (1, .retAddr 1), (2, .retAddr 2), (3, .retAddr 3)] [(1, .retAddr 0, .int 15, .int 10), (12, .retAddr 1, .int 0, .int 0)] := by decide +kernel
set_option maxRecDepth 100000 in
theorem sq_c_carry : sq_G 4 [(0, .retAddr 0), (1, .retAddr 1), (2, .retAddr 2), (3, .retAddr 3)] [(1, .retAddr 0, .int 15, .int 11)] := by decide +kernel
set_option maxRecDepth 100000 in
theorem sq_c_keep : sq_G 4 [(0, .retAddr 0), (1, .retAddr 1), (2, .retAddr 2), (3, .retAddr 3)] [(1, .retAddr 0, .int 15, .int 12)] := by decide +kernel
set_option maxRecDepth 100000 in
theorem sq_c_compare : sq_G 4 [(0, .retAddr 0), (1, .retAddr 1), (2, .retAddr 2), (3, .retAddr 3)] [(1, .retAddr 0, .int 15, .int 13)] := by decide +kernel
set_option maxRecDepth 100000 in
theorem sq_c_count_neg : sq_G 4 [(0, .retAddr 0), (1, .retAddr 1), (2, .retAddr 2), (3, .retAddr 3)] [(1, .retAddr 0, .int 15, .int 14), (30, .retAddr 1, .int 6, .int 1)] := by decide +kernel
set_option maxRecDepth 100000 in
theorem sq_c_count_big : sq_G 4 [(0, .retAddr 0), (1, .retAddr 1), (2, .retAddr 2), (3, .retAddr 3)] [(1, .retAddr 0, .int 15, .int 14), (30, .retAddr 1, .int 6, .int 1)] := by decide +kernel
set_option maxRecDepth 100000 in
theorem sq_c_count_0 : sq_G 4 [(0, .retAddr 0), (1, .int 0), (2, .retAddr 2), (3, .retAddr 3)] [(1, .retAddr 0, .int 15, .int 14)] := by decide +kernel
set_option maxRecDepth 100000 in
theorem sq_c_count_1 : sq_G 4 [(0, .retAddr 0), (1, .int 1), (2, .retAddr 2), (3, .retAddr 3)] [(1, .retAddr 0, .int 15, .int 14)] := by decide +kernel
set_option maxRecDepth 100000 in
theorem sq_c_count_2 : sq_G 4 [(0, .retAddr 0), (1, .int 2), (2, .retAddr 2), (3, .retAddr 3)] [(1, .retAddr 0, .int 15, .int 14)] := by decide +kernel
set_option maxRecDepth 100000 in
theorem sq_c_count_3 : sq_G 4 [(0, .retAddr 0), (1, .int 3), (2, .retAddr 2), (3, .retAddr 3)] [(1, .retAddr 0, .int 15, .int 14)] := by decide +kernel
set_option maxRecDepth 100000 in
theorem sq_c_count_4 : sq_G 4 [(0, .retAddr 0), (1, .int 4), (2, .retAddr 2), (3, .retAddr 3)] [(1, .retAddr 0, .int 15, .int 14)] := by decide +kernel
set_option maxRecDepth 100000 in
theorem sq_c_count_5 : sq_G 4 [(0, .retAddr 0), (1, .int 5), (2, .retAddr 2), (3, .retAddr 3)] [(1, .retAddr 0, .int 15, .int 14)] := by decide +kernel
set_option maxRecDepth 100000 in
theorem sq_c_count_6 : sq_G 4 [(0, .retAddr 0), (1, .int 6), (2, .retAddr 2), (3, .retAddr 3)] [(1, .retAddr 0, .int 15, .int 14)] := by decide +kernel
set_option maxRecDepth 100000 in
theorem sq_c_none : sq_G 4 [(0, .retAddr 0), (1, .retAddr 1), (2, .retAddr 2), (3, .retAddr 3)] [(1, .retAddr 0, .int 15, .int 15)] := by decide +kernel
