/-! THE CASES, joined -/
theorem sq_q_n0 (xs : Nat → Int32)  : sq_Q 0 xs := ⟨sq_ρ xs, sq_μ xs, [], [], fun j hj => (match j, hj with
    | j + 0, hj => absurd hj (by omega)), fun _ h => absurd h List.not_mem_nil, sq_c_n0⟩
theorem sq_q_n1 (xs : Nat → Int32)  : sq_Q 1 xs := ⟨sq_ρ xs, sq_μ xs, [(0, .retAddr 0)], [], fun j hj => (match j, hj with
    | 0, _ => rfl
    | j + 1, hj => absurd hj (by omega)), fun _ h => absurd h List.not_mem_nil, sq_c_n1⟩
theorem sq_q_n2 (xs : Nat → Int32)  : sq_Q 2 xs := ⟨sq_ρ xs, sq_μ xs, [(0, .retAddr 0), (1, .retAddr 1)], [], fun j hj => (match j, hj with
    | 0, _ => rfl
    | 1, _ => rfl
    | j + 2, hj => absurd hj (by omega)), fun _ h => absurd h List.not_mem_nil, sq_c_n2⟩
theorem sq_q_n3 (xs : Nat → Int32)  : sq_Q 3 xs := ⟨sq_ρ xs, sq_μ xs, [(0, .retAddr 0), (1, .retAddr 1), (2, .retAddr 2)], [], fun j hj => (match j, hj with
    | 0, _ => rfl
    | 1, _ => rfl
    | 2, _ => rfl
    | j + 3, hj => absurd hj (by omega)), fun _ h => absurd h List.not_mem_nil, sq_c_n3⟩
theorem sq_q_type_neg (xs : Nat → Int32) (h0 : xs 0 &&& 15 = 0) (hc : (xs 1).toInt < 0) : sq_Q 4 xs := ⟨sq_ρ xs, sq_μ xs, [(0, .retAddr 0), (1, .retAddr 1), (2, .retAddr 2), (3, .retAddr 3)], [(1, .retAddr 0, .int 15, .int 0), (2, .retAddr 2, .null, .retAddr 4), (10, .retAddr 1, .int 0, .int 0), (10, .retAddr 1, .int 1, .int 0), (12, .retAddr 1, .int 0, .int 1)], fun j hj => (match j, hj with
    | 0, _ => rfl
    | 1, _ => rfl
    | 2, _ => rfl
    | 3, _ => rfl
    | j + 4, hj => absurd hj (by omega)), List.forall_mem_cons.mpr ⟨Or.inl ⟨rfl, xs 0, 15, rfl, rfl, congrArg Value.int h0.symm⟩, List.forall_mem_cons.mpr ⟨Or.inr (Or.inl ⟨rfl, xs 2, rfl, rfl⟩), List.forall_mem_cons.mpr ⟨sq_fc (c := .eq) (x := xs 1) (y := 0) (bb := false) (by rw [sq_cmp]; exact decide_eq_false (by have e : (0 : Int32).toInt = 0 := rfl; omega)) rfl rfl rfl, List.forall_mem_cons.mpr ⟨sq_fc (c := .eq) (x := xs 1) (y := 1) (bb := false) (by rw [sq_cmp]; exact decide_eq_false (by have e : (1 : Int32).toInt = 1 := rfl; omega)) rfl rfl rfl, List.forall_mem_cons.mpr ⟨sq_fc (c := .lt) (x := xs 1) (y := 0) (bb := true) (by rw [sq_cmp]; exact decide_eq_true (by have e : (0 : Int32).toInt = 0 := rfl; omega)) rfl rfl rfl, fun _ h => absurd h List.not_mem_nil⟩⟩⟩⟩⟩, sq_c_type_neg⟩
theorem sq_q_type_big (xs : Nat → Int32) (h0 : xs 0 &&& 15 = 0) (hc : 1 < (xs 1).toInt) : sq_Q 4 xs := ⟨sq_ρ xs, sq_μ xs, [(0, .retAddr 0), (1, .retAddr 1), (2, .retAddr 2), (3, .retAddr 3)], [(1, .retAddr 0, .int 15, .int 0), (2, .retAddr 2, .null, .retAddr 4), (10, .retAddr 1, .int 0, .int 0), (10, .retAddr 1, .int 1, .int 0), (12, .retAddr 1, .int 0, .int 0), (15, .retAddr 1, .int 1, .int 0)], fun j hj => (match j, hj with
    | 0, _ => rfl
    | 1, _ => rfl
    | 2, _ => rfl
    | 3, _ => rfl
    | j + 4, hj => absurd hj (by omega)), List.forall_mem_cons.mpr ⟨Or.inl ⟨rfl, xs 0, 15, rfl, rfl, congrArg Value.int h0.symm⟩, List.forall_mem_cons.mpr ⟨Or.inr (Or.inl ⟨rfl, xs 2, rfl, rfl⟩), List.forall_mem_cons.mpr ⟨sq_fc (c := .eq) (x := xs 1) (y := 0) (bb := false) (by rw [sq_cmp]; exact decide_eq_false (by have e : (0 : Int32).toInt = 0 := rfl; omega)) rfl rfl rfl, List.forall_mem_cons.mpr ⟨sq_fc (c := .eq) (x := xs 1) (y := 1) (bb := false) (by rw [sq_cmp]; exact decide_eq_false (by have e : (1 : Int32).toInt = 1 := rfl; omega)) rfl rfl rfl, List.forall_mem_cons.mpr ⟨sq_fc (c := .lt) (x := xs 1) (y := 0) (bb := false) (by rw [sq_cmp]; exact decide_eq_false (by have e : (0 : Int32).toInt = 0 := rfl; omega)) rfl rfl rfl, List.forall_mem_cons.mpr ⟨sq_fc (c := .le) (x := xs 1) (y := 1) (bb := false) (by rw [sq_cmp]; exact decide_eq_false (by have e : (1 : Int32).toInt = 1 := rfl; omega)) rfl rfl rfl, fun _ h => absurd h List.not_mem_nil⟩⟩⟩⟩⟩⟩, sq_c_type_big⟩
theorem sq_q_type0_low (xs : Nat → Int32) (h0 : xs 0 &&& 15 = 0) (hl1 : xs 1 = 0) (hc : (sm_chr (xs 2)).toInt < 32 ∧ (sm_chr (xs 2)).toInt ≠ 10) : sq_Q 4 xs := ⟨sq_ρ xs, sq_μ xs, [(0, .retAddr 0), (1, .int 0), (2, .retAddr 2), (3, .retAddr 3)], [(1, .retAddr 0, .int 15, .int 0), (2, .retAddr 2, .null, .retAddr 4), (12, .retAddr 4, .int 32, .int 1), (11, .retAddr 4, .int 10, .int 1), (10, .retAddr 4, .int 10, .int 0)], fun j hj => (match j, hj with
    | 0, _ => rfl
    | 1, _ => hl1.symm
    | 2, _ => rfl
    | 3, _ => rfl
    | j + 4, hj => absurd hj (by omega)), List.forall_mem_cons.mpr ⟨Or.inl ⟨rfl, xs 0, 15, rfl, rfl, congrArg Value.int h0.symm⟩, List.forall_mem_cons.mpr ⟨Or.inr (Or.inl ⟨rfl, xs 2, rfl, rfl⟩), List.forall_mem_cons.mpr ⟨sq_fc (c := .lt) (x := sm_chr (xs 2)) (y := 32) (bb := true) (by rw [sq_cmp]; exact decide_eq_true (by have e : (32 : Int32).toInt = 32 := rfl; omega)) rfl rfl rfl, List.forall_mem_cons.mpr ⟨sq_fc (c := .ne) (x := sm_chr (xs 2)) (y := 10) (bb := true) (by rw [sq_cmp]; exact congrArg Bool.not (decide_eq_false (by have e : (10 : Int32).toInt = 10 := rfl; omega))) rfl rfl rfl, List.forall_mem_cons.mpr ⟨sq_fc (c := .eq) (x := sm_chr (xs 2)) (y := 10) (bb := false) (by rw [sq_cmp]; exact decide_eq_false (by have e : (10 : Int32).toInt = 10 := rfl; omega)) rfl rfl rfl, fun _ h => absurd h List.not_mem_nil⟩⟩⟩⟩⟩, sq_c_type0_low⟩
theorem sq_q_type0_nl (xs : Nat → Int32) (h0 : xs 0 &&& 15 = 0) (hl1 : xs 1 = 0) (hc : (sm_chr (xs 2)).toInt = 10) : sq_Q 4 xs := ⟨sq_ρ xs, sq_μ xs, [(0, .retAddr 0), (1, .int 0), (2, .retAddr 2), (3, .retAddr 3)], [(1, .retAddr 0, .int 15, .int 0), (2, .retAddr 2, .null, .retAddr 4), (12, .retAddr 4, .int 32, .int 1), (11, .retAddr 4, .int 10, .int 0), (2, .retAddr 4, .null, .retAddr 4), (10, .retAddr 4, .int 10, .int 1)], fun j hj => (match j, hj with
    | 0, _ => rfl
    | 1, _ => hl1.symm
    | 2, _ => rfl
    | 3, _ => rfl
    | j + 4, hj => absurd hj (by omega)), List.forall_mem_cons.mpr ⟨Or.inl ⟨rfl, xs 0, 15, rfl, rfl, congrArg Value.int h0.symm⟩, List.forall_mem_cons.mpr ⟨Or.inr (Or.inl ⟨rfl, xs 2, rfl, rfl⟩), List.forall_mem_cons.mpr ⟨sq_fc (c := .lt) (x := sm_chr (xs 2)) (y := 32) (bb := true) (by rw [sq_cmp]; exact decide_eq_true (by have e : (32 : Int32).toInt = 32 := rfl; omega)) rfl rfl rfl, List.forall_mem_cons.mpr ⟨sq_fc (c := .ne) (x := sm_chr (xs 2)) (y := 10) (bb := false) (by rw [sq_cmp]; exact congrArg Bool.not (decide_eq_true (by have e : (10 : Int32).toInt = 10 := rfl; omega))) rfl rfl rfl, List.forall_mem_cons.mpr ⟨Or.inr (Or.inl ⟨rfl, sm_chr (xs 2), rfl, congrArg Value.int (sm_chr2 _).symm⟩), List.forall_mem_cons.mpr ⟨sq_fc (c := .eq) (x := sm_chr (xs 2)) (y := 10) (bb := true) (by rw [sq_cmp]; exact decide_eq_true (by have e : (10 : Int32).toInt = 10 := rfl; omega)) rfl rfl rfl, fun _ h => absurd h List.not_mem_nil⟩⟩⟩⟩⟩⟩, sq_c_type0_nl⟩
theorem sq_q_type0_in (xs : Nat → Int32) (h0 : xs 0 &&& 15 = 0) (hl1 : xs 1 = 0) (hc : 32 ≤ (sm_chr (xs 2)).toInt ∧ (sm_chr (xs 2)).toInt ≤ 126) : sq_Q 4 xs := ⟨sq_ρ xs, sq_μ xs, [(0, .retAddr 0), (1, .int 0), (2, .retAddr 2), (3, .retAddr 3)], [(1, .retAddr 0, .int 15, .int 0), (2, .retAddr 2, .null, .retAddr 4), (12, .retAddr 4, .int 32, .int 0), (15, .retAddr 4, .int 126, .int 1), (2, .retAddr 4, .null, .retAddr 4), (10, .retAddr 4, .int 10, .int 0)], fun j hj => (match j, hj with
    | 0, _ => rfl
    | 1, _ => hl1.symm
    | 2, _ => rfl
    | 3, _ => rfl
    | j + 4, hj => absurd hj (by omega)), List.forall_mem_cons.mpr ⟨Or.inl ⟨rfl, xs 0, 15, rfl, rfl, congrArg Value.int h0.symm⟩, List.forall_mem_cons.mpr ⟨Or.inr (Or.inl ⟨rfl, xs 2, rfl, rfl⟩), List.forall_mem_cons.mpr ⟨sq_fc (c := .lt) (x := sm_chr (xs 2)) (y := 32) (bb := false) (by rw [sq_cmp]; exact decide_eq_false (by have e : (32 : Int32).toInt = 32 := rfl; omega)) rfl rfl rfl, List.forall_mem_cons.mpr ⟨sq_fc (c := .le) (x := sm_chr (xs 2)) (y := 126) (bb := true) (by rw [sq_cmp]; exact decide_eq_true (by have e : (126 : Int32).toInt = 126 := rfl; omega)) rfl rfl rfl, List.forall_mem_cons.mpr ⟨Or.inr (Or.inl ⟨rfl, sm_chr (xs 2), rfl, congrArg Value.int (sm_chr2 _).symm⟩), List.forall_mem_cons.mpr ⟨sq_fc (c := .eq) (x := sm_chr (xs 2)) (y := 10) (bb := false) (by rw [sq_cmp]; exact decide_eq_false (by have e : (10 : Int32).toInt = 10 := rfl; omega)) rfl rfl rfl, fun _ h => absurd h List.not_mem_nil⟩⟩⟩⟩⟩⟩, sq_c_type0_in⟩
theorem sq_q_type0_high (xs : Nat → Int32) (h0 : xs 0 &&& 15 = 0) (hl1 : xs 1 = 0) (hc : 126 < (sm_chr (xs 2)).toInt) : sq_Q 4 xs := ⟨sq_ρ xs, sq_μ xs, [(0, .retAddr 0), (1, .int 0), (2, .retAddr 2), (3, .retAddr 3)], [(1, .retAddr 0, .int 15, .int 0), (2, .retAddr 2, .null, .retAddr 4), (12, .retAddr 4, .int 32, .int 0), (15, .retAddr 4, .int 126, .int 0), (11, .retAddr 4, .int 10, .int 1), (10, .retAddr 4, .int 10, .int 0)], fun j hj => (match j, hj with
    | 0, _ => rfl
    | 1, _ => hl1.symm
    | 2, _ => rfl
    | 3, _ => rfl
    | j + 4, hj => absurd hj (by omega)), List.forall_mem_cons.mpr ⟨Or.inl ⟨rfl, xs 0, 15, rfl, rfl, congrArg Value.int h0.symm⟩, List.forall_mem_cons.mpr ⟨Or.inr (Or.inl ⟨rfl, xs 2, rfl, rfl⟩), List.forall_mem_cons.mpr ⟨sq_fc (c := .lt) (x := sm_chr (xs 2)) (y := 32) (bb := false) (by rw [sq_cmp]; exact decide_eq_false (by have e : (32 : Int32).toInt = 32 := rfl; omega)) rfl rfl rfl, List.forall_mem_cons.mpr ⟨sq_fc (c := .le) (x := sm_chr (xs 2)) (y := 126) (bb := false) (by rw [sq_cmp]; exact decide_eq_false (by have e : (126 : Int32).toInt = 126 := rfl; omega)) rfl rfl rfl, List.forall_mem_cons.mpr ⟨sq_fc (c := .ne) (x := sm_chr (xs 2)) (y := 10) (bb := true) (by rw [sq_cmp]; exact congrArg Bool.not (decide_eq_false (by have e : (10 : Int32).toInt = 10 := rfl; omega))) rfl rfl rfl, List.forall_mem_cons.mpr ⟨sq_fc (c := .eq) (x := sm_chr (xs 2)) (y := 10) (bb := false) (by rw [sq_cmp]; exact decide_eq_false (by have e : (10 : Int32).toInt = 10 := rfl; omega)) rfl rfl rfl, fun _ h => absurd h List.not_mem_nil⟩⟩⟩⟩⟩⟩, sq_c_type0_high⟩
theorem sq_q_type1_low (xs : Nat → Int32) (h0 : xs 0 &&& 15 = 0) (hl1 : xs 1 = 1) (hc : (sm_chr (xs 2)).toInt < 32 ∧ (sm_chr (xs 2)).toInt ≠ 10) : sq_Q 4 xs := ⟨sq_ρ xs, sq_μ xs, [(0, .retAddr 0), (1, .int 1), (2, .retAddr 2), (3, .retAddr 3)], [(1, .retAddr 0, .int 15, .int 0), (2, .retAddr 2, .null, .retAddr 4), (12, .retAddr 4, .int 32, .int 1), (11, .retAddr 4, .int 10, .int 1), (10, .retAddr 4, .int 10, .int 0)], fun j hj => (match j, hj with
    | 0, _ => rfl
    | 1, _ => hl1.symm
    | 2, _ => rfl
    | 3, _ => rfl
    | j + 4, hj => absurd hj (by omega)), List.forall_mem_cons.mpr ⟨Or.inl ⟨rfl, xs 0, 15, rfl, rfl, congrArg Value.int h0.symm⟩, List.forall_mem_cons.mpr ⟨Or.inr (Or.inl ⟨rfl, xs 2, rfl, rfl⟩), List.forall_mem_cons.mpr ⟨sq_fc (c := .lt) (x := sm_chr (xs 2)) (y := 32) (bb := true) (by rw [sq_cmp]; exact decide_eq_true (by have e : (32 : Int32).toInt = 32 := rfl; omega)) rfl rfl rfl, List.forall_mem_cons.mpr ⟨sq_fc (c := .ne) (x := sm_chr (xs 2)) (y := 10) (bb := true) (by rw [sq_cmp]; exact congrArg Bool.not (decide_eq_false (by have e : (10 : Int32).toInt = 10 := rfl; omega))) rfl rfl rfl, List.forall_mem_cons.mpr ⟨sq_fc (c := .eq) (x := sm_chr (xs 2)) (y := 10) (bb := false) (by rw [sq_cmp]; exact decide_eq_false (by have e : (10 : Int32).toInt = 10 := rfl; omega)) rfl rfl rfl, fun _ h => absurd h List.not_mem_nil⟩⟩⟩⟩⟩, sq_c_type1_low⟩
theorem sq_q_type1_nl (xs : Nat → Int32) (h0 : xs 0 &&& 15 = 0) (hl1 : xs 1 = 1) (hc : (sm_chr (xs 2)).toInt = 10) : sq_Q 4 xs := ⟨sq_ρ xs, sq_μ xs, [(0, .retAddr 0), (1, .int 1), (2, .retAddr 2), (3, .retAddr 3)], [(1, .retAddr 0, .int 15, .int 0), (2, .retAddr 2, .null, .retAddr 4), (12, .retAddr 4, .int 32, .int 1), (11, .retAddr 4, .int 10, .int 0), (2, .retAddr 4, .null, .retAddr 4), (10, .retAddr 4, .int 10, .int 1)], fun j hj => (match j, hj with
    | 0, _ => rfl
    | 1, _ => hl1.symm
    | 2, _ => rfl
    | 3, _ => rfl
    | j + 4, hj => absurd hj (by omega)), List.forall_mem_cons.mpr ⟨Or.inl ⟨rfl, xs 0, 15, rfl, rfl, congrArg Value.int h0.symm⟩, List.forall_mem_cons.mpr ⟨Or.inr (Or.inl ⟨rfl, xs 2, rfl, rfl⟩), List.forall_mem_cons.mpr ⟨sq_fc (c := .lt) (x := sm_chr (xs 2)) (y := 32) (bb := true) (by rw [sq_cmp]; exact decide_eq_true (by have e : (32 : Int32).toInt = 32 := rfl; omega)) rfl rfl rfl, List.forall_mem_cons.mpr ⟨sq_fc (c := .ne) (x := sm_chr (xs 2)) (y := 10) (bb := false) (by rw [sq_cmp]; exact congrArg Bool.not (decide_eq_true (by have e : (10 : Int32).toInt = 10 := rfl; omega))) rfl rfl rfl, List.forall_mem_cons.mpr ⟨Or.inr (Or.inl ⟨rfl, sm_chr (xs 2), rfl, congrArg Value.int (sm_chr2 _).symm⟩), List.forall_mem_cons.mpr ⟨sq_fc (c := .eq) (x := sm_chr (xs 2)) (y := 10) (bb := true) (by rw [sq_cmp]; exact decide_eq_true (by have e : (10 : Int32).toInt = 10 := rfl; omega)) rfl rfl rfl, fun _ h => absurd h List.not_mem_nil⟩⟩⟩⟩⟩⟩, sq_c_type1_nl⟩
theorem sq_q_type1_in (xs : Nat → Int32) (h0 : xs 0 &&& 15 = 0) (hl1 : xs 1 = 1) (hc : 32 ≤ (sm_chr (xs 2)).toInt ∧ (sm_chr (xs 2)).toInt ≤ 126) : sq_Q 4 xs := ⟨sq_ρ xs, sq_μ xs, [(0, .retAddr 0), (1, .int 1), (2, .retAddr 2), (3, .retAddr 3)], [(1, .retAddr 0, .int 15, .int 0), (2, .retAddr 2, .null, .retAddr 4), (12, .retAddr 4, .int 32, .int 0), (15, .retAddr 4, .int 126, .int 1), (2, .retAddr 4, .null, .retAddr 4), (10, .retAddr 4, .int 10, .int 0)], fun j hj => (match j, hj with
    | 0, _ => rfl
    | 1, _ => hl1.symm
    | 2, _ => rfl
    | 3, _ => rfl
    | j + 4, hj => absurd hj (by omega)), List.forall_mem_cons.mpr ⟨Or.inl ⟨rfl, xs 0, 15, rfl, rfl, congrArg Value.int h0.symm⟩, List.forall_mem_cons.mpr ⟨Or.inr (Or.inl ⟨rfl, xs 2, rfl, rfl⟩), List.forall_mem_cons.mpr ⟨sq_fc (c := .lt) (x := sm_chr (xs 2)) (y := 32) (bb := false) (by rw [sq_cmp]; exact decide_eq_false (by have e : (32 : Int32).toInt = 32 := rfl; omega)) rfl rfl rfl, List.forall_mem_cons.mpr ⟨sq_fc (c := .le) (x := sm_chr (xs 2)) (y := 126) (bb := true) (by rw [sq_cmp]; exact decide_eq_true (by have e : (126 : Int32).toInt = 126 := rfl; omega)) rfl rfl rfl, List.forall_mem_cons.mpr ⟨Or.inr (Or.inl ⟨rfl, sm_chr (xs 2), rfl, congrArg Value.int (sm_chr2 _).symm⟩), List.forall_mem_cons.mpr ⟨sq_fc (c := .eq) (x := sm_chr (xs 2)) (y := 10) (bb := false) (by rw [sq_cmp]; exact decide_eq_false (by have e : (10 : Int32).toInt = 10 := rfl; omega)) rfl rfl rfl, fun _ h => absurd h List.not_mem_nil⟩⟩⟩⟩⟩⟩, sq_c_type1_in⟩
theorem sq_q_type1_high (xs : Nat → Int32) (h0 : xs 0 &&& 15 = 0) (hl1 : xs 1 = 1) (hc : 126 < (sm_chr (xs 2)).toInt) : sq_Q 4 xs := ⟨sq_ρ xs, sq_μ xs, [(0, .retAddr 0), (1, .int 1), (2, .retAddr 2), (3, .retAddr 3)], [(1, .retAddr 0, .int 15, .int 0), (2, .retAddr 2, .null, .retAddr 4), (12, .retAddr 4, .int 32, .int 0), (15, .retAddr 4, .int 126, .int 0), (11, .retAddr 4, .int 10, .int 1), (10, .retAddr 4, .int 10, .int 0)], fun j hj => (match j, hj with
    | 0, _ => rfl
    | 1, _ => hl1.symm
    | 2, _ => rfl
    | 3, _ => rfl
    | j + 4, hj => absurd hj (by omega)), List.forall_mem_cons.mpr ⟨Or.inl ⟨rfl, xs 0, 15, rfl, rfl, congrArg Value.int h0.symm⟩, List.forall_mem_cons.mpr ⟨Or.inr (Or.inl ⟨rfl, xs 2, rfl, rfl⟩), List.forall_mem_cons.mpr ⟨sq_fc (c := .lt) (x := sm_chr (xs 2)) (y := 32) (bb := false) (by rw [sq_cmp]; exact decide_eq_false (by have e : (32 : Int32).toInt = 32 := rfl; omega)) rfl rfl rfl, List.forall_mem_cons.mpr ⟨sq_fc (c := .le) (x := sm_chr (xs 2)) (y := 126) (bb := false) (by rw [sq_cmp]; exact decide_eq_false (by have e : (126 : Int32).toInt = 126 := rfl; omega)) rfl rfl rfl, List.forall_mem_cons.mpr ⟨sq_fc (c := .ne) (x := sm_chr (xs 2)) (y := 10) (bb := true) (by rw [sq_cmp]; exact congrArg Bool.not (decide_eq_false (by have e : (10 : Int32).toInt = 10 := rfl; omega))) rfl rfl rfl, List.forall_mem_cons.mpr ⟨sq_fc (c := .eq) (x := sm_chr (xs 2)) (y := 10) (bb := false) (by rw [sq_cmp]; exact decide_eq_false (by have e : (10 : Int32).toInt = 10 := rfl; omega)) rfl rfl rfl, fun _ h => absurd h List.not_mem_nil⟩⟩⟩⟩⟩⟩, sq_c_type1_high⟩
theorem sq_q_clear_neg (xs : Nat → Int32) (h0 : xs 0 &&& 15 = 1) (hc : (xs 1).toInt < 0) : sq_Q 4 xs := ⟨sq_ρ xs, sq_μ xs, [(0, .retAddr 0), (1, .retAddr 1), (2, .retAddr 2), (3, .retAddr 3)], [(1, .retAddr 0, .int 15, .int 1), (10, .retAddr 1, .int 0, .int 0), (10, .retAddr 1, .int 1, .int 0), (12, .retAddr 1, .int 0, .int 1)], fun j hj => (match j, hj with
    | 0, _ => rfl
    | 1, _ => rfl
    | 2, _ => rfl
    | 3, _ => rfl
    | j + 4, hj => absurd hj (by omega)), List.forall_mem_cons.mpr ⟨Or.inl ⟨rfl, xs 0, 15, rfl, rfl, congrArg Value.int h0.symm⟩, List.forall_mem_cons.mpr ⟨sq_fc (c := .eq) (x := xs 1) (y := 0) (bb := false) (by rw [sq_cmp]; exact decide_eq_false (by have e : (0 : Int32).toInt = 0 := rfl; omega)) rfl rfl rfl, List.forall_mem_cons.mpr ⟨sq_fc (c := .eq) (x := xs 1) (y := 1) (bb := false) (by rw [sq_cmp]; exact decide_eq_false (by have e : (1 : Int32).toInt = 1 := rfl; omega)) rfl rfl rfl, List.forall_mem_cons.mpr ⟨sq_fc (c := .lt) (x := xs 1) (y := 0) (bb := true) (by rw [sq_cmp]; exact decide_eq_true (by have e : (0 : Int32).toInt = 0 := rfl; omega)) rfl rfl rfl, fun _ h => absurd h List.not_mem_nil⟩⟩⟩⟩, sq_c_clear_neg⟩
theorem sq_q_clear_big (xs : Nat → Int32) (h0 : xs 0 &&& 15 = 1) (hc : 1 < (xs 1).toInt) : sq_Q 4 xs := ⟨sq_ρ xs, sq_μ xs, [(0, .retAddr 0), (1, .retAddr 1), (2, .retAddr 2), (3, .retAddr 3)], [(1, .retAddr 0, .int 15, .int 1), (10, .retAddr 1, .int 0, .int 0), (10, .retAddr 1, .int 1, .int 0), (12, .retAddr 1, .int 0, .int 0), (15, .retAddr 1, .int 1, .int 0)], fun j hj => (match j, hj with
    | 0, _ => rfl
    | 1, _ => rfl
    | 2, _ => rfl
    | 3, _ => rfl
    | j + 4, hj => absurd hj (by omega)), List.forall_mem_cons.mpr ⟨Or.inl ⟨rfl, xs 0, 15, rfl, rfl, congrArg Value.int h0.symm⟩, List.forall_mem_cons.mpr ⟨sq_fc (c := .eq) (x := xs 1) (y := 0) (bb := false) (by rw [sq_cmp]; exact decide_eq_false (by have e : (0 : Int32).toInt = 0 := rfl; omega)) rfl rfl rfl, List.forall_mem_cons.mpr ⟨sq_fc (c := .eq) (x := xs 1) (y := 1) (bb := false) (by rw [sq_cmp]; exact decide_eq_false (by have e : (1 : Int32).toInt = 1 := rfl; omega)) rfl rfl rfl, List.forall_mem_cons.mpr ⟨sq_fc (c := .lt) (x := xs 1) (y := 0) (bb := false) (by rw [sq_cmp]; exact decide_eq_false (by have e : (0 : Int32).toInt = 0 := rfl; omega)) rfl rfl rfl, List.forall_mem_cons.mpr ⟨sq_fc (c := .le) (x := xs 1) (y := 1) (bb := false) (by rw [sq_cmp]; exact decide_eq_false (by have e : (1 : Int32).toInt = 1 := rfl; omega)) rfl rfl rfl, fun _ h => absurd h List.not_mem_nil⟩⟩⟩⟩⟩, sq_c_clear_big⟩
theorem sq_q_clear_0 (xs : Nat → Int32) (h0 : xs 0 &&& 15 = 1) (hl1 : xs 1 = 0) : sq_Q 4 xs := ⟨sq_ρ xs, sq_μ xs, [(0, .retAddr 0), (1, .int 0), (2, .retAddr 2), (3, .retAddr 3)], [(1, .retAddr 0, .int 15, .int 1)], fun j hj => (match j, hj with
    | 0, _ => rfl
    | 1, _ => hl1.symm
    | 2, _ => rfl
    | 3, _ => rfl
    | j + 4, hj => absurd hj (by omega)), List.forall_mem_cons.mpr ⟨Or.inl ⟨rfl, xs 0, 15, rfl, rfl, congrArg Value.int h0.symm⟩, fun _ h => absurd h List.not_mem_nil⟩, sq_c_clear_0⟩
theorem sq_q_clear_1 (xs : Nat → Int32) (h0 : xs 0 &&& 15 = 1) (hl1 : xs 1 = 1) : sq_Q 4 xs := ⟨sq_ρ xs, sq_μ xs, [(0, .retAddr 0), (1, .int 1), (2, .retAddr 2), (3, .retAddr 3)], [(1, .retAddr 0, .int 15, .int 1)], fun j hj => (match j, hj with
    | 0, _ => rfl
    | 1, _ => hl1.symm
    | 2, _ => rfl
    | 3, _ => rfl
    | j + 4, hj => absurd hj (by omega)), List.forall_mem_cons.mpr ⟨Or.inl ⟨rfl, xs 0, 15, rfl, rfl, congrArg Value.int h0.symm⟩, fun _ h => absurd h List.not_mem_nil⟩, sq_c_clear_1⟩
theorem sq_q_sample_neg (xs : Nat → Int32) (h0 : xs 0 &&& 15 = 2) (hc : (xs 1).toInt < 0) : sq_Q 4 xs := ⟨sq_ρ xs, sq_μ xs, [(0, .retAddr 0), (1, .retAddr 1), (2, .retAddr 2), (3, .retAddr 3)], [(1, .retAddr 0, .int 15, .int 2), (12, .retAddr 1, .int 0, .int 1)], fun j hj => (match j, hj with
    | 0, _ => rfl
    | 1, _ => rfl
    | 2, _ => rfl
    | 3, _ => rfl
    | j + 4, hj => absurd hj (by omega)), List.forall_mem_cons.mpr ⟨Or.inl ⟨rfl, xs 0, 15, rfl, rfl, congrArg Value.int h0.symm⟩, List.forall_mem_cons.mpr ⟨sq_fc (c := .lt) (x := xs 1) (y := 0) (bb := true) (by rw [sq_cmp]; exact decide_eq_true (by have e : (0 : Int32).toInt = 0 := rfl; omega)) rfl rfl rfl, fun _ h => absurd h List.not_mem_nil⟩⟩, sq_c_sample_neg⟩
theorem sq_q_sample_big (xs : Nat → Int32) (h0 : xs 0 &&& 15 = 2) (hc : 2 < (xs 1).toInt) : sq_Q 4 xs := ⟨sq_ρ xs, sq_μ xs, [(0, .retAddr 0), (1, .retAddr 1), (2, .retAddr 2), (3, .retAddr 3)], [(1, .retAddr 0, .int 15, .int 2), (12, .retAddr 1, .int 0, .int 0), (15, .retAddr 1, .int 2, .int 0)], fun j hj => (match j, hj with
    | 0, _ => rfl
    | 1, _ => rfl
    | 2, _ => rfl
    | 3, _ => rfl
    | j + 4, hj => absurd hj (by omega)), List.forall_mem_cons.mpr ⟨Or.inl ⟨rfl, xs 0, 15, rfl, rfl, congrArg Value.int h0.symm⟩, List.forall_mem_cons.mpr ⟨sq_fc (c := .lt) (x := xs 1) (y := 0) (bb := false) (by rw [sq_cmp]; exact decide_eq_false (by have e : (0 : Int32).toInt = 0 := rfl; omega)) rfl rfl rfl, List.forall_mem_cons.mpr ⟨sq_fc (c := .le) (x := xs 1) (y := 2) (bb := false) (by rw [sq_cmp]; exact decide_eq_false (by have e : (2 : Int32).toInt = 2 := rfl; omega)) rfl rfl rfl, fun _ h => absurd h List.not_mem_nil⟩⟩⟩, sq_c_sample_big⟩
theorem sq_q_sample_0 (xs : Nat → Int32) (h0 : xs 0 &&& 15 = 2) (hl1 : xs 1 = 0) : sq_Q 4 xs := ⟨sq_ρ xs, sq_μ xs, [(0, .retAddr 0), (1, .int 0), (2, .retAddr 2), (3, .retAddr 3)], [(1, .retAddr 0, .int 15, .int 2)], fun j hj => (match j, hj with
    | 0, _ => rfl
    | 1, _ => hl1.symm
    | 2, _ => rfl
    | 3, _ => rfl
    | j + 4, hj => absurd hj (by omega)), List.forall_mem_cons.mpr ⟨Or.inl ⟨rfl, xs 0, 15, rfl, rfl, congrArg Value.int h0.symm⟩, fun _ h => absurd h List.not_mem_nil⟩, sq_c_sample_0⟩
theorem sq_q_sample_1 (xs : Nat → Int32) (h0 : xs 0 &&& 15 = 2) (hl1 : xs 1 = 1) : sq_Q 4 xs := ⟨sq_ρ xs, sq_μ xs, [(0, .retAddr 0), (1, .int 1), (2, .retAddr 2), (3, .retAddr 3)], [(1, .retAddr 0, .int 15, .int 2)], fun j hj => (match j, hj with
    | 0, _ => rfl
    | 1, _ => hl1.symm
    | 2, _ => rfl
    | 3, _ => rfl
    | j + 4, hj => absurd hj (by omega)), List.forall_mem_cons.mpr ⟨Or.inl ⟨rfl, xs 0, 15, rfl, rfl, congrArg Value.int h0.symm⟩, fun _ h => absurd h List.not_mem_nil⟩, sq_c_sample_1⟩
theorem sq_q_sample_2 (xs : Nat → Int32) (h0 : xs 0 &&& 15 = 2) (hl1 : xs 1 = 2) : sq_Q 4 xs := ⟨sq_ρ xs, sq_μ xs, [(0, .retAddr 0), (1, .int 2), (2, .retAddr 2), (3, .retAddr 3)], [(1, .retAddr 0, .int 15, .int 2)], fun j hj => (match j, hj with
    | 0, _ => rfl
    | 1, _ => hl1.symm
    | 2, _ => rfl
    | 3, _ => rfl
    | j + 4, hj => absurd hj (by omega)), List.forall_mem_cons.mpr ⟨Or.inl ⟨rfl, xs 0, 15, rfl, rfl, congrArg Value.int h0.symm⟩, fun _ h => absurd h List.not_mem_nil⟩, sq_c_sample_2⟩
theorem sq_q_compile (xs : Nat → Int32) (h0 : xs 0 &&& 15 = 3)  : sq_Q 4 xs := ⟨sq_ρ xs, sq_μ xs, [(0, .retAddr 0), (1, .retAddr 1), (2, .retAddr 2), (3, .retAddr 3)], [(1, .retAddr 0, .int 15, .int 3)], fun j hj => (match j, hj with
    | 0, _ => rfl
    | 1, _ => rfl
    | 2, _ => rfl
    | 3, _ => rfl
    | j + 4, hj => absurd hj (by omega)), List.forall_mem_cons.mpr ⟨Or.inl ⟨rfl, xs 0, 15, rfl, rfl, congrArg Value.int h0.symm⟩, fun _ h => absurd h List.not_mem_nil⟩, sq_c_compile⟩
theorem sq_q_rule (xs : Nat → Int32) (h0 : xs 0 &&& 15 = 4)  : sq_Q 4 xs := ⟨sq_ρ xs, sq_μ xs, [(0, .retAddr 0), (1, .retAddr 1), (2, .retAddr 2), (3, .retAddr 3)], [(1, .retAddr 0, .int 15, .int 4)], fun j hj => (match j, hj with
    | 0, _ => rfl
    | 1, _ => rfl
    | 2, _ => rfl
    | 3, _ => rfl
    | j + 4, hj => absurd hj (by omega)), List.forall_mem_cons.mpr ⟨Or.inl ⟨rfl, xs 0, 15, rfl, rfl, congrArg Value.int h0.symm⟩, fun _ h => absurd h List.not_mem_nil⟩, sq_c_rule⟩
theorem sq_q_parse (xs : Nat → Int32) (h0 : xs 0 &&& 15 = 5)  : sq_Q 4 xs := ⟨sq_ρ xs, sq_μ xs, [(0, .retAddr 0), (1, .retAddr 1), (2, .retAddr 2), (3, .retAddr 3)], [(1, .retAddr 0, .int 15, .int 5)], fun j hj => (match j, hj with
    | 0, _ => rfl
    | 1, _ => rfl
    | 2, _ => rfl
    | 3, _ => rfl
    | j + 4, hj => absurd hj (by omega)), List.forall_mem_cons.mpr ⟨Or.inl ⟨rfl, xs 0, 15, rfl, rfl, congrArg Value.int h0.symm⟩, fun _ h => absurd h List.not_mem_nil⟩, sq_c_parse⟩
theorem sq_q_grow_neg (xs : Nat → Int32) (h0 : xs 0 &&& 15 = 6) (hc : (xs 3).toInt < 0) : sq_Q 4 xs := ⟨sq_ρ xs, sq_μ xs, [(0, .retAddr 0), (1, .retAddr 1), (2, .retAddr 2), (3, .retAddr 3)], [(1, .retAddr 0, .int 15, .int 6), (3, .retAddr 1, .null, .double 0), (4, .double 0, .int 32, .double 1), (3, .retAddr 2, .null, .double 2), (5, .double 2, .long 4294967295, .double 3), (6, .double 1, .double 3, .double 4), (12, .retAddr 3, .int 0, .int 1)], fun j hj => (match j, hj with
    | 0, _ => rfl
    | 1, _ => rfl
    | 2, _ => rfl
    | 3, _ => rfl
    | j + 4, hj => absurd hj (by omega)), List.forall_mem_cons.mpr ⟨Or.inl ⟨rfl, xs 0, 15, rfl, rfl, congrArg Value.int h0.symm⟩, List.forall_mem_cons.mpr ⟨Or.inr (Or.inr (Or.inl ⟨rfl, xs 1, rfl, rfl⟩)), List.forall_mem_cons.mpr ⟨Or.inr (Or.inr (Or.inr (Or.inl ⟨rfl, (xs 1).toInt64, 32, rfl, rfl, rfl⟩))), List.forall_mem_cons.mpr ⟨Or.inr (Or.inr (Or.inl ⟨rfl, xs 2, rfl, rfl⟩)), List.forall_mem_cons.mpr ⟨Or.inr (Or.inr (Or.inr (Or.inr (Or.inl ⟨rfl, (xs 2).toInt64, 4294967295, rfl, rfl, rfl⟩)))), List.forall_mem_cons.mpr ⟨Or.inr (Or.inr (Or.inr (Or.inr (Or.inr (Or.inl ⟨rfl, sq_sh (xs 1).toInt64, (xs 2).toInt64 &&& 4294967295, rfl, rfl, rfl⟩))))), List.forall_mem_cons.mpr ⟨sq_fc (c := .lt) (x := xs 3) (y := 0) (bb := true) (by rw [sq_cmp]; exact decide_eq_true (by have e : (0 : Int32).toInt = 0 := rfl; omega)) rfl rfl rfl, fun _ h => absurd h List.not_mem_nil⟩⟩⟩⟩⟩⟩⟩, sq_c_grow_neg⟩
theorem sq_q_grow_big (xs : Nat → Int32) (h0 : xs 0 &&& 15 = 6) (hc : 20 < (xs 3).toInt) : sq_Q 4 xs := ⟨sq_ρ xs, sq_μ xs, [(0, .retAddr 0), (1, .retAddr 1), (2, .retAddr 2), (3, .retAddr 3)], [(1, .retAddr 0, .int 15, .int 6), (3, .retAddr 1, .null, .double 0), (4, .double 0, .int 32, .double 1), (3, .retAddr 2, .null, .double 2), (5, .double 2, .long 4294967295, .double 3), (6, .double 1, .double 3, .double 4), (12, .retAddr 3, .int 0, .int 0), (15, .retAddr 3, .int 20, .int 0)], fun j hj => (match j, hj with
    | 0, _ => rfl
    | 1, _ => rfl
    | 2, _ => rfl
    | 3, _ => rfl
    | j + 4, hj => absurd hj (by omega)), List.forall_mem_cons.mpr ⟨Or.inl ⟨rfl, xs 0, 15, rfl, rfl, congrArg Value.int h0.symm⟩, List.forall_mem_cons.mpr ⟨Or.inr (Or.inr (Or.inl ⟨rfl, xs 1, rfl, rfl⟩)), List.forall_mem_cons.mpr ⟨Or.inr (Or.inr (Or.inr (Or.inl ⟨rfl, (xs 1).toInt64, 32, rfl, rfl, rfl⟩))), List.forall_mem_cons.mpr ⟨Or.inr (Or.inr (Or.inl ⟨rfl, xs 2, rfl, rfl⟩)), List.forall_mem_cons.mpr ⟨Or.inr (Or.inr (Or.inr (Or.inr (Or.inl ⟨rfl, (xs 2).toInt64, 4294967295, rfl, rfl, rfl⟩)))), List.forall_mem_cons.mpr ⟨Or.inr (Or.inr (Or.inr (Or.inr (Or.inr (Or.inl ⟨rfl, sq_sh (xs 1).toInt64, (xs 2).toInt64 &&& 4294967295, rfl, rfl, rfl⟩))))), List.forall_mem_cons.mpr ⟨sq_fc (c := .lt) (x := xs 3) (y := 0) (bb := false) (by rw [sq_cmp]; exact decide_eq_false (by have e : (0 : Int32).toInt = 0 := rfl; omega)) rfl rfl rfl, List.forall_mem_cons.mpr ⟨sq_fc (c := .le) (x := xs 3) (y := 20) (bb := false) (by rw [sq_cmp]; exact decide_eq_false (by have e : (20 : Int32).toInt = 20 := rfl; omega)) rfl rfl rfl, fun _ h => absurd h List.not_mem_nil⟩⟩⟩⟩⟩⟩⟩⟩, sq_c_grow_big⟩
theorem sq_q_grow_in (xs : Nat → Int32) (h0 : xs 0 &&& 15 = 6) (hc : 0 ≤ (xs 3).toInt ∧ (xs 3).toInt ≤ 20) : sq_Q 4 xs := ⟨sq_ρ xs, sq_μ xs, [(0, .retAddr 0), (1, .retAddr 1), (2, .retAddr 2), (3, .retAddr 3)], [(1, .retAddr 0, .int 15, .int 6), (3, .retAddr 1, .null, .double 0), (4, .double 0, .int 32, .double 1), (3, .retAddr 2, .null, .double 2), (5, .double 2, .long 4294967295, .double 3), (6, .double 1, .double 3, .double 4), (12, .retAddr 3, .int 0, .int 0), (15, .retAddr 3, .int 20, .int 1)], fun j hj => (match j, hj with
    | 0, _ => rfl
    | 1, _ => rfl
    | 2, _ => rfl
    | 3, _ => rfl
    | j + 4, hj => absurd hj (by omega)), List.forall_mem_cons.mpr ⟨Or.inl ⟨rfl, xs 0, 15, rfl, rfl, congrArg Value.int h0.symm⟩, List.forall_mem_cons.mpr ⟨Or.inr (Or.inr (Or.inl ⟨rfl, xs 1, rfl, rfl⟩)), List.forall_mem_cons.mpr ⟨Or.inr (Or.inr (Or.inr (Or.inl ⟨rfl, (xs 1).toInt64, 32, rfl, rfl, rfl⟩))), List.forall_mem_cons.mpr ⟨Or.inr (Or.inr (Or.inl ⟨rfl, xs 2, rfl, rfl⟩)), List.forall_mem_cons.mpr ⟨Or.inr (Or.inr (Or.inr (Or.inr (Or.inl ⟨rfl, (xs 2).toInt64, 4294967295, rfl, rfl, rfl⟩)))), List.forall_mem_cons.mpr ⟨Or.inr (Or.inr (Or.inr (Or.inr (Or.inr (Or.inl ⟨rfl, sq_sh (xs 1).toInt64, (xs 2).toInt64 &&& 4294967295, rfl, rfl, rfl⟩))))), List.forall_mem_cons.mpr ⟨sq_fc (c := .lt) (x := xs 3) (y := 0) (bb := false) (by rw [sq_cmp]; exact decide_eq_false (by have e : (0 : Int32).toInt = 0 := rfl; omega)) rfl rfl rfl, List.forall_mem_cons.mpr ⟨sq_fc (c := .le) (x := xs 3) (y := 20) (bb := true) (by rw [sq_cmp]; exact decide_eq_true (by have e : (20 : Int32).toInt = 20 := rfl; omega)) rfl rfl rfl, fun _ h => absurd h List.not_mem_nil⟩⟩⟩⟩⟩⟩⟩⟩, sq_c_grow_in⟩
theorem sq_q_node_neg (xs : Nat → Int32) (h0 : xs 0 &&& 15 = 7) (hc : (xs 1).toInt < 0) : sq_Q 4 xs := ⟨sq_ρ xs, sq_μ xs, [(0, .retAddr 0), (1, .retAddr 1), (2, .retAddr 2), (3, .retAddr 3)], [(1, .retAddr 0, .int 15, .int 7), (12, .retAddr 1, .int 0, .int 1)], fun j hj => (match j, hj with
    | 0, _ => rfl
    | 1, _ => rfl
    | 2, _ => rfl
    | 3, _ => rfl
    | j + 4, hj => absurd hj (by omega)), List.forall_mem_cons.mpr ⟨Or.inl ⟨rfl, xs 0, 15, rfl, rfl, congrArg Value.int h0.symm⟩, List.forall_mem_cons.mpr ⟨sq_fc (c := .lt) (x := xs 1) (y := 0) (bb := true) (by rw [sq_cmp]; exact decide_eq_true (by have e : (0 : Int32).toInt = 0 := rfl; omega)) rfl rfl rfl, fun _ h => absurd h List.not_mem_nil⟩⟩, sq_c_node_neg⟩
theorem sq_q_node_pos (xs : Nat → Int32) (h0 : xs 0 &&& 15 = 7) (hc : 0 ≤ (xs 1).toInt) : sq_Q 4 xs := ⟨sq_ρ xs, sq_μ xs, [(0, .retAddr 0), (1, .retAddr 1), (2, .retAddr 2), (3, .retAddr 3)], [(1, .retAddr 0, .int 15, .int 7), (12, .retAddr 1, .int 0, .int 0)], fun j hj => (match j, hj with
    | 0, _ => rfl
    | 1, _ => rfl
    | 2, _ => rfl
    | 3, _ => rfl
    | j + 4, hj => absurd hj (by omega)), List.forall_mem_cons.mpr ⟨Or.inl ⟨rfl, xs 0, 15, rfl, rfl, congrArg Value.int h0.symm⟩, List.forall_mem_cons.mpr ⟨sq_fc (c := .lt) (x := xs 1) (y := 0) (bb := false) (by rw [sq_cmp]; exact decide_eq_false (by have e : (0 : Int32).toInt = 0 := rfl; omega)) rfl rfl rfl, fun _ h => absurd h List.not_mem_nil⟩⟩, sq_c_node_pos⟩
theorem sq_q_set_neg (xs : Nat → Int32) (h0 : xs 0 &&& 15 = 8) (hc : (xs 1).toInt < 0) : sq_Q 4 xs := ⟨sq_ρ xs, sq_μ xs, [(0, .retAddr 0), (1, .retAddr 1), (2, .retAddr 2), (3, .retAddr 3)], [(1, .retAddr 0, .int 15, .int 8), (3, .retAddr 2, .null, .double 2), (4, .double 2, .int 32, .double 5), (3, .retAddr 3, .null, .double 6), (5, .double 6, .long 4294967295, .double 7), (6, .double 5, .double 7, .double 8), (12, .retAddr 1, .int 0, .int 1)], fun j hj => (match j, hj with
    | 0, _ => rfl
    | 1, _ => rfl
    | 2, _ => rfl
    | 3, _ => rfl
    | j + 4, hj => absurd hj (by omega)), List.forall_mem_cons.mpr ⟨Or.inl ⟨rfl, xs 0, 15, rfl, rfl, congrArg Value.int h0.symm⟩, List.forall_mem_cons.mpr ⟨Or.inr (Or.inr (Or.inl ⟨rfl, xs 2, rfl, rfl⟩)), List.forall_mem_cons.mpr ⟨Or.inr (Or.inr (Or.inr (Or.inl ⟨rfl, (xs 2).toInt64, 32, rfl, rfl, rfl⟩))), List.forall_mem_cons.mpr ⟨Or.inr (Or.inr (Or.inl ⟨rfl, xs 3, rfl, rfl⟩)), List.forall_mem_cons.mpr ⟨Or.inr (Or.inr (Or.inr (Or.inr (Or.inl ⟨rfl, (xs 3).toInt64, 4294967295, rfl, rfl, rfl⟩)))), List.forall_mem_cons.mpr ⟨Or.inr (Or.inr (Or.inr (Or.inr (Or.inr (Or.inl ⟨rfl, sq_sh (xs 2).toInt64, (xs 3).toInt64 &&& 4294967295, rfl, rfl, rfl⟩))))), List.forall_mem_cons.mpr ⟨sq_fc (c := .lt) (x := xs 1) (y := 0) (bb := true) (by rw [sq_cmp]; exact decide_eq_true (by have e : (0 : Int32).toInt = 0 := rfl; omega)) rfl rfl rfl, fun _ h => absurd h List.not_mem_nil⟩⟩⟩⟩⟩⟩⟩, sq_c_set_neg⟩
theorem sq_q_set_pos (xs : Nat → Int32) (h0 : xs 0 &&& 15 = 8) (hc : 0 ≤ (xs 1).toInt) : sq_Q 4 xs := ⟨sq_ρ xs, sq_μ xs, [(0, .retAddr 0), (1, .retAddr 1), (2, .retAddr 2), (3, .retAddr 3)], [(1, .retAddr 0, .int 15, .int 8), (3, .retAddr 2, .null, .double 2), (4, .double 2, .int 32, .double 5), (3, .retAddr 3, .null, .double 6), (5, .double 6, .long 4294967295, .double 7), (6, .double 5, .double 7, .double 8), (12, .retAddr 1, .int 0, .int 0)], fun j hj => (match j, hj with
    | 0, _ => rfl
    | 1, _ => rfl
    | 2, _ => rfl
    | 3, _ => rfl
    | j + 4, hj => absurd hj (by omega)), List.forall_mem_cons.mpr ⟨Or.inl ⟨rfl, xs 0, 15, rfl, rfl, congrArg Value.int h0.symm⟩, List.forall_mem_cons.mpr ⟨Or.inr (Or.inr (Or.inl ⟨rfl, xs 2, rfl, rfl⟩)), List.forall_mem_cons.mpr ⟨Or.inr (Or.inr (Or.inr (Or.inl ⟨rfl, (xs 2).toInt64, 32, rfl, rfl, rfl⟩))), List.forall_mem_cons.mpr ⟨Or.inr (Or.inr (Or.inl ⟨rfl, xs 3, rfl, rfl⟩)), List.forall_mem_cons.mpr ⟨Or.inr (Or.inr (Or.inr (Or.inr (Or.inl ⟨rfl, (xs 3).toInt64, 4294967295, rfl, rfl, rfl⟩)))), List.forall_mem_cons.mpr ⟨Or.inr (Or.inr (Or.inr (Or.inr (Or.inr (Or.inl ⟨rfl, sq_sh (xs 2).toInt64, (xs 3).toInt64 &&& 4294967295, rfl, rfl, rfl⟩))))), List.forall_mem_cons.mpr ⟨sq_fc (c := .lt) (x := xs 1) (y := 0) (bb := false) (by rw [sq_cmp]; exact decide_eq_false (by have e : (0 : Int32).toInt = 0 := rfl; omega)) rfl rfl rfl, fun _ h => absurd h List.not_mem_nil⟩⟩⟩⟩⟩⟩⟩, sq_c_set_pos⟩
theorem sq_q_print (xs : Nat → Int32) (h0 : xs 0 &&& 15 = 9)  : sq_Q 4 xs := ⟨sq_ρ xs, sq_μ xs, [(0, .retAddr 0), (1, .retAddr 1), (2, .retAddr 2), (3, .retAddr 3)], [(1, .retAddr 0, .int 15, .int 9)], fun j hj => (match j, hj with
    | 0, _ => rfl
    | 1, _ => rfl
    | 2, _ => rfl
    | 3, _ => rfl
    | j + 4, hj => absurd hj (by omega)), List.forall_mem_cons.mpr ⟨Or.inl ⟨rfl, xs 0, 15, rfl, rfl, congrArg Value.int h0.symm⟩, fun _ h => absurd h List.not_mem_nil⟩, sq_c_print⟩
theorem sq_q_output_neg (xs : Nat → Int32) (h0 : xs 0 &&& 15 = 10) (hc : (xs 1).toInt < 0) : sq_Q 4 xs := ⟨sq_ρ xs, sq_μ xs, [(0, .retAddr 0), (1, .retAddr 1), (2, .retAddr 2), (3, .retAddr 3)], [(1, .retAddr 0, .int 15, .int 10), (12, .retAddr 1, .int 0, .int 1)], fun j hj => (match j, hj with
    | 0, _ => rfl
    | 1, _ => rfl
    | 2, _ => rfl
    | 3, _ => rfl
    | j + 4, hj => absurd hj (by omega)), List.forall_mem_cons.mpr ⟨Or.inl ⟨rfl, xs 0, 15, rfl, rfl, congrArg Value.int h0.symm⟩, List.forall_mem_cons.mpr ⟨sq_fc (c := .lt) (x := xs 1) (y := 0) (bb := true) (by rw [sq_cmp]; exact decide_eq_true (by have e : (0 : Int32).toInt = 0 := rfl; omega)) rfl rfl rfl, fun _ h => absurd h List.not_mem_nil⟩⟩, sq_c_output_neg⟩
theorem sq_q_output_pos (xs : Nat → Int32) (h0 : xs 0 &&& 15 = 10) (hc : 0 ≤ (xs 1).toInt) : sq_Q 4 xs := ⟨sq_ρ xs, sq_μ xs, [(0, .retAddr 0), (1, .retAddr 1), (2, .retAddr 2), (3, .retAddr 3)], [(1, .retAddr 0, .int 15, .int 10), (12, .retAddr 1, .int 0, .int 0)], fun j hj => (match j, hj with
    | 0, _ => rfl
    | 1, _ => rfl
    | 2, _ => rfl
    | 3, _ => rfl
    | j + 4, hj => absurd hj (by omega)), List.forall_mem_cons.mpr ⟨Or.inl ⟨rfl, xs 0, 15, rfl, rfl, congrArg Value.int h0.symm⟩, List.forall_mem_cons.mpr ⟨sq_fc (c := .lt) (x := xs 1) (y := 0) (bb := false) (by rw [sq_cmp]; exact decide_eq_false (by have e : (0 : Int32).toInt = 0 := rfl; omega)) rfl rfl rfl, fun _ h => absurd h List.not_mem_nil⟩⟩, sq_c_output_pos⟩
theorem sq_q_carry (xs : Nat → Int32) (h0 : xs 0 &&& 15 = 11)  : sq_Q 4 xs := ⟨sq_ρ xs, sq_μ xs, [(0, .retAddr 0), (1, .retAddr 1), (2, .retAddr 2), (3, .retAddr 3)], [(1, .retAddr 0, .int 15, .int 11)], fun j hj => (match j, hj with
    | 0, _ => rfl
    | 1, _ => rfl
    | 2, _ => rfl
    | 3, _ => rfl
    | j + 4, hj => absurd hj (by omega)), List.forall_mem_cons.mpr ⟨Or.inl ⟨rfl, xs 0, 15, rfl, rfl, congrArg Value.int h0.symm⟩, fun _ h => absurd h List.not_mem_nil⟩, sq_c_carry⟩
theorem sq_q_keep (xs : Nat → Int32) (h0 : xs 0 &&& 15 = 12)  : sq_Q 4 xs := ⟨sq_ρ xs, sq_μ xs, [(0, .retAddr 0), (1, .retAddr 1), (2, .retAddr 2), (3, .retAddr 3)], [(1, .retAddr 0, .int 15, .int 12)], fun j hj => (match j, hj with
    | 0, _ => rfl
    | 1, _ => rfl
    | 2, _ => rfl
    | 3, _ => rfl
    | j + 4, hj => absurd hj (by omega)), List.forall_mem_cons.mpr ⟨Or.inl ⟨rfl, xs 0, 15, rfl, rfl, congrArg Value.int h0.symm⟩, fun _ h => absurd h List.not_mem_nil⟩, sq_c_keep⟩
theorem sq_q_compare (xs : Nat → Int32) (h0 : xs 0 &&& 15 = 13)  : sq_Q 4 xs := ⟨sq_ρ xs, sq_μ xs, [(0, .retAddr 0), (1, .retAddr 1), (2, .retAddr 2), (3, .retAddr 3)], [(1, .retAddr 0, .int 15, .int 13)], fun j hj => (match j, hj with
    | 0, _ => rfl
    | 1, _ => rfl
    | 2, _ => rfl
    | 3, _ => rfl
    | j + 4, hj => absurd hj (by omega)), List.forall_mem_cons.mpr ⟨Or.inl ⟨rfl, xs 0, 15, rfl, rfl, congrArg Value.int h0.symm⟩, fun _ h => absurd h List.not_mem_nil⟩, sq_c_compare⟩
theorem sq_q_count_neg (xs : Nat → Int32) (h0 : xs 0 &&& 15 = 14) (hc : (xs 1).toInt < 0) : sq_Q 4 xs := ⟨sq_ρ xs, sq_μ xs, [(0, .retAddr 0), (1, .retAddr 1), (2, .retAddr 2), (3, .retAddr 3)], [(1, .retAddr 0, .int 15, .int 14), (30, .retAddr 1, .int 6, .int 1)], fun j hj => (match j, hj with
    | 0, _ => rfl
    | 1, _ => rfl
    | 2, _ => rfl
    | 3, _ => rfl
    | j + 4, hj => absurd hj (by omega)), List.forall_mem_cons.mpr ⟨Or.inl ⟨rfl, xs 0, 15, rfl, rfl, congrArg Value.int h0.symm⟩, List.forall_mem_cons.mpr ⟨Or.inr (Or.inr (Or.inr (Or.inr (Or.inr (Or.inr (Or.inr (⟨rfl, xs 1, 6, rfl, rfl, by have e : (6 : Int32).toInt = 6 := rfl; omega⟩))))))), fun _ h => absurd h List.not_mem_nil⟩⟩, sq_c_count_neg⟩
theorem sq_q_count_big (xs : Nat → Int32) (h0 : xs 0 &&& 15 = 14) (hc : 6 < (xs 1).toInt) : sq_Q 4 xs := ⟨sq_ρ xs, sq_μ xs, [(0, .retAddr 0), (1, .retAddr 1), (2, .retAddr 2), (3, .retAddr 3)], [(1, .retAddr 0, .int 15, .int 14), (30, .retAddr 1, .int 6, .int 1)], fun j hj => (match j, hj with
    | 0, _ => rfl
    | 1, _ => rfl
    | 2, _ => rfl
    | 3, _ => rfl
    | j + 4, hj => absurd hj (by omega)), List.forall_mem_cons.mpr ⟨Or.inl ⟨rfl, xs 0, 15, rfl, rfl, congrArg Value.int h0.symm⟩, List.forall_mem_cons.mpr ⟨Or.inr (Or.inr (Or.inr (Or.inr (Or.inr (Or.inr (Or.inr (⟨rfl, xs 1, 6, rfl, rfl, by have e : (6 : Int32).toInt = 6 := rfl; omega⟩))))))), fun _ h => absurd h List.not_mem_nil⟩⟩, sq_c_count_big⟩
theorem sq_q_count_0 (xs : Nat → Int32) (h0 : xs 0 &&& 15 = 14) (hl1 : xs 1 = 0) : sq_Q 4 xs := ⟨sq_ρ xs, sq_μ xs, [(0, .retAddr 0), (1, .int 0), (2, .retAddr 2), (3, .retAddr 3)], [(1, .retAddr 0, .int 15, .int 14)], fun j hj => (match j, hj with
    | 0, _ => rfl
    | 1, _ => hl1.symm
    | 2, _ => rfl
    | 3, _ => rfl
    | j + 4, hj => absurd hj (by omega)), List.forall_mem_cons.mpr ⟨Or.inl ⟨rfl, xs 0, 15, rfl, rfl, congrArg Value.int h0.symm⟩, fun _ h => absurd h List.not_mem_nil⟩, sq_c_count_0⟩
theorem sq_q_count_1 (xs : Nat → Int32) (h0 : xs 0 &&& 15 = 14) (hl1 : xs 1 = 1) : sq_Q 4 xs := ⟨sq_ρ xs, sq_μ xs, [(0, .retAddr 0), (1, .int 1), (2, .retAddr 2), (3, .retAddr 3)], [(1, .retAddr 0, .int 15, .int 14)], fun j hj => (match j, hj with
    | 0, _ => rfl
    | 1, _ => hl1.symm
    | 2, _ => rfl
    | 3, _ => rfl
    | j + 4, hj => absurd hj (by omega)), List.forall_mem_cons.mpr ⟨Or.inl ⟨rfl, xs 0, 15, rfl, rfl, congrArg Value.int h0.symm⟩, fun _ h => absurd h List.not_mem_nil⟩, sq_c_count_1⟩
theorem sq_q_count_2 (xs : Nat → Int32) (h0 : xs 0 &&& 15 = 14) (hl1 : xs 1 = 2) : sq_Q 4 xs := ⟨sq_ρ xs, sq_μ xs, [(0, .retAddr 0), (1, .int 2), (2, .retAddr 2), (3, .retAddr 3)], [(1, .retAddr 0, .int 15, .int 14)], fun j hj => (match j, hj with
    | 0, _ => rfl
    | 1, _ => hl1.symm
    | 2, _ => rfl
    | 3, _ => rfl
    | j + 4, hj => absurd hj (by omega)), List.forall_mem_cons.mpr ⟨Or.inl ⟨rfl, xs 0, 15, rfl, rfl, congrArg Value.int h0.symm⟩, fun _ h => absurd h List.not_mem_nil⟩, sq_c_count_2⟩
theorem sq_q_count_3 (xs : Nat → Int32) (h0 : xs 0 &&& 15 = 14) (hl1 : xs 1 = 3) : sq_Q 4 xs := ⟨sq_ρ xs, sq_μ xs, [(0, .retAddr 0), (1, .int 3), (2, .retAddr 2), (3, .retAddr 3)], [(1, .retAddr 0, .int 15, .int 14)], fun j hj => (match j, hj with
    | 0, _ => rfl
    | 1, _ => hl1.symm
    | 2, _ => rfl
    | 3, _ => rfl
    | j + 4, hj => absurd hj (by omega)), List.forall_mem_cons.mpr ⟨Or.inl ⟨rfl, xs 0, 15, rfl, rfl, congrArg Value.int h0.symm⟩, fun _ h => absurd h List.not_mem_nil⟩, sq_c_count_3⟩
theorem sq_q_count_4 (xs : Nat → Int32) (h0 : xs 0 &&& 15 = 14) (hl1 : xs 1 = 4) : sq_Q 4 xs := ⟨sq_ρ xs, sq_μ xs, [(0, .retAddr 0), (1, .int 4), (2, .retAddr 2), (3, .retAddr 3)], [(1, .retAddr 0, .int 15, .int 14)], fun j hj => (match j, hj with
    | 0, _ => rfl
    | 1, _ => hl1.symm
    | 2, _ => rfl
    | 3, _ => rfl
    | j + 4, hj => absurd hj (by omega)), List.forall_mem_cons.mpr ⟨Or.inl ⟨rfl, xs 0, 15, rfl, rfl, congrArg Value.int h0.symm⟩, fun _ h => absurd h List.not_mem_nil⟩, sq_c_count_4⟩
theorem sq_q_count_5 (xs : Nat → Int32) (h0 : xs 0 &&& 15 = 14) (hl1 : xs 1 = 5) : sq_Q 4 xs := ⟨sq_ρ xs, sq_μ xs, [(0, .retAddr 0), (1, .int 5), (2, .retAddr 2), (3, .retAddr 3)], [(1, .retAddr 0, .int 15, .int 14)], fun j hj => (match j, hj with
    | 0, _ => rfl
    | 1, _ => hl1.symm
    | 2, _ => rfl
    | 3, _ => rfl
    | j + 4, hj => absurd hj (by omega)), List.forall_mem_cons.mpr ⟨Or.inl ⟨rfl, xs 0, 15, rfl, rfl, congrArg Value.int h0.symm⟩, fun _ h => absurd h List.not_mem_nil⟩, sq_c_count_5⟩
theorem sq_q_count_6 (xs : Nat → Int32) (h0 : xs 0 &&& 15 = 14) (hl1 : xs 1 = 6) : sq_Q 4 xs := ⟨sq_ρ xs, sq_μ xs, [(0, .retAddr 0), (1, .int 6), (2, .retAddr 2), (3, .retAddr 3)], [(1, .retAddr 0, .int 15, .int 14)], fun j hj => (match j, hj with
    | 0, _ => rfl
    | 1, _ => hl1.symm
    | 2, _ => rfl
    | 3, _ => rfl
    | j + 4, hj => absurd hj (by omega)), List.forall_mem_cons.mpr ⟨Or.inl ⟨rfl, xs 0, 15, rfl, rfl, congrArg Value.int h0.symm⟩, fun _ h => absurd h List.not_mem_nil⟩, sq_c_count_6⟩
theorem sq_q_none (xs : Nat → Int32) (h0 : xs 0 &&& 15 = 15)  : sq_Q 4 xs := ⟨sq_ρ xs, sq_μ xs, [(0, .retAddr 0), (1, .retAddr 1), (2, .retAddr 2), (3, .retAddr 3)], [(1, .retAddr 0, .int 15, .int 15)], fun j hj => (match j, hj with
    | 0, _ => rfl
    | 1, _ => rfl
    | 2, _ => rfl
    | 3, _ => rfl
    | j + 4, hj => absurd hj (by omega)), List.forall_mem_cons.mpr ⟨Or.inl ⟨rfl, xs 0, 15, rfl, rfl, congrArg Value.int h0.symm⟩, fun _ h => absurd h List.not_mem_nil⟩, sq_c_none⟩
theorem sq_lit {x y : Int32} {k : Int} (hy : y.toInt = k) (hx : x.toInt = k) : x = y := Int32.toInt_inj.mp (hx.trans hy.symm)
theorem sq_all (L : Nat) (hL : L ≤ 4) (xs : Nat → Int32) : sq_Q L xs := by
  rcases (show L = 0 ∨ L = 1 ∨ L = 2 ∨ L = 3 ∨ L = 4 by omega) with rfl | rfl | rfl | rfl | rfl
  · exact sq_q_n0 xs
  · exact sq_q_n1 xs
  · exact sq_q_n2 xs
  · exact sq_q_n3 xs
  obtain ⟨j, hj, h0⟩ := pk_andE (xs 0) (m := 15) 4 (by decide)
  have hj : j < 16 := hj
  rcases (show j = 0 ∨ j = 1 ∨ j = 2 ∨ j = 3 ∨ j = 4 ∨ j = 5 ∨ j = 6 ∨ j = 7 ∨ j = 8 ∨ j = 9 ∨ j = 10 ∨ j = 11 ∨ j = 12 ∨ j = 13 ∨ j = 14 ∨ j = 15 by omega) with rfl | rfl | rfl | rfl | rfl | rfl | rfl | rfl | rfl | rfl | rfl | rfl | rfl | rfl | rfl | rfl
  · rcases (show (xs 1).toInt < 0 ∨ (xs 1).toInt = 0 ∨ (xs 1).toInt = 1 ∨ 1 < (xs 1).toInt by omega) with h | h | h | h
    · exact sq_q_type_neg xs h0 h
    · have hb := sq_lit (y := 0) rfl h
      rcases (show ((sm_chr (xs 2)).toInt < 32 ∧ (sm_chr (xs 2)).toInt ≠ 10) ∨ (sm_chr (xs 2)).toInt = 10 ∨ (32 ≤ (sm_chr (xs 2)).toInt ∧ (sm_chr (xs 2)).toInt ≤ 126) ∨ 126 < (sm_chr (xs 2)).toInt by omega) with hc | hc | hc | hc
      · exact sq_q_type0_low xs h0 hb hc
      · exact sq_q_type0_nl xs h0 hb hc
      · exact sq_q_type0_in xs h0 hb hc
      · exact sq_q_type0_high xs h0 hb hc
    · have hb := sq_lit (y := 1) rfl h
      rcases (show ((sm_chr (xs 2)).toInt < 32 ∧ (sm_chr (xs 2)).toInt ≠ 10) ∨ (sm_chr (xs 2)).toInt = 10 ∨ (32 ≤ (sm_chr (xs 2)).toInt ∧ (sm_chr (xs 2)).toInt ≤ 126) ∨ 126 < (sm_chr (xs 2)).toInt by omega) with hc | hc | hc | hc
      · exact sq_q_type1_low xs h0 hb hc
      · exact sq_q_type1_nl xs h0 hb hc
      · exact sq_q_type1_in xs h0 hb hc
      · exact sq_q_type1_high xs h0 hb hc
    · exact sq_q_type_big xs h0 h
  · rcases (show (xs 1).toInt < 0 ∨ (xs 1).toInt = 0 ∨ (xs 1).toInt = 1 ∨ 1 < (xs 1).toInt by omega) with h | h | h | h
    · exact sq_q_clear_neg xs h0 h
    · exact sq_q_clear_0 xs h0 (sq_lit rfl h)
    · exact sq_q_clear_1 xs h0 (sq_lit rfl h)
    · exact sq_q_clear_big xs h0 h
  · rcases (show (xs 1).toInt < 0 ∨ (xs 1).toInt = 0 ∨ (xs 1).toInt = 1 ∨ (xs 1).toInt = 2 ∨ 2 < (xs 1).toInt by omega) with h | h | h | h | h
    · exact sq_q_sample_neg xs h0 h
    · exact sq_q_sample_0 xs h0 (sq_lit rfl h)
    · exact sq_q_sample_1 xs h0 (sq_lit rfl h)
    · exact sq_q_sample_2 xs h0 (sq_lit rfl h)
    · exact sq_q_sample_big xs h0 h
  · exact sq_q_compile xs h0
  · exact sq_q_rule xs h0
  · exact sq_q_parse xs h0
  · rcases (show (xs 3).toInt < 0 ∨ (0 ≤ (xs 3).toInt ∧ (xs 3).toInt ≤ 20) ∨ 20 < (xs 3).toInt by omega) with h | h | h
    · exact sq_q_grow_neg xs h0 h
    · exact sq_q_grow_in xs h0 h
    · exact sq_q_grow_big xs h0 h
  · rcases (show (xs 1).toInt < 0 ∨ 0 ≤ (xs 1).toInt by omega) with h | h
    · exact sq_q_node_neg xs h0 h
    · exact sq_q_node_pos xs h0 h
  · rcases (show (xs 1).toInt < 0 ∨ 0 ≤ (xs 1).toInt by omega) with h | h
    · exact sq_q_set_neg xs h0 h
    · exact sq_q_set_pos xs h0 h
  · exact sq_q_print xs h0
  · rcases (show (xs 1).toInt < 0 ∨ 0 ≤ (xs 1).toInt by omega) with h | h
    · exact sq_q_output_neg xs h0 h
    · exact sq_q_output_pos xs h0 h
  · exact sq_q_carry xs h0
  · exact sq_q_keep xs h0
  · exact sq_q_compare xs h0
  · rcases (show (xs 1).toInt < 0 ∨ (xs 1).toInt = 0 ∨ (xs 1).toInt = 1 ∨ (xs 1).toInt = 2 ∨ (xs 1).toInt = 3 ∨ (xs 1).toInt = 4 ∨ (xs 1).toInt = 5 ∨ (xs 1).toInt = 6 ∨ 6 < (xs 1).toInt by omega) with h | h | h | h | h | h | h | h | h
    · exact sq_q_count_neg xs h0 h
    · exact sq_q_count_0 xs h0 (sq_lit rfl h)
    · exact sq_q_count_1 xs h0 (sq_lit rfl h)
    · exact sq_q_count_2 xs h0 (sq_lit rfl h)
    · exact sq_q_count_3 xs h0 (sq_lit rfl h)
    · exact sq_q_count_4 xs h0 (sq_lit rfl h)
    · exact sq_q_count_5 xs h0 (sq_lit rfl h)
    · exact sq_q_count_6 xs h0 (sq_lit rfl h)
    · exact sq_q_count_big xs h0 h
  · exact sq_q_none xs h0
