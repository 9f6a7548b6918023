/-! THE START, joined -/
section SQS
variable {args : Array Value} {s : State}
theorem sm_exD {N0 : Nat} {x : MethodName} (h : (Cond.declares x).before args s = true) : ∀ (v : Array Value) (U : State), s.WarmedH U.vm → (∀ q, q < N0 → U.heap[q]? = s.heap[q]?) → (Cond.declares x).before v U = true := fun v U hW _ => va_Nw.use rfl (va_Nw.warmD hW (va_Nw.of rfl h))
theorem sm_exC {N0 : Nat} {a b : String} (h : (Cond.castable a b).before args s = true) : ∀ (v : Array Value) (U : State), s.WarmedH U.vm → (∀ q, q < N0 → U.heap[q]? = s.heap[q]?) → (Cond.castable a b).before v U = true := fun v U hW _ => va_tabs rfl (rfl : (s.setVm U.vm).vm = U.vm) (Cond.faceAtom_setVm hW.alike _ rfl h)
theorem sm_exL {N0 : Nat} {C n d : String} (hN : s.heap.size ≤ N0) (h : (Cond.laysStatic C n d).before args s = true) : ∀ (v : Array Value) (U : State), s.WarmedH U.vm → (∀ q, q < N0 → U.heap[q]? = s.heap[q]?) → (Cond.laysStatic C n d).before v U = true := fun v U hW hF => by
  obtain ⟨c, k, i, f, a, cell, h1, h2, h3, h4, h5, h6, h7, h8, h9⟩ := Cond.laysStatic_spec h
  obtain ⟨k', h2', he⟩ := State.fieldFound?_setVm hW.alike h2
  have hl : a < s.heap.size := (Array.getElem?_eq_some_iff.mp h5).1
  have h5' : U.heap[a]? = some cell := by rw [hF a (Nat.lt_of_lt_of_le hl hN)]; exact h5
  have h1' : U.vm.findClass C = some c := by rw [hW.alike.findClass]; exact h1
  have hi : U.fieldFound? C n d = some (c, k', i, f) := h2'
  have hs : k'.statics = some a := by rw [he]; exact h4
  have ht : k'.staticTypes[f.slot]? = some f.type := by rw [he]; exact h9
  simp [Cond.before, Cond.holds, Cond.value, h1', hi, h3, hs, h5', h6, h7, h8, ht]
theorem sm_exR {N0 : Nat} {C n d : String} (hN : s.heap.size ≤ N0) (hl : (Cond.laysStatic C n d).before args s = true) (hini : (Cond.initialized C).before args s = true) (h : (Cond.isRef (.static C n d)).before args s = true) : ∀ (v : Array Value) (U : State), s.WarmedH U.vm → (∀ q, q < N0 → U.heap[q]? = s.heap[q]?) → (Cond.isRef (.static C n d)).before v U = true := fun v U hW hF => by
  have hZ := va_Zqof (A := fun a => N0 ≤ a) hl hini h (fun a ha => by omega)
  have hZ2 : va_Zq C n d (fun a => N0 ≤ a) U U.heap := va_Zq.moved hW.alike (va_Zq.kept hZ (fun a _ h2 => hF a (Nat.not_le.mp h2)))
  rcases hZ2 with ⟨cf, kf, fi, f, a, cell, q1, q2, q3, q4, q5, q6, q7, -⟩ | ⟨t, cf, kf, fi, f, a, cell, q1, q2, q3, q4, q5, q6, q7, -⟩
  · have he : (Term.static C n d).eval v U none [] U = some .null := by simp [Term.eval, State.fieldNamed?, q1, q2, q4, q5, q6, q7]
    simp [Cond.before, Cond.holds, Cond.value, he]
  · have he : (Term.static C n d).eval v U none [] U = some (.ref t) := by simp [Term.eval, State.fieldNamed?, q1, q2, q4, q5, q6, q7]
    simp [Cond.before, Cond.holds, Cond.value, he]
theorem sm_ncast {a b : String} {c t : ClassId} (h : (Cond.not (.castable a b)).before args s = true) (ha : s.vm.findClass a = some c) (hb : s.vm.findClass b = some t) : s.vm.assignable c t = false := by
  simp only [Cond.before, Cond.holds, Cond.value, ha, hb] at h
  simpa using h
theorem sq_D (hts : ∀ w ∈ sc_Ts, w.before args s = true) : ∃ D : va_G, ∀ (k : Nat) (q : vw_C), sc_cl[k]? = some q → u_Kn s q.1 q.2.1 q.2.2 (D.1 k) (D.2 k) := by
  have key : ∀ k : Nat, ∃ (c : ClassId) (i : Nat → Nat), ∀ q : vw_C, sc_cl[k]? = some q → u_Kn s q.1 q.2.1 q.2.2 c i := by
    intro k
    match k with
    | 0 =>
      obtain ⟨c, i, h⟩ := u_known (C := "TwoWayGrammar") (T := sc_T0) (N := 16) (n := 16) hts sc_in0 (hts _ (sm_memf 128 rfl rfl))
      exact ⟨c, i, fun q hq => by cases hq; exact h⟩
    | 1 =>
      obtain ⟨c, i, h⟩ := u_known (C := "TwoWayGrammar$Text") (T := sc_T1) (N := 2) (n := 2) hts sc_in1 (hts _ (sm_memf 136 rfl rfl))
      exact ⟨c, i, fun q hq => by cases hq; exact h⟩
    | 2 =>
      obtain ⟨c, i, h⟩ := u_known (C := "TwoWayGrammar$Grammar") (T := sc_T2) (N := 20) (n := 20) hts sc_in2 (hts _ (sm_memf 153 rfl rfl))
      exact ⟨c, i, fun q hq => by cases hq; exact h⟩
    | 3 =>
      obtain ⟨c, i, h⟩ := u_known (C := "TwoWayGrammar$Reader") (T := sc_T3) (N := 4) (n := 4) hts sc_in3 (hts _ (sm_memf 268 rfl rfl))
      exact ⟨c, i, fun q hq => by cases hq; exact h⟩
    | 4 =>
      obtain ⟨c, i, h⟩ := u_known (C := "TwoWayGrammar$Tokens") (T := sc_T4) (N := 5) (n := 5) hts sc_in4 (hts _ (sm_memf 270 rfl rfl))
      exact ⟨c, i, fun q hq => by cases hq; exact h⟩
    | 5 =>
      obtain ⟨c, i, h⟩ := u_known (C := "TwoWayGrammar$Sets") (T := sc_T5) (N := 16) (n := 16) hts sc_in5 (hts _ (sm_memf 312 rfl rfl))
      exact ⟨c, i, fun q hq => by cases hq; exact h⟩
    | 6 =>
      obtain ⟨c, i, h⟩ := u_known (C := "TwoWayGrammar$Checks") (T := sc_T6) (N := 3) (n := 3) hts sc_in6 (hts _ (sm_memf 380 rfl rfl))
      exact ⟨c, i, fun q hq => by cases hq; exact h⟩
    | 7 =>
      obtain ⟨c, i, h⟩ := u_known (C := "TwoWayGrammar$Tree") (T := sc_T7) (N := 4) (n := 4) hts sc_in7 (hts _ (sm_memf 396 rfl rfl))
      exact ⟨c, i, fun q hq => by cases hq; exact h⟩
    | 8 =>
      obtain ⟨c, i, h⟩ := u_known (C := "TwoWayGrammar$Parsing") (T := sc_T8) (N := 12) (n := 12) hts sc_in8 (hts _ (sm_memf 423 rfl rfl))
      exact ⟨c, i, fun q hq => by cases hq; exact h⟩
    | 9 =>
      obtain ⟨c, i, h⟩ := u_known (C := "TwoWayGrammar$Growing") (T := sc_T9) (N := 8) (n := 8) hts sc_in9 (hts _ (sm_memf 496 rfl rfl))
      exact ⟨c, i, fun q hq => by cases hq; exact h⟩
    | 10 =>
      obtain ⟨c, i, h⟩ := u_known (C := "TwoWayGrammar$Printing") (T := sc_T10) (N := 13) (n := 13) hts sc_in10 (hts _ (sm_memf 515 rfl rfl))
      exact ⟨c, i, fun q hq => by cases hq; exact h⟩
    | 11 =>
      obtain ⟨c, i, h⟩ := u_known (C := "TwoWayGrammarModel") (T := sc_T11) (N := 96) (n := 96) hts sc_in11 (hts _ (sm_memf 1550 rfl rfl))
      exact ⟨c, i, fun q hq => by cases hq; exact h⟩
    | 12 =>
      obtain ⟨c, i, h⟩ := u_known (C := "java/lang/IndexOutOfBoundsException") (T := sc_T12) (N := 0) (n := 6) hts sc_in12 (hts _ (sm_memf 1017 rfl rfl))
      exact ⟨c, i, fun q hq => by cases hq; exact h⟩
    | 13 =>
      obtain ⟨c, i, h⟩ := u_known (C := "java/lang/IllegalArgumentException") (T := sc_T13) (N := 0) (n := 6) hts sc_in13 (hts _ (sm_memf 1107 rfl rfl))
      exact ⟨c, i, fun q hq => by cases hq; exact h⟩
    | 14 =>
      obtain ⟨c, i, h⟩ := u_known (C := "java/lang/IllegalStateException") (T := sc_T14) (N := 0) (n := 6) hts sc_in14 (hts _ (sm_memf 1138 rfl rfl))
      exact ⟨c, i, fun q hq => by cases hq; exact h⟩
    | 15 =>
      obtain ⟨c, i, h⟩ := u_known (C := "java/lang/UnsupportedOperationException") (T := sc_T15) (N := 0) (n := 6) hts sc_in15 (hts _ (sm_memf 1438 rfl rfl))
      exact ⟨c, i, fun q hq => by cases hq; exact h⟩
    | 16 =>
      obtain ⟨c, i, h⟩ := u_known (C := "java/util/NoSuchElementException") (T := sc_T16) (N := 0) (n := 6) hts sc_in16 (hts _ (sm_memf 1477 rfl rfl))
      exact ⟨c, i, fun q hq => by cases hq; exact h⟩
    | n + 17 => exact ⟨0, fun _ => 0, fun q hq => by
        have := (List.getElem?_eq_some_iff.mp hq).1
        have h2 : sc_cl.length = 17 := rfl
        omega⟩
  exact ⟨(fun k => Classical.choose (key k), fun k => Classical.choose (Classical.choose_spec (key k))), fun k q hq => Classical.choose_spec (Classical.choose_spec (key k)) q hq⟩
theorem sq_arr {ty : FieldType} (h : (Cond.arrayClass ty).before args s = true) : ∃ c, s.vm.findClass ("[" ++ ty.toString) = some c ∧ ArrOfT s c ty := by
  obtain ⟨c, k, comp, h1, h2, h3⟩ := Cond.arrayClass_spec h
  exact ⟨c, h1, fun n z => ⟨fun k hk => (by cases hk), k, h2, comp, h3⟩⟩
theorem sq_tys (hts : ∀ w ∈ sc_Ts, w.before args s = true) : ∃ tys : List (ClassId × FieldType), sm_T tys ∧ ∀ (k : Nat) (q : ClassId × FieldType), tys[k]? = some q → ArrOfT s q.1 q.2 ∧ va_RA s q.1 q.2 := by
  obtain ⟨c0, a0, b0⟩ := sq_arr (ty := .int) (hts _ (sm_memf 266 rfl rfl))
  obtain ⟨c1, a1, b1⟩ := sq_arr (ty := .long) (hts _ (sm_memf 378 rfl rfl))
  obtain ⟨c2, a2, b2⟩ := sq_arr (ty := .char) (hts _ (sm_memf 151 rfl rfl))
  obtain ⟨c3, a3, b3⟩ := sq_arr (ty := .boolean) (hts _ (sm_memf 1844 rfl rfl))
  obtain ⟨c4, a4, b4⟩ := sq_arr (ty := .byte) (hts _ (sm_memf 975 rfl rfl))
  refine ⟨[(c0, .int), (c1, .long), (c2, .char), (c3, .boolean), (c4, .byte)], fun t ty ht => ?_, fun k q hk => ?_⟩
  · unfold sm_ty at ht
    split at ht <;> first | (cases ht; exact ⟨_, rfl⟩) | cases ht
  · match k, hk with
    | 0, hk => cases hk; exact ⟨b0, a0⟩
    | 1, hk => cases hk; exact ⟨b1, a1⟩
    | 2, hk => cases hk; exact ⟨b2, a2⟩
    | 3, hk => cases hk; exact ⟨b3, a3⟩
    | 4, hk => cases hk; exact ⟨b4, a4⟩
    | k + 5, hk => simp at hk
/-- where the old cells lie -/
def sq_cs (b : Nat) (adK adV : Nat → Nat) (k : Nat) : Nat := if k = 0 then b else if k < 26 then adK (k - 1) else adV (k - 26)
theorem sq_vS (hfl : ∀ w ∈ sq_flat, w.before args s = true) : ∃ adK adV : Nat → Nat, vk_S 25 sq_len sq_byt adK adV (fun a => s.heap.size ≤ a) s s.heap ∧ ∀ i : Nat, i < 25 → (sq_tm i).eval args s none [] s = some (.ref (adK i)) := by
  refine vk_Sof (tm := sq_tm) (by decide +kernel) (fun i hi => hfl _ (sq_wsMem hi _ (by simp [sq_ws]))) (fun i hi => hfl _ (sq_wsMem hi _ (by simp [sq_ws]))) (fun i hi => hfl _ (sq_wsMem hi _ (by simp [sq_ws]))) (fun i hi => hfl _ (sq_wsMem hi _ (by simp [sq_ws]))) (fun i hi j hj => hfl _ (sq_wsMem hi _ ?_)) (fun i j hi hj hij => ?_) (fun a ha => by omega)
  · exact List.mem_append.mpr (Or.inr (List.mem_append.mpr (Or.inl (List.mem_map.mpr ⟨j, List.mem_range.mpr hj, rfl⟩))))
  · rcases Nat.lt_or_ge i j with h | h
    · exact Or.inl (hfl _ (sq_wsMem hj _ (List.mem_append.mpr (Or.inr (List.mem_append.mpr (Or.inr (List.mem_map.mpr ⟨i, List.mem_range.mpr h, rfl⟩)))))))
    · exact Or.inr (hfl _ (sq_wsMem hi _ (List.mem_append.mpr (Or.inr (List.mem_append.mpr (Or.inr (List.mem_map.mpr ⟨j, List.mem_range.mpr (by omega), rfl⟩)))))))
theorem sq_OA {ρ : Nat → Int32} {μ : UInt64 → Int64} {b L : Nat} {xs : Nat → Int32} {l : List (Nat × Value)} {adK adV : Nat → Nat} (hX : va_X b L xs s s.heap) (hl : ∀ j, j < L → sa_fi ρ μ l j = xs j) (hS : vk_S 25 sq_len sq_byt adK adV (fun a => s.heap.size ≤ a) s s.heap) : sm_OA sc_cl (sa_gh ρ μ (sq_K L l)) s.heap.size (sq_cs b adK adV) s := by
  intro k hk
  have hk : k < 51 := hk
  rcases (show k = 0 ∨ (∃ i, i < 25 ∧ k = 1 + i) ∨ ∃ i, i < 25 ∧ k = 26 + i by
    rcases Nat.lt_or_ge k 1 with z | z
    · exact Or.inl (by omega)
    · rcases Nat.lt_or_ge k 26 with y | y
      · exact Or.inr (Or.inl ⟨k - 1, by omega, by omega⟩)
      · exact Or.inr (Or.inr ⟨k - 26, by omega, by omega⟩)) with rfl | ⟨i, hi, rfl⟩ | ⟨i, hi, rfl⟩
  · obtain ⟨scr, h1, h2, h3, h4, h5⟩ := hX
    have e0 : sq_cs b adK adV 0 = b := rfl
    have eK : (sa_gh ρ μ (sq_K L l))[0]? = some (.inl (0, L, .inl (sa_fi ρ μ l))) := by simp [sq_K, sa_ge]
    rw [e0, eK]
    refine ⟨(Array.getElem?_eq_some_iff.mp h1).1, fun t n f he => ?_, fun ci fs he => by cases he⟩
    cases he
    exact ⟨.int, scr, _, rfl, rfl, h1, h2, h3, ⟨Nat.le_of_eq h4.symm, by rw [h4]⟩, fun j hj => by rw [hl j hj]; exact h5 j hj⟩
  · obtain ⟨⟨cell, h1, h2, h3, -⟩, -⟩ := hS.1 i hi
    have e0 : sq_cs b adK adV (1 + i) = adK i := by unfold sq_cs; rw [if_neg (by omega), if_pos (by omega), Nat.add_sub_cancel_left]
    have eK : (sa_gh ρ μ (sq_K L l))[1 + i]? = some (.inr (17, [.ref (26 + i), .int 0])) := by rw [List.getElem?_map, sq_K1 hi]; rfl
    rw [e0, eK]
    refine ⟨(Array.getElem?_eq_some_iff.mp h1).1, fun t n f he => (by cases he), fun ci fs he => ?_⟩
    cases he
    exact ⟨"java/lang/String", cell, rfl, h1, h2, h3⟩
  · obtain ⟨-, -, -, cell, h1, h2, h3, h4, h5, h6, -⟩ := hS.1 i hi
    have e0 : sq_cs b adK adV (26 + i) = adV i := by unfold sq_cs; rw [if_neg (by omega), if_neg (by omega), Nat.add_sub_cancel_left]
    have hlen : sq_len.getD i 0 = (sq_byt.getD i []).length := (show ∀ i, i < 25 → sq_len.getD i 0 = (sq_byt.getD i []).length by decide +kernel) i hi
    obtain ⟨bs, hbs⟩ : ∃ bs, sq_byt[i]? = some bs := ⟨_, List.getElem?_eq_getElem (show i < sq_byt.length from hi)⟩
    have hbs2 : sq_byt.getD i [] = bs := by rw [List.getD_eq_getElem?_getD, hbs]; rfl
    rw [hbs2] at hlen h6
    have eK : (sa_gh ρ μ (sq_K L l))[26 + i]? = some (.inl (4, bs.length, .inl (sa_fi ρ μ (bs.zipIdx.map (fun z => (z.2, Value.int z.1)))))) := by rw [List.getElem?_map, sq_K2, sq_B, List.getElem?_map, hbs]; simp [sa_ge]
    rw [e0, eK]
    refine ⟨(Array.getElem?_eq_some_iff.mp h1).1, fun t n f he => ?_, fun ci fs he => by cases he⟩
    cases he
    rw [hlen] at h4 h5 h6
    refine ⟨.byte, cell, _, rfl, rfl, h1, h2, h3, ⟨h4, h5⟩, fun j hj => ?_⟩
    rw [h6 j hj]
    have := sq_look bs j 0 hj
    rw [Nat.zero_add] at this
    simp [sa_fi, this, sa_g, sa_i]
theorem sq_sx {b : Nat} {adK adV : Nat → Nat} (htb : ∀ w ∈ lw_tbl, w.before args s = true) (hev : ∀ i : Nat, i < 25 → (sq_tm i).eval args s none [] s = some (.ref (adK i))) : ∀ q ∈ sc_sx, vk_R q.1 q.2.1 q.2.2.1 (sm_ad s.heap.size (sq_cs b adK adV) q.2.2.2) s := by
  have had : ∀ i, i < 25 → sm_ad s.heap.size (sq_cs b adK adV) (i + 1) = adK i := fun i hi => by
    rw [sm_ad_lt (show i + 1 < 51 by omega)]
    unfold sq_cs
    rw [if_neg (by omega), if_pos (by omega), Nat.add_sub_cancel]
  have hv : ∀ (i : Nat) (w : Cond) (own tx : String) (k : Nat), i < 25 → w = .stringRef own k tx → sq_tm i = .string own k → w ∈ lw_tbl → vk_R own k tx (sm_ad s.heap.size (sq_cs b adK adV) (i + 1)) s := fun i w own tx k hi e1 e2 e3 => by
    rw [had i hi]
    subst e1
    exact vk_R.of (htb _ e3) (by rw [← e2]; exact hev i hi)
  exact List.forall_mem_cons.mpr ⟨hv 0 _ _ _ _ (by decide) rfl rfl (sq_tb 653 (by decide +kernel)), List.forall_mem_cons.mpr ⟨hv 1 _ _ _ _ (by decide) rfl rfl (sq_tb 706 (by decide +kernel)), List.forall_mem_cons.mpr ⟨hv 2 _ _ _ _ (by decide) rfl rfl (sq_tb 707 (by decide +kernel)), List.forall_mem_cons.mpr ⟨hv 3 _ _ _ _ (by decide) rfl rfl (sq_tb 708 (by decide +kernel)), List.forall_mem_cons.mpr ⟨hv 4 _ _ _ _ (by decide) rfl rfl (sq_tb 709 (by decide +kernel)), List.forall_mem_cons.mpr ⟨hv 5 _ _ _ _ (by decide) rfl rfl (sq_tb 710 (by decide +kernel)), List.forall_mem_cons.mpr ⟨hv 6 _ _ _ _ (by decide) rfl rfl (sq_tb 711 (by decide +kernel)), List.forall_mem_cons.mpr ⟨hv 7 _ _ _ _ (by decide) rfl rfl (sq_tb 738 (by decide +kernel)), List.forall_mem_cons.mpr ⟨hv 8 _ _ _ _ (by decide) rfl rfl (sq_tb 1059 (by decide +kernel)), List.forall_mem_cons.mpr ⟨hv 9 _ _ _ _ (by decide) rfl rfl (sq_tb 1115 (by decide +kernel)), List.forall_mem_cons.mpr ⟨hv 10 _ _ _ _ (by decide) rfl rfl (sq_tb 1122 (by decide +kernel)), List.forall_mem_cons.mpr ⟨hv 11 _ _ _ _ (by decide) rfl rfl (sq_tb 1123 (by decide +kernel)), List.forall_mem_cons.mpr ⟨hv 12 _ _ _ _ (by decide) rfl rfl (sq_tb 1124 (by decide +kernel)), List.forall_mem_cons.mpr ⟨hv 13 _ _ _ _ (by decide) rfl rfl (sq_tb 1146 (by decide +kernel)), List.forall_mem_cons.mpr ⟨hv 14 _ _ _ _ (by decide) rfl rfl (sq_tb 1153 (by decide +kernel)), List.forall_mem_cons.mpr ⟨hv 15 _ _ _ _ (by decide) rfl rfl (sq_tb 1162 (by decide +kernel)), List.forall_mem_cons.mpr ⟨hv 16 _ _ _ _ (by decide) rfl rfl (sq_tb 1171 (by decide +kernel)), List.forall_mem_cons.mpr ⟨hv 17 _ _ _ _ (by decide) rfl rfl (sq_tb 1446 (by decide +kernel)), List.forall_mem_cons.mpr ⟨hv 18 _ _ _ _ (by decide) rfl rfl (sq_tb 1460 (by decide +kernel)), List.forall_mem_cons.mpr ⟨hv 19 _ _ _ _ (by decide) rfl rfl (sq_tb 1485 (by decide +kernel)), List.forall_mem_cons.mpr ⟨hv 20 _ _ _ _ (by decide) rfl rfl (sq_tb 1496 (by decide +kernel)), List.forall_mem_cons.mpr ⟨hv 21 _ _ _ _ (by decide) rfl rfl (sq_tb 1520 (by decide +kernel)), List.forall_mem_cons.mpr ⟨hv 22 _ _ _ _ (by decide) rfl rfl (sq_tb 1524 (by decide +kernel)), List.forall_mem_cons.mpr ⟨hv 23 _ _ _ _ (by decide) rfl rfl (sq_tb 1532 (by decide +kernel)), List.forall_mem_cons.mpr ⟨hv 24 _ _ _ _ (by decide) rfl rfl (sq_tb 1541 (by decide +kernel)), fun _ h => absurd h List.not_mem_nil⟩⟩⟩⟩⟩⟩⟩⟩⟩⟩⟩⟩⟩⟩⟩⟩⟩⟩⟩⟩⟩⟩⟩⟩⟩
def sq_nxi : List Nat := [154, 397, 614, 633, 641, 652, 724, 725, 728, 731, 808, 861, 874, 879, 880, 892, 905, 957, 970, 1002, 1003, 1196, 1205, 1206, 1218, 1264, 1275, 1285, 1286, 1294, 1383]
theorem sq_nx (htb : ∀ w ∈ lw_tbl, w.before args s = true) : ∀ q ∈ sc_nx, va_Nw (.methodLinkNest q.1 q.2.1 q.2.2.1 q.2.2.2) s := by
  have h : ((sc_nx.zip sq_nxi).all (fun p => lw_tbl[p.2]?.any (fun v => decide (v = Cond.methodLinkNest p.1.1 p.1.2.1 p.1.2.2.1 p.1.2.2.2)))) = true := by decide +kernel
  intro q hq
  obtain ⟨k, hk⟩ := List.getElem?_of_mem hq
  have hkl : k < sq_nxi.length := by
    have := (List.getElem?_eq_some_iff.mp hk).1
    exact this
  have hz : (sc_nx.zip sq_nxi)[k]? = some (q, sq_nxi[k]) := by
    rw [List.getElem?_zip_eq_some]
    exact ⟨hk, List.getElem?_eq_getElem hkl⟩
  exact va_Nw.of rfl (htb _ (sq_tb _ (List.all_eq_true.mp h _ (List.mem_of_getElem? hz))))
def sq_dxi : List Nat := [1174, 1179, 1266, 1321, 1328]
theorem sq_dx (htb : ∀ w ∈ lw_tbl, w.before args s = true) : ∀ x ∈ sc_dx, va_Nw (.declares x) s := by
  have h : ((sc_dx.zip sq_dxi).all (fun p => lw_tbl[p.2]?.any (fun v => decide (v = Cond.declares p.1)))) = true := by decide +kernel
  intro q hq
  obtain ⟨k, hk⟩ := List.getElem?_of_mem hq
  have hkl : k < sq_dxi.length := by
    have := (List.getElem?_eq_some_iff.mp hk).1
    exact this
  have hz : (sc_dx.zip sq_dxi)[k]? = some (q, sq_dxi[k]) := by
    rw [List.getElem?_zip_eq_some]
    exact ⟨hk, List.getElem?_eq_getElem hkl⟩
  exact va_Nw.of rfl (htb _ (sq_tb _ (List.all_eq_true.mp h _ (List.mem_of_getElem? hz))))
theorem sq_X {ρ : Nat → Int32} {μ : UInt64 → Int64} {b L : Nat} {xs : Nat → Int32} {l : List (Nat × Value)} {adK adV : Nat → Nat} (htb : ∀ w ∈ lw_tbl, w.before args s = true) (hfl : ∀ w ∈ sq_flat, w.before args s = true) (hX : va_X b L xs s s.heap) (hl : ∀ j, j < L → sa_fi ρ μ l j = xs j) (hS : vk_S 25 sq_len sq_byt adK adV (fun a => s.heap.size ≤ a) s s.heap) (hev : ∀ i : Nat, i < 25 → (sq_tm i).eval args s none [] s = some (.ref (adK i))) :
    sm_X sc_cl (sa_gh ρ μ (sq_K L l)) sc_sx sc_zx sc_oc s.heap.size (sq_cs b adK adV) s := by
  refine ⟨sq_sx htb hev, ?_, ?_, sq_nx htb, ⟨?_, sq_dx htb⟩, sq_OA hX hl hS⟩
  · intro q hq
    rw [List.mem_singleton.mp hq]
    exact va_Zof (htb _ (sq_tb 667 (by decide +kernel))) (htb _ (sq_tb 118 (by decide +kernel))) (va_eqi (hfl _ (sq_at 4 (by decide +kernel)))) (fun a ha => Nat.not_le.mpr ha)
  · intro q hq
    obtain ⟨i, hi, hq⟩ := List.mem_flatMap.mp hq
    have hi := List.mem_range.mp hi
    obtain ⟨-, h2, h3, -⟩ := hS.1 i hi
    have e1 : sm_ad s.heap.size (sq_cs b adK adV) (i + 1) = adK i := by
      rw [sm_ad_lt (show i + 1 < 51 by omega)]
      unfold sq_cs
      rw [if_neg (by omega), if_pos (by omega), Nat.add_sub_cancel]
    have e2 : sm_ad s.heap.size (sq_cs b adK adV) (26 + i) = adV i := by
      rw [sm_ad_lt (show 26 + i < 51 by omega)]
      unfold sq_cs
      rw [if_neg (by omega), if_neg (by omega), Nat.add_sub_cancel_left]
    rcases List.mem_cons.mp hq with rfl | hq
    · show va_OF _ _ _ (.ref (sm_ad s.heap.size (sq_cs b adK adV) (26 + i))) (sm_ad s.heap.size (sq_cs b adK adV) (i + 1)) _ s s.heap
      rw [e1, e2]
      exact h3
    · rw [List.mem_singleton.mp hq]
      show va_OF _ _ _ (.int 0) (sm_ad s.heap.size (sq_cs b adK adV) (i + 1)) _ s s.heap
      rw [e1]
      exact h2
  · exact va_Zqof (htb _ (sq_tb 683 (by decide +kernel))) (htb _ (sq_tb 120 (by decide +kernel))) (hfl _ (sq_at 5 (by decide +kernel))) (fun a ha => Nat.not_le.mpr ha)
theorem sq_Ex (htb : ∀ w ∈ lw_tbl, w.before args s = true) (hfl : ∀ w ∈ sq_flat, w.before args s = true) : sm_Ex sc_ex s.heap.size s :=
  List.forall_mem_cons.mpr ⟨sm_exL (Nat.le_refl _) (htb _ (sq_tb 1043 (by decide +kernel))), List.forall_mem_cons.mpr ⟨sm_exL (Nat.le_refl _) (htb _ (sq_tb 1045 (by decide +kernel))), List.forall_mem_cons.mpr ⟨sm_exD (htb _ (sq_tb 1020 (by decide +kernel))), List.forall_mem_cons.mpr ⟨sm_exD (htb _ (sq_tb 1022 (by decide +kernel))), List.forall_mem_cons.mpr ⟨sm_exD (htb _ (sq_tb 1024 (by decide +kernel))), List.forall_mem_cons.mpr ⟨sm_exC (htb _ (sq_tb 1018 (by decide +kernel))), List.forall_mem_cons.mpr ⟨sm_exR (Nat.le_refl _) (htb _ (sq_tb 1043 (by decide +kernel))) (htb _ (sq_tb 113 (by decide +kernel))) (hfl _ (sq_at 9 (by decide +kernel))), List.forall_mem_cons.mpr ⟨sm_exR (Nat.le_refl _) (htb _ (sq_tb 1045 (by decide +kernel))) (htb _ (sq_tb 113 (by decide +kernel))) (hfl _ (sq_at 10 (by decide +kernel))), List.forall_mem_cons.mpr ⟨sm_exC (htb _ (sq_tb 1108 (by decide +kernel))), List.forall_mem_cons.mpr ⟨sm_exC (htb _ (sq_tb 1139 (by decide +kernel))), List.forall_mem_cons.mpr ⟨sm_exC (htb _ (sq_tb 1439 (by decide +kernel))), List.forall_mem_cons.mpr ⟨sm_exC (htb _ (sq_tb 1478 (by decide +kernel))), fun _ h => absurd h List.not_mem_nil⟩⟩⟩⟩⟩⟩⟩⟩⟩⟩⟩⟩
theorem sm_cast {a : String} {c : ClassId} (h : (Cond.castable a a).before args s = true) (ha : s.vm.findClass a = some c) : s.vm.assignable c c = true := by
  obtain ⟨c1, c2, h1, h2, h3⟩ := Cond.castable_spec h
  cases h1.symm.trans ha
  cases h2.symm.trans ha
  exact h3
theorem sq_N {D : va_G} (htb : ∀ w ∈ lw_tbl, w.before args s = true) (hfl : ∀ w ∈ sq_flat, w.before args s = true) (hK : ∀ (k : Nat) (q : vw_C), sc_cl[k]? = some q → u_Kn s q.1 q.2.1 q.2.2 (D.1 k) (D.2 k)) : sm_N D sc_nc s :=
  List.forall_mem_cons.mpr ⟨(sm_cast (a := "java/lang/IndexOutOfBoundsException") (htb _ (sq_tb 1018 (by decide +kernel))) (hK 12 _ rfl).2.1).trans (decide_eq_true rfl).symm, List.forall_mem_cons.mpr ⟨(sm_ncast (a := "java/lang/IndexOutOfBoundsException") (b := "java/lang/IllegalArgumentException") (hfl _ (sq_at 39 (by decide +kernel))) (hK 12 _ rfl).2.1 (hK 13 _ rfl).2.1).trans (decide_eq_false (by decide)).symm, List.forall_mem_cons.mpr ⟨(sm_ncast (a := "java/lang/IndexOutOfBoundsException") (b := "java/lang/IllegalStateException") (hfl _ (sq_at 55 (by decide +kernel))) (hK 12 _ rfl).2.1 (hK 14 _ rfl).2.1).trans (decide_eq_false (by decide)).symm, List.forall_mem_cons.mpr ⟨(sm_ncast (a := "java/lang/IllegalArgumentException") (b := "java/lang/IndexOutOfBoundsException") (hfl _ (sq_at 23 (by decide +kernel))) (hK 13 _ rfl).2.1 (hK 12 _ rfl).2.1).trans (decide_eq_false (by decide)).symm, List.forall_mem_cons.mpr ⟨(sm_cast (a := "java/lang/IllegalArgumentException") (htb _ (sq_tb 1108 (by decide +kernel))) (hK 13 _ rfl).2.1).trans (decide_eq_true rfl).symm, List.forall_mem_cons.mpr ⟨(sm_ncast (a := "java/lang/IllegalArgumentException") (b := "java/lang/IllegalStateException") (hfl _ (sq_at 56 (by decide +kernel))) (hK 13 _ rfl).2.1 (hK 14 _ rfl).2.1).trans (decide_eq_false (by decide)).symm, List.forall_mem_cons.mpr ⟨(sm_ncast (a := "java/lang/IllegalArgumentException") (b := "java/lang/UnsupportedOperationException") (hfl _ (sq_at 72 (by decide +kernel))) (hK 13 _ rfl).2.1 (hK 15 _ rfl).2.1).trans (decide_eq_false (by decide)).symm, List.forall_mem_cons.mpr ⟨(sm_ncast (a := "java/lang/IllegalArgumentException") (b := "java/util/NoSuchElementException") (hfl _ (sq_at 88 (by decide +kernel))) (hK 13 _ rfl).2.1 (hK 16 _ rfl).2.1).trans (decide_eq_false (by decide)).symm, List.forall_mem_cons.mpr ⟨(sm_ncast (a := "java/lang/IllegalStateException") (b := "java/lang/IndexOutOfBoundsException") (hfl _ (sq_at 24 (by decide +kernel))) (hK 14 _ rfl).2.1 (hK 12 _ rfl).2.1).trans (decide_eq_false (by decide)).symm, List.forall_mem_cons.mpr ⟨(sm_ncast (a := "java/lang/IllegalStateException") (b := "java/lang/IllegalArgumentException") (hfl _ (sq_at 40 (by decide +kernel))) (hK 14 _ rfl).2.1 (hK 13 _ rfl).2.1).trans (decide_eq_false (by decide)).symm, List.forall_mem_cons.mpr ⟨(sm_cast (a := "java/lang/IllegalStateException") (htb _ (sq_tb 1139 (by decide +kernel))) (hK 14 _ rfl).2.1).trans (decide_eq_true rfl).symm, List.forall_mem_cons.mpr ⟨(sm_ncast (a := "java/lang/IllegalStateException") (b := "java/lang/UnsupportedOperationException") (hfl _ (sq_at 73 (by decide +kernel))) (hK 14 _ rfl).2.1 (hK 15 _ rfl).2.1).trans (decide_eq_false (by decide)).symm, List.forall_mem_cons.mpr ⟨(sm_ncast (a := "java/lang/UnsupportedOperationException") (b := "java/lang/IllegalArgumentException") (hfl _ (sq_at 41 (by decide +kernel))) (hK 15 _ rfl).2.1 (hK 13 _ rfl).2.1).trans (decide_eq_false (by decide)).symm, List.forall_mem_cons.mpr ⟨(sm_ncast (a := "java/lang/UnsupportedOperationException") (b := "java/lang/IllegalStateException") (hfl _ (sq_at 57 (by decide +kernel))) (hK 15 _ rfl).2.1 (hK 14 _ rfl).2.1).trans (decide_eq_false (by decide)).symm, List.forall_mem_cons.mpr ⟨(sm_cast (a := "java/lang/UnsupportedOperationException") (htb _ (sq_tb 1439 (by decide +kernel))) (hK 15 _ rfl).2.1).trans (decide_eq_true rfl).symm, List.forall_mem_cons.mpr ⟨(sm_ncast (a := "java/util/NoSuchElementException") (b := "java/lang/IllegalArgumentException") (hfl _ (sq_at 42 (by decide +kernel))) (hK 16 _ rfl).2.1 (hK 13 _ rfl).2.1).trans (decide_eq_false (by decide)).symm, List.forall_mem_cons.mpr ⟨(sm_cast (a := "java/util/NoSuchElementException") (htb _ (sq_tb 1478 (by decide +kernel))) (hK 16 _ rfl).2.1).trans (decide_eq_true rfl).symm, fun _ h => absurd h List.not_mem_nil⟩⟩⟩⟩⟩⟩⟩⟩⟩⟩⟩⟩⟩⟩⟩⟩⟩
end SQS
set_option maxRecDepth 20000 in
theorem sk_0 {K : sm_H} (hK : sc_KOk K) : sm_okM sc_Ts sc_sx sc_zx sc_oc K sc_cl sc_Y 0 (1, 0, sb_0) :=
  sm_okM_of (pool := sp_0) (⟨"TwoWayGrammar", "<init>", "()V"⟩, prog_1_method_1_code, none) (by rfl) (sm_memf 131 rfl rfl) (by decide +kernel) ⟨by decide, by decide⟩ (by decide) (Or.inl ⟨rfl, rfl⟩) (by decide +kernel) (sp_ok_0 hK)
set_option maxRecDepth 20000 in
theorem sk_1 {K : sm_H} (hK : sc_KOk K) : sm_okM sc_Ts sc_sx sc_zx sc_oc K sc_cl sc_Y 1 (2, 0, sb_1) :=
  sm_okM_of (pool := sp_1) (⟨"TwoWayGrammar$Text", "<init>", "(I)V"⟩, prog_9_method_1_code, none) (by rfl) (sm_memf 139 rfl rfl) (by decide +kernel) ⟨by decide, by decide⟩ (by decide) (Or.inl ⟨rfl, rfl⟩) (by decide +kernel) (sp_ok_1 hK)
set_option maxRecDepth 20000 in
theorem sk_2 {K : sm_H} (hK : sc_KOk K) : sm_okM sc_Ts sc_sx sc_zx sc_oc K sc_cl sc_Y 2 (1, 0, sb_2) :=
  sm_okM_of (pool := sp_2) (⟨"TwoWayGrammar$Grammar", "<init>", "()V"⟩, prog_3_method_1_code, none) (by rfl) (sm_memf 156 rfl rfl) (by decide +kernel) ⟨by decide, by decide⟩ (by decide) (Or.inl ⟨rfl, rfl⟩) (by decide +kernel) (sp_ok_2 hK)
set_option maxRecDepth 20000 in
theorem sk_3 {K : sm_H} (hK : sc_KOk K) : sm_okM sc_Ts sc_sx sc_zx sc_oc K sc_cl sc_Y 3 (2, 0, sb_3) :=
  sm_okM_of (pool := sp_3) (⟨"TwoWayGrammar$Tokens", "<init>", "(LTwoWayGrammar$Text;)V"⟩, prog_10_method_1_code, none) (by rfl) (sm_memf 273 rfl rfl) (by decide +kernel) ⟨by decide, by decide⟩ (by decide) (Or.inl ⟨rfl, rfl⟩) (by decide +kernel) (sp_ok_3 hK)
set_option maxRecDepth 20000 in
theorem sk_4 {K : sm_H} (hK : sc_KOk K) : sm_okM sc_Ts sc_sx sc_zx sc_oc K sc_cl sc_Y 4 (3, 0, sb_4) :=
  sm_okM_of (pool := sp_4) (⟨"TwoWayGrammar$Reader", "<init>", "(LTwoWayGrammar$Tokens;LTwoWayGrammar$Grammar;)V"⟩, prog_7_method_1_code, none) (by rfl) (sm_memf 296 rfl rfl) (by decide +kernel) ⟨by decide, by decide⟩ (by decide) (Or.inl ⟨rfl, rfl⟩) (by decide +kernel) (sp_ok_4 hK)
set_option maxRecDepth 20000 in
theorem sk_5 {K : sm_H} (hK : sc_KOk K) : sm_okM sc_Ts sc_sx sc_zx sc_oc K sc_cl sc_Y 5 (2, 0, sb_5) :=
  sm_okM_of (pool := sp_5) (⟨"TwoWayGrammar$Sets", "<init>", "(LTwoWayGrammar$Grammar;)V"⟩, prog_8_method_1_code, none) (by rfl) (sm_memf 315 rfl rfl) (by decide +kernel) ⟨by decide, by decide⟩ (by decide) (Or.inl ⟨rfl, rfl⟩) (by decide +kernel) (sp_ok_5 hK)
set_option maxRecDepth 20000 in
theorem sk_6 {K : sm_H} (hK : sc_KOk K) : sm_okM sc_Ts sc_sx sc_zx sc_oc K sc_cl sc_Y 6 (3, 0, sb_6) :=
  sm_okM_of (pool := sp_6) (⟨"TwoWayGrammar$Checks", "<init>", "(LTwoWayGrammar$Grammar;LTwoWayGrammar$Sets;)V"⟩, prog_2_method_1_code, none) (by rfl) (sm_memf 383 rfl rfl) (by decide +kernel) ⟨by decide, by decide⟩ (by decide) (Or.inl ⟨rfl, rfl⟩) (by decide +kernel) (sp_ok_6 hK)
set_option maxRecDepth 20000 in
theorem sk_7 {K : sm_H} (hK : sc_KOk K) : sm_okM sc_Ts sc_sx sc_zx sc_oc K sc_cl sc_Y 7 (1, 0, sb_7) :=
  sm_okM_of (pool := sp_7) (⟨"TwoWayGrammar$Tree", "<init>", "()V"⟩, prog_11_method_1_code, none) (by rfl) (sm_memf 399 rfl rfl) (by decide +kernel) ⟨by decide, by decide⟩ (by decide) (Or.inl ⟨rfl, rfl⟩) (by decide +kernel) (sp_ok_7 hK)
set_option maxRecDepth 20000 in
theorem sk_8 {K : sm_H} (hK : sc_KOk K) : sm_okM sc_Ts sc_sx sc_zx sc_oc K sc_cl sc_Y 8 (5, 0, sb_8) :=
  sm_okM_of (pool := sp_8) (⟨"TwoWayGrammar$Parsing", "<init>", "(LTwoWayGrammar$Grammar;LTwoWayGrammar$Sets;LTwoWayGrammar$Tree;LTwoWayGrammar$Text;)V"⟩, prog_5_method_1_code, none) (by rfl) (sm_memf 426 rfl rfl) (by decide +kernel) ⟨by decide, by decide⟩ (by decide) (Or.inl ⟨rfl, rfl⟩) (by decide +kernel) (sp_ok_8 hK)
set_option maxRecDepth 20000 in
theorem sk_9 {K : sm_H} (hK : sc_KOk K) : sm_okM sc_Ts sc_sx sc_zx sc_oc K sc_cl sc_Y 9 (4, 0, sb_9) :=
  sm_okM_of (pool := sp_9) (⟨"TwoWayGrammar$Walk", "<init>", "(LTwoWayGrammar$Grammar;LTwoWayGrammar$Sets;LTwoWayGrammar$Tree;)V"⟩, prog_12_method_1_code, none) (by rfl) (sm_memf 429 rfl rfl) (by decide +kernel) ⟨by decide, by decide⟩ (by decide) (Or.inl ⟨rfl, rfl⟩) (by decide +kernel) (sp_ok_9 hK)
set_option maxRecDepth 20000 in
theorem sk_10 {K : sm_H} (hK : sc_KOk K) : sm_okM sc_Ts sc_sx sc_zx sc_oc K sc_cl sc_Y 10 (4, 0, sb_10) :=
  sm_okM_of (pool := sp_10) (⟨"TwoWayGrammar$Growing", "<init>", "(LTwoWayGrammar$Grammar;LTwoWayGrammar$Sets;LTwoWayGrammar$Tree;)V"⟩, prog_4_method_1_code, none) (by rfl) (sm_memf 499 rfl rfl) (by decide +kernel) ⟨by decide, by decide⟩ (by decide) (Or.inl ⟨rfl, rfl⟩) (by decide +kernel) (sp_ok_10 hK)
set_option maxRecDepth 20000 in
theorem sk_11 {K : sm_H} (hK : sc_KOk K) : sm_okM sc_Ts sc_sx sc_zx sc_oc K sc_cl sc_Y 11 (5, 0, sb_11) :=
  sm_okM_of (pool := sp_11) (⟨"TwoWayGrammar$Printing", "<init>", "(LTwoWayGrammar$Grammar;LTwoWayGrammar$Sets;LTwoWayGrammar$Tree;LTwoWayGrammar$Text;)V"⟩, prog_6_method_1_code, none) (by rfl) (sm_memf 518 rfl rfl) (by decide +kernel) ⟨by decide, by decide⟩ (by decide) (Or.inl ⟨rfl, rfl⟩) (by decide +kernel) (sp_ok_11 hK)
set_option maxRecDepth 20000 in
theorem sk_12 {K : sm_H} (hK : sc_KOk K) : sm_okM sc_Ts sc_sx sc_zx sc_oc K sc_cl sc_Y 12 (2, 1, sb_12) :=
  sm_okM_of (pool := sp_12) (⟨"TwoWayGrammar", "compile", "()I"⟩, prog_1_method_5_code, (some (.int))) (by rfl) (sm_memf 601 rfl rfl) (by decide +kernel) ⟨by decide, by decide⟩ (by decide) (Or.inr (Or.inl ⟨rfl, rfl⟩)) (by decide +kernel) (sp_ok_12 hK _)
set_option maxRecDepth 20000 in
theorem sk_13 {K : sm_H} (hK : sc_KOk K) : sm_okM sc_Ts sc_sx sc_zx sc_oc K sc_cl sc_Y 13 (1, 0, sb_13) :=
  sm_okM_of (pool := sp_13) (⟨"TwoWayGrammar$Tree", "drop", "()V"⟩, prog_11_method_2_code, none) (by rfl) (sm_memf 605 rfl rfl) (by decide +kernel) ⟨by decide, by decide⟩ (by decide) (Or.inl ⟨rfl, rfl⟩) (by decide +kernel) (sp_ok_13 hK _)
set_option maxRecDepth 20000 in
theorem sk_14 {K : sm_H} (hK : sc_KOk K) : sm_okM sc_Ts sc_sx sc_zx sc_oc K sc_cl sc_Y 14 (3, 1, sb_14) :=
  sm_okM_of (pool := sp_14) (⟨"TwoWayGrammar$Reader", "read", "()I"⟩, prog_7_method_2_code, (some (.int))) (by rfl) (sm_memf 609 rfl rfl) (by decide +kernel) ⟨by decide, by decide⟩ (by decide) (Or.inr (Or.inl ⟨rfl, rfl⟩)) (by decide +kernel) (sp_ok_14 hK _)
set_option maxRecDepth 20000 in
theorem sk_15 {K : sm_H} (hK : sc_KOk K) : sm_okM sc_Ts sc_sx sc_zx sc_oc K sc_cl sc_Y 15 (2, 0, sb_15) :=
  sm_okM_of (pool := sp_15) (⟨"TwoWayGrammar$Grammar", "drop", "()V"⟩, prog_3_method_2_code, none) (by rfl) (sm_memf 613 rfl rfl) (by decide +kernel) ⟨by decide, by decide⟩ (by decide) (Or.inl ⟨rfl, rfl⟩) (by decide +kernel) (sp_ok_15 hK _)
set_option maxRecDepth 20000 in
theorem sk_16 {K : sm_H} (hK : sc_KOk K) : sm_okM sc_Ts sc_sx sc_zx sc_oc K sc_cl sc_Y 16 (3, 0, sb_16) :=
  sm_okM_of (pool := sp_12) (⟨"TwoWayGrammar", "put", "([III)V"⟩, prog_1_method_20_code, none) (by rfl) (sm_memf 616 rfl rfl) (by decide +kernel) ⟨by decide, by decide⟩ (by decide) (Or.inl ⟨rfl, rfl⟩) (by decide +kernel) (sp_ok_12 hK _)
set_option maxRecDepth 20000 in
theorem sk_17 {K : sm_H} (hK : sc_KOk K) : sm_okM sc_Ts sc_sx sc_zx sc_oc K sc_cl sc_Y 17 (1, 0, sb_17) :=
  sm_okM_of (pool := sp_16) (⟨"TwoWayGrammar$Tokens", "rewind", "()V"⟩, prog_10_method_2_code, none) (by rfl) (sm_memf 620 rfl rfl) (by decide +kernel) ⟨by decide, by decide⟩ (by decide) (Or.inl ⟨rfl, rfl⟩) (by decide +kernel) (sp_ok_16 hK _)
set_option maxRecDepth 20000 in
theorem sk_18 {K : sm_H} (hK : sc_KOk K) : sm_okM sc_Ts sc_sx sc_zx sc_oc K sc_cl sc_Y 18 (2, 0, sb_18) :=
  sm_okM_of (pool := sp_16) (⟨"TwoWayGrammar$Tokens", "advance", "()V"⟩, prog_10_method_3_code, none) (by rfl) (sm_memf 624 rfl rfl) (by decide +kernel) ⟨by decide, by decide⟩ (by decide) (Or.inl ⟨rfl, rfl⟩) (by decide +kernel) (sp_ok_16 hK _)
set_option maxRecDepth 20000 in
theorem sk_19 {K : sm_H} (hK : sc_KOk K) : sm_okM sc_Ts sc_sx sc_zx sc_oc K sc_cl sc_Y 19 (3, 1, sb_19) :=
  sm_okM_of (pool := sp_17) (⟨"TwoWayGrammar$Text", "behindBlanks", "(I)I"⟩, prog_9_method_8_code, (some (.int))) (by rfl) (sm_memf 628 rfl rfl) (by decide +kernel) ⟨by decide, by decide⟩ (by decide) (Or.inr (Or.inl ⟨rfl, rfl⟩)) (by decide +kernel) (sp_ok_17 hK _)
set_option maxRecDepth 20000 in
theorem sk_20 {K : sm_H} (hK : sc_KOk K) : sm_okM sc_Ts sc_sx sc_zx sc_oc K sc_cl sc_Y 20 (2, 5, sb_20) :=
  sm_okM_of (pool := sp_17) (⟨"TwoWayGrammar$Text", "at", "(I)C"⟩, prog_9_method_3_code, (some (.char))) (by rfl) (sm_memf 632 rfl rfl) (by decide +kernel) ⟨by decide, by decide⟩ (by decide) (Or.inr (Or.inr (Or.inr (Or.inr (Or.inr (Or.inl ⟨rfl, rfl⟩)))))) (by decide +kernel) (sp_ok_17 hK _)
set_option maxRecDepth 20000 in
theorem sk_21 {K : sm_H} (hK : sc_KOk K) : sm_okM sc_Ts sc_sx sc_zx sc_oc K sc_cl sc_Y 21 (1, 4, sb_21) :=
  sm_okM_of (pool := sp_12) (⟨"TwoWayGrammar", "isBlank", "(I)Z"⟩, prog_1_method_25_code, (some (.boolean))) (by rfl) (sm_memf 635 rfl rfl) (by decide +kernel) ⟨by decide, by decide⟩ (by decide) (Or.inr (Or.inr (Or.inr (Or.inr (Or.inl ⟨rfl, rfl⟩))))) (by decide +kernel) (sp_ok_12 hK _)
set_option maxRecDepth 20000 in
theorem sk_22 {K : sm_H} (hK : sc_KOk K) : sm_okM sc_Ts sc_sx sc_zx sc_oc K sc_cl sc_Y 22 (1, 1, sb_22) :=
  sm_okM_of (pool := sp_17) (⟨"TwoWayGrammar$Text", "length", "()I"⟩, prog_9_method_2_code, (some (.int))) (by rfl) (sm_memf 640 rfl rfl) (by decide +kernel) ⟨by decide, by decide⟩ (by decide) (Or.inr (Or.inl ⟨rfl, rfl⟩)) (by decide +kernel) (sp_ok_17 hK _)
set_option maxRecDepth 20000 in
theorem sk_23 {K : sm_H} (hK : sc_KOk K) : sm_okM sc_Ts sc_sx sc_zx sc_oc K sc_cl sc_Y 23 (1, 4, sb_23) :=
  sm_okM_of (pool := sp_12) (⟨"TwoWayGrammar", "isSmall", "(I)Z"⟩, prog_1_method_22_code, (some (.boolean))) (by rfl) (sm_memf 643 rfl rfl) (by decide +kernel) ⟨by decide, by decide⟩ (by decide) (Or.inr (Or.inr (Or.inr (Or.inr (Or.inl ⟨rfl, rfl⟩))))) (by decide +kernel) (sp_ok_12 hK _)
set_option maxRecDepth 20000 in
theorem sk_24 {K : sm_H} (hK : sc_KOk K) : sm_okM sc_Ts sc_sx sc_zx sc_oc K sc_cl sc_Y 24 (1, 0, sb_24) :=
  sm_okM_of (pool := sp_16) (⟨"TwoWayGrammar$Tokens", "takeWord", "()V"⟩, prog_10_method_5_code, none) (by rfl) (sm_memf 647 rfl rfl) (by decide +kernel) ⟨by decide, by decide⟩ (by decide) (Or.inl ⟨rfl, rfl⟩) (by decide +kernel) (sp_ok_16 hK _)
set_option maxRecDepth 20000 in
theorem sk_25 {K : sm_H} (hK : sc_KOk K) : sm_okM sc_Ts sc_sx sc_zx sc_oc K sc_cl sc_Y 25 (3, 1, sb_25) :=
  sm_okM_of (pool := sp_17) (⟨"TwoWayGrammar$Text", "behindLetters", "(I)I"⟩, prog_9_method_9_code, (some (.int))) (by rfl) (sm_memf 651 rfl rfl) (by decide +kernel) ⟨by decide, by decide⟩ (by decide) (Or.inr (Or.inl ⟨rfl, rfl⟩)) (by decide +kernel) (sp_ok_17 hK _)
set_option maxRecDepth 20000 in
theorem sk_26 {K : sm_H} (hK : sc_KOk K) : sm_okM sc_Ts sc_sx sc_zx sc_oc K sc_cl sc_Y 26 (6, 4, sb_26) :=
  sm_okM_of (pool := sp_17) (⟨"TwoWayGrammar$Text", "has", "(Ljava/lang/String;II)Z"⟩, prog_9_method_11_code, (some (.boolean))) (by rfl) (sm_memf 657 rfl rfl) (by decide +kernel) ⟨by decide, by decide⟩ (by decide) (Or.inr (Or.inr (Or.inr (Or.inr (Or.inl ⟨rfl, rfl⟩))))) (by decide +kernel) (sp_ok_17 hK _)
set_option maxRecDepth 20000 in
theorem sk_27 {K : sm_H} (hK : sc_KOk K) : sm_okM sc_Ts sc_sx sc_zx sc_oc K sc_cl sc_Y 27 (1, 1, sb_27) :=
  sm_okM_of (pool := sp_18) (⟨"java/lang/String", "length", "()I"⟩, prog_23_method_54_code, (some (.int))) (by rfl) (sm_memf 661 rfl rfl) (by decide +kernel) ⟨by decide, by decide⟩ (by decide) (Or.inr (Or.inl ⟨rfl, rfl⟩)) (by decide +kernel) (sp_ok_18 hK _)
set_option maxRecDepth 20000 in
theorem sk_28 {K : sm_H} (hK : sc_KOk K) : sm_okM sc_Ts sc_sx sc_zx sc_oc K sc_cl sc_Y 28 (1, 6, sb_28) :=
  sm_okM_of (pool := sp_18) (⟨"java/lang/String", "coder", "()B"⟩, prog_23_method_152_code, (some (.byte))) (by rfl) (sm_memf 665 rfl rfl) (by decide +kernel) ⟨by decide, by decide⟩ (by decide) (Or.inr (Or.inr (Or.inr (Or.inr (Or.inr (Or.inr ⟨rfl, rfl⟩)))))) (by decide +kernel) (sp_ok_18 hK _)
set_option maxRecDepth 20000 in
theorem sk_29 {K : sm_H} (hK : sc_KOk K) : sm_okM sc_Ts sc_sx sc_zx sc_oc K sc_cl sc_Y 29 (2, 5, sb_29) :=
  sm_okM_of (pool := sp_18) (⟨"java/lang/String", "charAt", "(I)C"⟩, prog_23_method_56_code, (some (.char))) (by rfl) (sm_memf 671 rfl rfl) (by decide +kernel) ⟨by decide, by decide⟩ (by decide) (Or.inr (Or.inr (Or.inr (Or.inr (Or.inr (Or.inl ⟨rfl, rfl⟩)))))) (by decide +kernel) (sp_ok_18 hK _)
set_option maxRecDepth 20000 in
theorem sk_30 {K : sm_H} (hK : sc_KOk K) : sm_okM sc_Ts sc_sx sc_zx sc_oc K sc_cl sc_Y 30 (1, 4, sb_30) :=
  sm_okM_of (pool := sp_18) (⟨"java/lang/String", "isLatin1", "()Z"⟩, prog_23_method_154_code, (some (.boolean))) (by rfl) (sm_memf 675 rfl rfl) (by decide +kernel) ⟨by decide, by decide⟩ (by decide) (Or.inr (Or.inr (Or.inr (Or.inr (Or.inl ⟨rfl, rfl⟩))))) (by decide +kernel) (sp_ok_18 hK _)
set_option maxRecDepth 20000 in
theorem sk_31 {K : sm_H} (hK : sc_KOk K) : sm_okM sc_Ts sc_sx sc_zx sc_oc K sc_cl sc_Y 31 (2, 5, sb_31) :=
  sm_okM_of (pool := sp_19) (⟨"java/lang/StringLatin1", "charAt", "([BI)C"⟩, prog_24_method_2_code, (some (.char))) (by rfl) (sm_memf 678 rfl rfl) (by decide +kernel) ⟨by decide, by decide⟩ (by decide) (Or.inr (Or.inr (Or.inr (Or.inr (Or.inr (Or.inl ⟨rfl, rfl⟩)))))) (by decide +kernel) (sp_ok_19 hK _)
set_option maxRecDepth 20000 in
theorem sk_32 {K : sm_H} (hK : sc_KOk K) : sm_okM sc_Ts sc_sx sc_zx sc_oc K sc_cl sc_Y 32 (2, 0, sb_32) :=
  sm_okM_of (pool := sp_18) (⟨"java/lang/String", "checkIndex", "(II)V"⟩, prog_23_method_155_code, none) (by rfl) (sm_memf 681 rfl rfl) (by decide +kernel) ⟨by decide, by decide⟩ (by decide) (Or.inl ⟨rfl, rfl⟩) (by decide +kernel) (sp_ok_18 hK _)
set_option maxRecDepth 20000 in
theorem sk_33 {K : sm_H} (hK : sc_KOk K) : sm_okM sc_Ts sc_sx sc_zx sc_oc K sc_cl sc_Y 33 (3, 0, sb_33) :=
  sm_okM_of (pool := sp_16) (⟨"TwoWayGrammar$Tokens", "takeKeyword", "()V"⟩, prog_10_method_6_code, none) (by rfl) (sm_memf 715 rfl rfl) (by decide +kernel) ⟨by decide, by decide⟩ (by decide) (Or.inl ⟨rfl, rfl⟩) (by decide +kernel) (sp_ok_16 hK _)
set_option maxRecDepth 20000 in
theorem sk_34 {K : sm_H} (hK : sc_KOk K) : sm_okM sc_Ts sc_sx sc_zx sc_oc K sc_cl sc_Y 34 (5, 1, sb_34) :=
  sm_okM_of (pool := sp_17) (⟨"TwoWayGrammar$Text", "letterCode", "(II)I"⟩, prog_9_method_12_code, (some (.int))) (by rfl) (sm_memf 719 rfl rfl) (by decide +kernel) ⟨by decide, by decide⟩ (by decide) (Or.inr (Or.inl ⟨rfl, rfl⟩)) (by decide +kernel) (sp_ok_17 hK _)
set_option maxRecDepth 20000 in
theorem sk_35 {K : sm_H} (hK : sc_KOk K) : sm_okM sc_Ts sc_sx sc_zx sc_oc K sc_cl sc_Y 35 (2, 0, sb_35) :=
  sm_okM_of (pool := sp_16) (⟨"TwoWayGrammar$Tokens", "takeSign", "()V"⟩, prog_10_method_7_code, none) (by rfl) (sm_memf 723 rfl rfl) (by decide +kernel) ⟨by decide, by decide⟩ (by decide) (Or.inl ⟨rfl, rfl⟩) (by decide +kernel) (sp_ok_16 hK _)
set_option maxRecDepth 20000 in
theorem sk_36 {K : sm_H} (hK : sc_KOk K) : sm_okM sc_Ts sc_sx sc_zx sc_oc K sc_cl sc_Y 36 (1, 4, sb_36) :=
  sm_okM_of (pool := sp_12) (⟨"TwoWayGrammar", "isCapital", "(I)Z"⟩, prog_1_method_23_code, (some (.boolean))) (by rfl) (sm_memf 727 rfl rfl) (by decide +kernel) ⟨by decide, by decide⟩ (by decide) (Or.inr (Or.inr (Or.inr (Or.inr (Or.inl ⟨rfl, rfl⟩))))) (by decide +kernel) (sp_ok_12 hK _)
set_option maxRecDepth 20000 in
theorem sk_37 {K : sm_H} (hK : sc_KOk K) : sm_okM sc_Ts sc_sx sc_zx sc_oc K sc_cl sc_Y 37 (1, 4, sb_37) :=
  sm_okM_of (pool := sp_12) (⟨"TwoWayGrammar", "isDigit", "(I)Z"⟩, prog_1_method_24_code, (some (.boolean))) (by rfl) (sm_memf 730 rfl rfl) (by decide +kernel) ⟨by decide, by decide⟩ (by decide) (Or.inr (Or.inr (Or.inr (Or.inr (Or.inl ⟨rfl, rfl⟩))))) (by decide +kernel) (sp_ok_12 hK _)
set_option maxRecDepth 20000 in
theorem sk_38 {K : sm_H} (hK : sc_KOk K) : sm_okM sc_Ts sc_sx sc_zx sc_oc K sc_cl sc_Y 38 (1, 1, sb_38) :=
  sm_okM_of (pool := sp_12) (⟨"TwoWayGrammar", "signCode", "(C)I"⟩, prog_1_method_27_code, (some (.int))) (by rfl) (sm_memf 733 rfl rfl) (by decide +kernel) ⟨by decide, by decide⟩ (by decide) (Or.inr (Or.inl ⟨rfl, rfl⟩)) (by decide +kernel) (sp_ok_12 hK _)
set_option maxRecDepth 20000 in
theorem sk_39 {K : sm_H} (hK : sc_KOk K) : sm_okM sc_Ts sc_sx sc_zx sc_oc K sc_cl sc_Y 39 (2, 0, sb_39) :=
  sm_okM_of (pool := sp_16) (⟨"TwoWayGrammar$Tokens", "takeCharacter", "(C)V"⟩, prog_10_method_8_code, none) (by rfl) (sm_memf 737 rfl rfl) (by decide +kernel) ⟨by decide, by decide⟩ (by decide) (Or.inl ⟨rfl, rfl⟩) (by decide +kernel) (sp_ok_16 hK _)
set_option maxRecDepth 20000 in
theorem sk_40 {K : sm_H} (hK : sc_KOk K) : sm_okM sc_Ts sc_sx sc_zx sc_oc K sc_cl sc_Y 40 (2, 1, sb_40) :=
  sm_okM_of (pool := sp_18) (⟨"java/lang/String", "indexOf", "(I)I"⟩, prog_23_method_79_code, (some (.int))) (by rfl) (sm_memf 742 rfl rfl) (by decide +kernel) ⟨by decide, by decide⟩ (by decide) (Or.inr (Or.inl ⟨rfl, rfl⟩)) (by decide +kernel) (sp_ok_18 hK _)
set_option maxRecDepth 20000 in
theorem sk_41 {K : sm_H} (hK : sc_KOk K) : sm_okM sc_Ts sc_sx sc_zx sc_oc K sc_cl sc_Y 41 (3, 1, sb_41) :=
  sm_okM_of (pool := sp_18) (⟨"java/lang/String", "indexOf", "(II)I"⟩, prog_23_method_80_code, (some (.int))) (by rfl) (sm_memf 746 rfl rfl) (by decide +kernel) ⟨by decide, by decide⟩ (by decide) (Or.inr (Or.inl ⟨rfl, rfl⟩)) (by decide +kernel) (sp_ok_18 hK _)
set_option maxRecDepth 20000 in
theorem sk_42 {K : sm_H} (hK : sc_KOk K) : sm_okM sc_Ts sc_sx sc_zx sc_oc K sc_cl sc_Y 42 (4, 1, sb_42) :=
  sm_okM_of (pool := sp_19) (⟨"java/lang/StringLatin1", "indexOf", "([BIII)I"⟩, prog_24_method_22_code, (some (.int))) (by rfl) (sm_memf 750 rfl rfl) (by decide +kernel) ⟨by decide, by decide⟩ (by decide) (Or.inr (Or.inl ⟨rfl, rfl⟩)) (by decide +kernel) (sp_ok_19 hK _)
set_option maxRecDepth 20000 in
theorem sk_43 {K : sm_H} (hK : sc_KOk K) : sm_okM sc_Ts sc_sx sc_zx sc_oc K sc_cl sc_Y 43 (1, 4, sb_43) :=
  sm_okM_of (pool := sp_19) (⟨"java/lang/StringLatin1", "canEncode", "(I)Z"⟩, prog_24_method_4_code, (some (.boolean))) (by rfl) (sm_memf 753 rfl rfl) (by decide +kernel) ⟨by decide, by decide⟩ (by decide) (Or.inr (Or.inr (Or.inr (Or.inr (Or.inl ⟨rfl, rfl⟩))))) (by decide +kernel) (sp_ok_19 hK _)
set_option maxRecDepth 20000 in
theorem sk_44 {K : sm_H} (hK : sc_KOk K) : sm_okM sc_Ts sc_sx sc_zx sc_oc K sc_cl sc_Y 44 (6, 1, sb_44) :=
  sm_okM_of (pool := sp_19) (⟨"java/lang/StringLatin1", "indexOfChar", "([BIII)I"⟩, prog_24_method_23_code, (some (.int))) (by rfl) (sm_memf 760 rfl rfl) (by decide +kernel) ⟨by decide, by decide⟩ (by decide) (Or.inr (Or.inl ⟨rfl, rfl⟩)) (by decide +kernel) (sp_ok_19 hK _)
set_option maxRecDepth 20000 in
theorem sk_45 {K : sm_H} (hK : sc_KOk K) : sm_okM sc_Ts sc_sx sc_zx sc_oc K sc_cl sc_Y 45 (3, 0, sb_45) :=
  sm_okM_of (pool := sp_18) (⟨"java/lang/String", "checkBoundsBeginEnd", "(III)V"⟩, prog_23_method_158_code, none) (by rfl) (sm_memf 775 rfl rfl) (by decide +kernel) ⟨by decide, by decide⟩ (by decide) (Or.inl ⟨rfl, rfl⟩) (by decide +kernel) (sp_ok_18 hK _)
set_option maxRecDepth 20000 in
theorem sk_46 {K : sm_H} (hK : sc_KOk K) : sm_okM sc_Ts sc_sx sc_zx sc_oc K sc_cl sc_Y 46 (2, 1, sb_46) :=
  sm_okM_of (pool := sp_14) (⟨"TwoWayGrammar$Reader", "beginRule", "()I"⟩, prog_7_method_5_code, (some (.int))) (by rfl) (sm_memf 799 rfl rfl) (by decide +kernel) ⟨by decide, by decide⟩ (by decide) (Or.inr (Or.inl ⟨rfl, rfl⟩)) (by decide +kernel) (sp_ok_14 hK _)
set_option maxRecDepth 20000 in
theorem sk_47 {K : sm_H} (hK : sc_KOk K) : sm_okM sc_Ts sc_sx sc_zx sc_oc K sc_cl sc_Y 47 (3, 0, sb_47) :=
  sm_okM_of (pool := sp_14) (⟨"TwoWayGrammar$Reader", "blame", "(II)V"⟩, prog_7_method_3_code, none) (by rfl) (sm_memf 803 rfl rfl) (by decide +kernel) ⟨by decide, by decide⟩ (by decide) (Or.inl ⟨rfl, rfl⟩) (by decide +kernel) (sp_ok_14 hK _)
set_option maxRecDepth 20000 in
theorem sk_48 {K : sm_H} (hK : sc_KOk K) : sm_okM sc_Ts sc_sx sc_zx sc_oc K sc_cl sc_Y 48 (3, 1, sb_48) :=
  sm_okM_of (pool := sp_15) (⟨"TwoWayGrammar$Grammar", "ruleNamed", "(I)I"⟩, prog_3_method_3_code, (some (.int))) (by rfl) (sm_memf 807 rfl rfl) (by decide +kernel) ⟨by decide, by decide⟩ (by decide) (Or.inr (Or.inl ⟨rfl, rfl⟩)) (by decide +kernel) (sp_ok_15 hK _)
set_option maxRecDepth 20000 in
theorem sk_49 {K : sm_H} (hK : sc_KOk K) : sm_okM sc_Ts sc_sx sc_zx sc_oc K sc_cl sc_Y 49 (2, 1, sb_49) :=
  sm_okM_of (pool := sp_12) (⟨"TwoWayGrammar", "at", "([II)I"⟩, prog_1_method_18_code, (some (.int))) (by rfl) (sm_memf 810 rfl rfl) (by decide +kernel) ⟨by decide, by decide⟩ (by decide) (Or.inr (Or.inl ⟨rfl, rfl⟩)) (by decide +kernel) (sp_ok_12 hK _)
set_option maxRecDepth 20000 in
theorem sk_50 {K : sm_H} (hK : sc_KOk K) : sm_okM sc_Ts sc_sx sc_zx sc_oc K sc_cl sc_Y 50 (3, 1, sb_50) :=
  sm_okM_of (pool := sp_15) (⟨"TwoWayGrammar$Grammar", "addRule", "(II)I"⟩, prog_3_method_5_code, (some (.int))) (by rfl) (sm_memf 814 rfl rfl) (by decide +kernel) ⟨by decide, by decide⟩ (by decide) (Or.inr (Or.inl ⟨rfl, rfl⟩)) (by decide +kernel) (sp_ok_15 hK _)
set_option maxRecDepth 20000 in
theorem sk_51 {K : sm_H} (hK : sc_KOk K) : sm_okM sc_Ts sc_sx sc_zx sc_oc K sc_cl sc_Y 51 (2, 0, sb_51) :=
  sm_okM_of (pool := sp_14) (⟨"TwoWayGrammar$Reader", "expect", "(I)V"⟩, prog_7_method_4_code, none) (by rfl) (sm_memf 819 rfl rfl) (by decide +kernel) ⟨by decide, by decide⟩ (by decide) (Or.inl ⟨rfl, rfl⟩) (by decide +kernel) (sp_ok_14 hK _)
set_option maxRecDepth 20000 in
theorem sk_52 {K : sm_H} (hK : sc_KOk K) : sm_okM sc_Ts sc_sx sc_zx sc_oc K sc_cl sc_Y 52 (7, 0, sb_52) :=
  sm_okM_of (pool := sp_14) (⟨"TwoWayGrammar$Reader", "readForm", "(II)V"⟩, prog_7_method_6_code, none) (by rfl) (sm_memf 823 rfl rfl) (by decide +kernel) ⟨by decide, by decide⟩ (by decide) (Or.inl ⟨rfl, rfl⟩) (by decide +kernel) (sp_ok_14 hK _)
set_option maxRecDepth 20000 in
theorem sk_53 {K : sm_H} (hK : sc_KOk K) : sm_okM sc_Ts sc_sx sc_zx sc_oc K sc_cl sc_Y 53 (5, 1, sb_53) :=
  sm_okM_of (pool := sp_15) (⟨"TwoWayGrammar$Grammar", "addAlternative", "(III)I"⟩, prog_3_method_8_code, (some (.int))) (by rfl) (sm_memf 827 rfl rfl) (by decide +kernel) ⟨by decide, by decide⟩ (by decide) (Or.inr (Or.inl ⟨rfl, rfl⟩)) (by decide +kernel) (sp_ok_15 hK _)
set_option maxRecDepth 20000 in
theorem sk_54 {K : sm_H} (hK : sc_KOk K) : sm_okM sc_Ts sc_sx sc_zx sc_oc K sc_cl sc_Y 54 (7, 0, sb_54) :=
  sm_okM_of (pool := sp_14) (⟨"TwoWayGrammar$Reader", "readItems", "(II)V"⟩, prog_7_method_7_code, none) (by rfl) (sm_memf 831 rfl rfl) (by decide +kernel) ⟨by decide, by decide⟩ (by decide) (Or.inl ⟨rfl, rfl⟩) (by decide +kernel) (sp_ok_14 hK _)
