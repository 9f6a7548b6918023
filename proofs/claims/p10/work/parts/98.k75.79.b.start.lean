/-! THE START, joined -/
section SQS
variable {args : Array Value} {s : State}
theorem sm_exD {N0 : Nat} {x : MethodName} (h : (Cond.declares x).before args s = true) : ∀ (v : Array Value) (U : State), s.WarmedH U.vm → (∀ q, q < N0 → U.heap[q]? = s.heap[q]?) → (Cond.declares x).before v U = true := fun v U hW _ => va_Nw.use rfl (va_Nw.warmD hW (va_Nw.of rfl h))
theorem sm_exC {N0 : Nat} {a b : String} (h : (Cond.castable a b).before args s = true) : ∀ (v : Array Value) (U : State), s.WarmedH U.vm → (∀ q, q < N0 → U.heap[q]? = s.heap[q]?) → (Cond.castable a b).before v U = true := fun v U hW _ => va_tabs rfl (rfl : (s.setVm U.vm).vm = U.vm) (Cond.faceAtom_setVm hW.alike _ rfl h)
theorem sm_exL {N0 : Nat} {C n d : String} (hN : s.heap.size ≤ N0) (h : (Cond.laysStatic C n d).before args s = true) : ∀ (v : Array Value) (U : State), s.WarmedH U.vm → (∀ q, q < N0 → U.heap[q]? = s.heap[q]?) → (Cond.laysStatic C n d).before v U = true := fun v U hW hF => by
  obtain ⟨c, k, i, f, a, cell, h1, h2, h3, h4, h5, h6, h7, h8, h9⟩ := Cond.laysStatic_spec h
  obtain ⟨k', h2', he⟩ := State.fieldFound?_setVm hW.alike h2
  have hl : a < s.heap.size := (Array.getElem?_eq_some_iff.mp h5).1
  have h5' : U.heap[a]? = some cell := by rw [hF a (Nat.lt_of_lt_of_le hl hN)]; exact h5
  have h1' : U.vm.findClass C = some c := by rw [hW.alike.findClass]; exact h1
  have hi : U.fieldFound? C n d = some (c, k', i, f) := h2'
  have hs : k'.statics = some a := by rw [he]; exact h4
  have ht : k'.staticTypes[f.slot]? = some f.type := by rw [he]; exact h9
  simp [Cond.before, Cond.holds, Cond.value, h1', hi, h3, hs, h5', h6, h7, h8, ht]
theorem sm_exR {N0 : Nat} {C n d : String} (hN : s.heap.size ≤ N0) (hl : (Cond.laysStatic C n d).before args s = true) (hini : (Cond.initialized C).before args s = true) (h : (Cond.isRef (.static C n d)).before args s = true) : ∀ (v : Array Value) (U : State), s.WarmedH U.vm → (∀ q, q < N0 → U.heap[q]? = s.heap[q]?) → (Cond.isRef (.static C n d)).before v U = true := fun v U hW hF => by
  have hZ := va_Zqof (A := fun a => N0 ≤ a) hl hini h (fun a ha => by omega)
  have hZ2 : va_Zq C n d (fun a => N0 ≤ a) U U.heap := va_Zq.moved hW.alike (va_Zq.kept hZ (fun a _ h2 => hF a (Nat.not_le.mp h2)))
  rcases hZ2 with ⟨cf, kf, fi, f, a, cell, q1, q2, q3, q4, q5, q6, q7, -⟩ | ⟨t, cf, kf, fi, f, a, cell, q1, q2, q3, q4, q5, q6, q7, -⟩
  · have he : (Term.static C n d).eval v U none [] U = some .null := by simp [Term.eval, State.fieldNamed?, q1, q2, q4, q5, q6, q7]
    simp [Cond.before, Cond.holds, Cond.value, he]
  · have he : (Term.static C n d).eval v U none [] U = some (.ref t) := by simp [Term.eval, State.fieldNamed?, q1, q2, q4, q5, q6, q7]
    simp [Cond.before, Cond.holds, Cond.value, he]
theorem sm_ncast {a b : String} {c t : ClassId} (h : (Cond.not (.castable a b)).before args s = true) (ha : s.vm.findClass a = some c) (hb : s.vm.findClass b = some t) : s.vm.assignable c t = false := by
  simp only [Cond.before, Cond.holds, Cond.value, ha, hb] at h
  simpa using h
theorem sq_D (hts : ∀ w ∈ sc_Ts, w.before args s = true) : ∃ D : va_G, ∀ (k : Nat) (q : vw_C), sc_cl[k]? = some q → u_Kn s q.1 q.2.1 q.2.2 (D.1 k) (D.2 k) := by
  have key : ∀ k : Nat, ∃ (c : ClassId) (i : Nat → Nat), ∀ q : vw_C, sc_cl[k]? = some q → u_Kn s q.1 q.2.1 q.2.2 c i := by
    intro k
    match k with
    | 0 =>
      obtain ⟨c, i, h⟩ := u_known (C := "TwoWayGrammar") (T := sc_T0) (N := 16) (n := 16) hts sc_in0 (hts _ (sm_mem 128 (by decide +kernel)))
      exact ⟨c, i, fun q hq => by cases hq; exact h⟩
    | 1 =>
      obtain ⟨c, i, h⟩ := u_known (C := "TwoWayGrammar$Text") (T := sc_T1) (N := 2) (n := 2) hts sc_in1 (hts _ (sm_mem 136 (by decide +kernel)))
      exact ⟨c, i, fun q hq => by cases hq; exact h⟩
    | 2 =>
      obtain ⟨c, i, h⟩ := u_known (C := "TwoWayGrammar$Grammar") (T := sc_T2) (N := 20) (n := 20) hts sc_in2 (hts _ (sm_mem 153 (by decide +kernel)))
      exact ⟨c, i, fun q hq => by cases hq; exact h⟩
    | 3 =>
      obtain ⟨c, i, h⟩ := u_known (C := "TwoWayGrammar$Reader") (T := sc_T3) (N := 4) (n := 4) hts sc_in3 (hts _ (sm_mem 268 (by decide +kernel)))
      exact ⟨c, i, fun q hq => by cases hq; exact h⟩
    | 4 =>
      obtain ⟨c, i, h⟩ := u_known (C := "TwoWayGrammar$Tokens") (T := sc_T4) (N := 5) (n := 5) hts sc_in4 (hts _ (sm_mem 270 (by decide +kernel)))
      exact ⟨c, i, fun q hq => by cases hq; exact h⟩
    | 5 =>
      obtain ⟨c, i, h⟩ := u_known (C := "TwoWayGrammar$Sets") (T := sc_T5) (N := 16) (n := 16) hts sc_in5 (hts _ (sm_mem 312 (by decide +kernel)))
      exact ⟨c, i, fun q hq => by cases hq; exact h⟩
    | 6 =>
      obtain ⟨c, i, h⟩ := u_known (C := "TwoWayGrammar$Checks") (T := sc_T6) (N := 3) (n := 3) hts sc_in6 (hts _ (sm_mem 380 (by decide +kernel)))
      exact ⟨c, i, fun q hq => by cases hq; exact h⟩
    | 7 =>
      obtain ⟨c, i, h⟩ := u_known (C := "TwoWayGrammar$Tree") (T := sc_T7) (N := 4) (n := 4) hts sc_in7 (hts _ (sm_mem 396 (by decide +kernel)))
      exact ⟨c, i, fun q hq => by cases hq; exact h⟩
    | 8 =>
      obtain ⟨c, i, h⟩ := u_known (C := "TwoWayGrammar$Parsing") (T := sc_T8) (N := 12) (n := 12) hts sc_in8 (hts _ (sm_mem 423 (by decide +kernel)))
      exact ⟨c, i, fun q hq => by cases hq; exact h⟩
    | 9 =>
      obtain ⟨c, i, h⟩ := u_known (C := "TwoWayGrammar$Growing") (T := sc_T9) (N := 8) (n := 8) hts sc_in9 (hts _ (sm_mem 496 (by decide +kernel)))
      exact ⟨c, i, fun q hq => by cases hq; exact h⟩
    | 10 =>
      obtain ⟨c, i, h⟩ := u_known (C := "TwoWayGrammar$Printing") (T := sc_T10) (N := 13) (n := 13) hts sc_in10 (hts _ (sm_mem 515 (by decide +kernel)))
      exact ⟨c, i, fun q hq => by cases hq; exact h⟩
    | 11 =>
      obtain ⟨c, i, h⟩ := u_known (C := "TwoWayGrammarModel") (T := sc_T11) (N := 96) (n := 96) hts sc_in11 (hts _ (sm_mem 1550 (by decide +kernel)))
      exact ⟨c, i, fun q hq => by cases hq; exact h⟩
    | 12 =>
      obtain ⟨c, i, h⟩ := u_known (C := "java/lang/IndexOutOfBoundsException") (T := sc_T12) (N := 0) (n := 6) hts sc_in12 (hts _ (sm_mem 1017 (by decide +kernel)))
      exact ⟨c, i, fun q hq => by cases hq; exact h⟩
    | 13 =>
      obtain ⟨c, i, h⟩ := u_known (C := "java/lang/IllegalArgumentException") (T := sc_T13) (N := 0) (n := 6) hts sc_in13 (hts _ (sm_mem 1107 (by decide +kernel)))
      exact ⟨c, i, fun q hq => by cases hq; exact h⟩
    | 14 =>
      obtain ⟨c, i, h⟩ := u_known (C := "java/lang/IllegalStateException") (T := sc_T14) (N := 0) (n := 6) hts sc_in14 (hts _ (sm_mem 1138 (by decide +kernel)))
      exact ⟨c, i, fun q hq => by cases hq; exact h⟩
    | 15 =>
      obtain ⟨c, i, h⟩ := u_known (C := "java/lang/UnsupportedOperationException") (T := sc_T15) (N := 0) (n := 6) hts sc_in15 (hts _ (sm_mem 1438 (by decide +kernel)))
      exact ⟨c, i, fun q hq => by cases hq; exact h⟩
    | 16 =>
      obtain ⟨c, i, h⟩ := u_known (C := "java/util/NoSuchElementException") (T := sc_T16) (N := 0) (n := 6) hts sc_in16 (hts _ (sm_mem 1477 (by decide +kernel)))
      exact ⟨c, i, fun q hq => by cases hq; exact h⟩
    | n + 17 => exact ⟨0, fun _ => 0, fun q hq => by
        have := (List.getElem?_eq_some_iff.mp hq).1
        have h2 : sc_cl.length = 17 := rfl
        omega⟩
  exact ⟨(fun k => Classical.choose (key k), fun k => Classical.choose (Classical.choose_spec (key k))), fun k q hq => Classical.choose_spec (Classical.choose_spec (key k)) q hq⟩
theorem sq_arr {ty : FieldType} (h : (Cond.arrayClass ty).before args s = true) : ∃ c, s.vm.findClass ("[" ++ ty.toString) = some c ∧ ArrOfT s c ty := by
  obtain ⟨c, k, comp, h1, h2, h3⟩ := Cond.arrayClass_spec h
  exact ⟨c, h1, fun n z => ⟨fun k hk => (by cases hk), k, h2, comp, h3⟩⟩
theorem sq_tys (hts : ∀ w ∈ sc_Ts, w.before args s = true) : ∃ tys : List (ClassId × FieldType), sm_T tys ∧ ∀ (k : Nat) (q : ClassId × FieldType), tys[k]? = some q → ArrOfT s q.1 q.2 ∧ va_RA s q.1 q.2 := by
  obtain ⟨c0, a0, b0⟩ := sq_arr (ty := .int) (hts _ (sm_mem 266 (by decide +kernel)))
  obtain ⟨c1, a1, b1⟩ := sq_arr (ty := .long) (hts _ (sm_mem 378 (by decide +kernel)))
  obtain ⟨c2, a2, b2⟩ := sq_arr (ty := .char) (hts _ (sm_mem 151 (by decide +kernel)))
  obtain ⟨c3, a3, b3⟩ := sq_arr (ty := .boolean) (hts _ (sm_mem 1844 (by decide +kernel)))
  obtain ⟨c4, a4, b4⟩ := sq_arr (ty := .byte) (hts _ (sm_mem 975 (by decide +kernel)))
  refine ⟨[(c0, .int), (c1, .long), (c2, .char), (c3, .boolean), (c4, .byte)], fun t ty ht => ?_, fun k q hk => ?_⟩
  · unfold sm_ty at ht
    split at ht <;> first | (cases ht; exact ⟨_, rfl⟩) | cases ht
  · match k, hk with
    | 0, hk => cases hk; exact ⟨b0, a0⟩
    | 1, hk => cases hk; exact ⟨b1, a1⟩
    | 2, hk => cases hk; exact ⟨b2, a2⟩
    | 3, hk => cases hk; exact ⟨b3, a3⟩
    | 4, hk => cases hk; exact ⟨b4, a4⟩
    | k + 5, hk => simp at hk
/-- where the old cells lie -/
def sq_cs (b : Nat) (adK adV : Nat → Nat) (k : Nat) : Nat := if k = 0 then b else if k < 26 then adK (k - 1) else adV (k - 26)
theorem sq_vS (hfl : ∀ w ∈ sq_flat, w.before args s = true) : ∃ adK adV : Nat → Nat, vk_S 25 sq_len sq_byt adK adV (fun a => s.heap.size ≤ a) s s.heap ∧ ∀ i : Nat, i < 25 → (sq_tm i).eval args s none [] s = some (.ref (adK i)) := by
  refine vk_Sof (tm := sq_tm) (by decide +kernel) (fun i hi => hfl _ (sq_wsMem hi _ (by simp [sq_ws]))) (fun i hi => hfl _ (sq_wsMem hi _ (by simp [sq_ws]))) (fun i hi => hfl _ (sq_wsMem hi _ (by simp [sq_ws]))) (fun i hi => hfl _ (sq_wsMem hi _ (by simp [sq_ws]))) (fun i hi j hj => hfl _ (sq_wsMem hi _ ?_)) (fun i j hi hj hij => ?_) (fun a ha => by omega)
  · exact List.mem_append.mpr (Or.inr (List.mem_append.mpr (Or.inl (List.mem_map.mpr ⟨j, List.mem_range.mpr hj, rfl⟩))))
  · rcases Nat.lt_or_ge i j with h | h
    · exact Or.inl (hfl _ (sq_wsMem hj _ (List.mem_append.mpr (Or.inr (List.mem_append.mpr (Or.inr (List.mem_map.mpr ⟨i, List.mem_range.mpr h, rfl⟩)))))))
    · exact Or.inr (hfl _ (sq_wsMem hi _ (List.mem_append.mpr (Or.inr (List.mem_append.mpr (Or.inr (List.mem_map.mpr ⟨j, List.mem_range.mpr (by omega), rfl⟩)))))))
theorem sq_OA {ρ : Nat → Int32} {μ : UInt64 → Int64} {b L : Nat} {xs : Nat → Int32} {l : List (Nat × Value)} {adK adV : Nat → Nat} (hX : va_X b L xs s s.heap) (hl : ∀ j, j < L → sa_fi ρ μ l j = xs j) (hS : vk_S 25 sq_len sq_byt adK adV (fun a => s.heap.size ≤ a) s s.heap) : sm_OA sc_cl (sa_gh ρ μ (sq_K L l)) s.heap.size (sq_cs b adK adV) s := by
  intro k hk
  have hk : k < 51 := hk
  rcases (show k = 0 ∨ (∃ i, i < 25 ∧ k = 1 + i) ∨ ∃ i, i < 25 ∧ k = 26 + i by
    rcases Nat.lt_or_ge k 1 with z | z
    · exact Or.inl (by omega)
    · rcases Nat.lt_or_ge k 26 with y | y
      · exact Or.inr (Or.inl ⟨k - 1, by omega, by omega⟩)
      · exact Or.inr (Or.inr ⟨k - 26, by omega, by omega⟩)) with rfl | ⟨i, hi, rfl⟩ | ⟨i, hi, rfl⟩
  · obtain ⟨scr, h1, h2, h3, h4, h5⟩ := hX
    have e0 : sq_cs b adK adV 0 = b := rfl
    have eK : (sa_gh ρ μ (sq_K L l))[0]? = some (.inl (0, L, .inl (sa_fi ρ μ l))) := by simp [sq_K, sa_ge]
    rw [e0, eK]
    refine ⟨(Array.getElem?_eq_some_iff.mp h1).1, fun t n f he => ?_, fun ci fs he => by cases he⟩
    cases he
    exact ⟨.int, scr, _, rfl, rfl, h1, h2, h3, ⟨Nat.le_of_eq h4.symm, by rw [h4]⟩, fun j hj => by rw [hl j hj]; exact h5 j hj⟩
  · obtain ⟨⟨cell, h1, h2, h3, -⟩, -⟩ := hS.1 i hi
    have e0 : sq_cs b adK adV (1 + i) = adK i := by unfold sq_cs; rw [if_neg (by omega), if_pos (by omega), Nat.add_sub_cancel_left]
    have eK : (sa_gh ρ μ (sq_K L l))[1 + i]? = some (.inr (17, [.ref (26 + i), .int 0])) := by rw [List.getElem?_map, sq_K1 hi]; rfl
    rw [e0, eK]
    refine ⟨(Array.getElem?_eq_some_iff.mp h1).1, fun t n f he => (by cases he), fun ci fs he => ?_⟩
    cases he
    exact ⟨"java/lang/String", cell, rfl, h1, h2, h3⟩
  · obtain ⟨-, -, -, cell, h1, h2, h3, h4, h5, h6, -⟩ := hS.1 i hi
    have e0 : sq_cs b adK adV (26 + i) = adV i := by unfold sq_cs; rw [if_neg (by omega), if_neg (by omega), Nat.add_sub_cancel_left]
    have hlen : sq_len.getD i 0 = (sq_byt.getD i []).length := (show ∀ i, i < 25 → sq_len.getD i 0 = (sq_byt.getD i []).length by decide +kernel) i hi
    obtain ⟨bs, hbs⟩ : ∃ bs, sq_byt[i]? = some bs := ⟨_, List.getElem?_eq_getElem (show i < sq_byt.length from hi)⟩
    have hbs2 : sq_byt.getD i [] = bs := by rw [List.getD_eq_getElem?_getD, hbs]; rfl
    rw [hbs2] at hlen h6
    have eK : (sa_gh ρ μ (sq_K L l))[26 + i]? = some (.inl (4, bs.length, .inl (sa_fi ρ μ (bs.zipIdx.map (fun z => (z.2, Value.int z.1)))))) := by rw [List.getElem?_map, sq_K2, sq_B, List.getElem?_map, hbs]; simp [sa_ge]
    rw [e0, eK]
    refine ⟨(Array.getElem?_eq_some_iff.mp h1).1, fun t n f he => ?_, fun ci fs he => by cases he⟩
    cases he
    rw [hlen] at h4 h5 h6
    refine ⟨.byte, cell, _, rfl, rfl, h1, h2, h3, ⟨h4, h5⟩, fun j hj => ?_⟩
    rw [h6 j hj]
    have := sq_look bs j 0 hj
    rw [Nat.zero_add] at this
    simp [sa_fi, this, sa_g, sa_i]
theorem sq_sx {b : Nat} {adK adV : Nat → Nat} (htb : ∀ w ∈ lw_tbl, w.before args s = true) (hev : ∀ i : Nat, i < 25 → (sq_tm i).eval args s none [] s = some (.ref (adK i))) : ∀ q ∈ sc_sx, vk_R q.1 q.2.1 q.2.2.1 (sm_ad s.heap.size (sq_cs b adK adV) q.2.2.2) s := by
  have had : ∀ i, i < 25 → sm_ad s.heap.size (sq_cs b adK adV) (i + 1) = adK i := fun i hi => by
    rw [sm_ad_lt (show i + 1 < 51 by omega)]
    unfold sq_cs
    rw [if_neg (by omega), if_pos (by omega), Nat.add_sub_cancel]
  have hv : ∀ (i : Nat) (w : Cond) (own tx : String) (k : Nat), i < 25 → w = .stringRef own k tx → sq_tm i = .string own k → w ∈ lw_tbl → vk_R own k tx (sm_ad s.heap.size (sq_cs b adK adV) (i + 1)) s := fun i w own tx k hi e1 e2 e3 => by
    rw [had i hi]
    subst e1
    exact vk_R.of (htb _ e3) (by rw [← e2]; exact hev i hi)
  exact List.forall_mem_cons.mpr ⟨hv 0 _ _ _ _ (by decide) rfl rfl (sq_tb 653 (by decide +kernel)), List.forall_mem_cons.mpr ⟨hv 1 _ _ _ _ (by decide) rfl rfl (sq_tb 706 (by decide +kernel)), List.forall_mem_cons.mpr ⟨hv 2 _ _ _ _ (by decide) rfl rfl (sq_tb 707 (by decide +kernel)), List.forall_mem_cons.mpr ⟨hv 3 _ _ _ _ (by decide) rfl rfl (sq_tb 708 (by decide +kernel)), List.forall_mem_cons.mpr ⟨hv 4 _ _ _ _ (by decide) rfl rfl (sq_tb 709 (by decide +kernel)), List.forall_mem_cons.mpr ⟨hv 5 _ _ _ _ (by decide) rfl rfl (sq_tb 710 (by decide +kernel)), List.forall_mem_cons.mpr ⟨hv 6 _ _ _ _ (by decide) rfl rfl (sq_tb 711 (by decide +kernel)), List.forall_mem_cons.mpr ⟨hv 7 _ _ _ _ (by decide) rfl rfl (sq_tb 738 (by decide +kernel)), List.forall_mem_cons.mpr ⟨hv 8 _ _ _ _ (by decide) rfl rfl (sq_tb 1059 (by decide +kernel)), List.forall_mem_cons.mpr ⟨hv 9 _ _ _ _ (by decide) rfl rfl (sq_tb 1115 (by decide +kernel)), List.forall_mem_cons.mpr ⟨hv 10 _ _ _ _ (by decide) rfl rfl (sq_tb 1122 (by decide +kernel)), List.forall_mem_cons.mpr ⟨hv 11 _ _ _ _ (by decide) rfl rfl (sq_tb 1123 (by decide +kernel)), List.forall_mem_cons.mpr ⟨hv 12 _ _ _ _ (by decide) rfl rfl (sq_tb 1124 (by decide +kernel)), List.forall_mem_cons.mpr ⟨hv 13 _ _ _ _ (by decide) rfl rfl (sq_tb 1146 (by decide +kernel)), List.forall_mem_cons.mpr ⟨hv 14 _ _ _ _ (by decide) rfl rfl (sq_tb 1153 (by decide +kernel)), List.forall_mem_cons.mpr ⟨hv 15 _ _ _ _ (by decide) rfl rfl (sq_tb 1162 (by decide +kernel)), List.forall_mem_cons.mpr ⟨hv 16 _ _ _ _ (by decide) rfl rfl (sq_tb 1171 (by decide +kernel)), List.forall_mem_cons.mpr ⟨hv 17 _ _ _ _ (by decide) rfl rfl (sq_tb 1446 (by decide +kernel)), List.forall_mem_cons.mpr ⟨hv 18 _ _ _ _ (by decide) rfl rfl (sq_tb 1460 (by decide +kernel)), List.forall_mem_cons.mpr ⟨hv 19 _ _ _ _ (by decide) rfl rfl (sq_tb 1485 (by decide +kernel)), List.forall_mem_cons.mpr ⟨hv 20 _ _ _ _ (by decide) rfl rfl (sq_tb 1496 (by decide +kernel)), List.forall_mem_cons.mpr ⟨hv 21 _ _ _ _ (by decide) rfl rfl (sq_tb 1520 (by decide +kernel)), List.forall_mem_cons.mpr ⟨hv 22 _ _ _ _ (by decide) rfl rfl (sq_tb 1524 (by decide +kernel)), List.forall_mem_cons.mpr ⟨hv 23 _ _ _ _ (by decide) rfl rfl (sq_tb 1532 (by decide +kernel)), List.forall_mem_cons.mpr ⟨hv 24 _ _ _ _ (by decide) rfl rfl (sq_tb 1541 (by decide +kernel)), fun _ h => absurd h List.not_mem_nil⟩⟩⟩⟩⟩⟩⟩⟩⟩⟩⟩⟩⟩⟩⟩⟩⟩⟩⟩⟩⟩⟩⟩⟩⟩
def sq_nxi : List Nat := [154, 397, 614, 633, 641, 652, 724, 725, 728, 731, 808, 861, 874, 879, 880, 892, 905, 957, 970, 1002, 1003, 1196, 1205, 1206, 1218, 1264, 1275, 1285, 1286, 1294, 1383]
theorem sq_nx (htb : ∀ w ∈ lw_tbl, w.before args s = true) : ∀ q ∈ sc_nx, va_Nw (.methodLinkNest q.1 q.2.1 q.2.2.1 q.2.2.2) s := by
  have h : ((sc_nx.zip sq_nxi).all (fun p => lw_tbl[p.2]?.any (fun v => decide (v = Cond.methodLinkNest p.1.1 p.1.2.1 p.1.2.2.1 p.1.2.2.2)))) = true := by decide +kernel
  intro q hq
  obtain ⟨k, hk⟩ := List.getElem?_of_mem hq
  have hkl : k < sq_nxi.length := by
    have := (List.getElem?_eq_some_iff.mp hk).1
    exact this
  have hz : (sc_nx.zip sq_nxi)[k]? = some (q, sq_nxi[k]) := by
    rw [List.getElem?_zip_eq_some]
    exact ⟨hk, List.getElem?_eq_getElem hkl⟩
  exact va_Nw.of rfl (htb _ (sq_tb _ (List.all_eq_true.mp h _ (List.mem_of_getElem? hz))))
def sq_dxi : List Nat := [1174, 1179, 1266, 1321, 1328]
theorem sq_dx (htb : ∀ w ∈ lw_tbl, w.before args s = true) : ∀ x ∈ sc_dx, va_Nw (.declares x) s := by
  have h : ((sc_dx.zip sq_dxi).all (fun p => lw_tbl[p.2]?.any (fun v => decide (v = Cond.declares p.1)))) = true := by decide +kernel
  intro q hq
  obtain ⟨k, hk⟩ := List.getElem?_of_mem hq
  have hkl : k < sq_dxi.length := by
    have := (List.getElem?_eq_some_iff.mp hk).1
    exact this
  have hz : (sc_dx.zip sq_dxi)[k]? = some (q, sq_dxi[k]) := by
    rw [List.getElem?_zip_eq_some]
    exact ⟨hk, List.getElem?_eq_getElem hkl⟩
  exact va_Nw.of rfl (htb _ (sq_tb _ (List.all_eq_true.mp h _ (List.mem_of_getElem? hz))))
theorem sq_X {ρ : Nat → Int32} {μ : UInt64 → Int64} {b L : Nat} {xs : Nat → Int32} {l : List (Nat × Value)} {adK adV : Nat → Nat} (htb : ∀ w ∈ lw_tbl, w.before args s = true) (hfl : ∀ w ∈ sq_flat, w.before args s = true) (hX : va_X b L xs s s.heap) (hl : ∀ j, j < L → sa_fi ρ μ l j = xs j) (hS : vk_S 25 sq_len sq_byt adK adV (fun a => s.heap.size ≤ a) s s.heap) (hev : ∀ i : Nat, i < 25 → (sq_tm i).eval args s none [] s = some (.ref (adK i))) :
    sm_X sc_cl (sa_gh ρ μ (sq_K L l)) sc_sx sc_zx sc_oc s.heap.size (sq_cs b adK adV) s := by
  refine ⟨sq_sx htb hev, ?_, ?_, sq_nx htb, ⟨?_, sq_dx htb⟩, sq_OA hX hl hS⟩
  · intro q hq
    rw [List.mem_singleton.mp hq]
    exact va_Zof (htb _ (sq_tb 667 (by decide +kernel))) (htb _ (sq_tb 118 (by decide +kernel))) (va_eqi (hfl _ (sq_at 4 (by decide +kernel)))) (fun a ha => Nat.not_le.mpr ha)
  · intro q hq
    obtain ⟨i, hi, hq⟩ := List.mem_flatMap.mp hq
    have hi := List.mem_range.mp hi
    obtain ⟨-, h2, h3, -⟩ := hS.1 i hi
    have e1 : sm_ad s.heap.size (sq_cs b adK adV) (i + 1) = adK i := by
      rw [sm_ad_lt (show i + 1 < 51 by omega)]
      unfold sq_cs
      rw [if_neg (by omega), if_pos (by omega), Nat.add_sub_cancel]
    have e2 : sm_ad s.heap.size (sq_cs b adK adV) (26 + i) = adV i := by
      rw [sm_ad_lt (show 26 + i < 51 by omega)]
      unfold sq_cs
      rw [if_neg (by omega), if_neg (by omega), Nat.add_sub_cancel_left]
    rcases List.mem_cons.mp hq with rfl | hq
    · show va_OF _ _ _ (.ref (sm_ad s.heap.size (sq_cs b adK adV) (26 + i))) (sm_ad s.heap.size (sq_cs b adK adV) (i + 1)) _ s s.heap
      rw [e1, e2]
      exact h3
    · rw [List.mem_singleton.mp hq]
      show va_OF _ _ _ (.int 0) (sm_ad s.heap.size (sq_cs b adK adV) (i + 1)) _ s s.heap
      rw [e1]
      exact h2
  · exact va_Zqof (htb _ (sq_tb 683 (by decide +kernel))) (htb _ (sq_tb 120 (by decide +kernel))) (hfl _ (sq_at 5 (by decide +kernel))) (fun a ha => Nat.not_le.mpr ha)
theorem sq_Ex (htb : ∀ w ∈ lw_tbl, w.before args s = true) (hfl : ∀ w ∈ sq_flat, w.before args s = true) : sm_Ex sc_ex s.heap.size s :=
  List.forall_mem_cons.mpr ⟨sm_exL (Nat.le_refl _) (htb _ (sq_tb 1043 (by decide +kernel))), List.forall_mem_cons.mpr ⟨sm_exL (Nat.le_refl _) (htb _ (sq_tb 1045 (by decide +kernel))), List.forall_mem_cons.mpr ⟨sm_exD (htb _ (sq_tb 1020 (by decide +kernel))), List.forall_mem_cons.mpr ⟨sm_exD (htb _ (sq_tb 1022 (by decide +kernel))), List.forall_mem_cons.mpr ⟨sm_exD (htb _ (sq_tb 1024 (by decide +kernel))), List.forall_mem_cons.mpr ⟨sm_exC (htb _ (sq_tb 1018 (by decide +kernel))), List.forall_mem_cons.mpr ⟨sm_exR (Nat.le_refl _) (htb _ (sq_tb 1043 (by decide +kernel))) (htb _ (sq_tb 113 (by decide +kernel))) (hfl _ (sq_at 9 (by decide +kernel))), List.forall_mem_cons.mpr ⟨sm_exR (Nat.le_refl _) (htb _ (sq_tb 1045 (by decide +kernel))) (htb _ (sq_tb 113 (by decide +kernel))) (hfl _ (sq_at 10 (by decide +kernel))), List.forall_mem_cons.mpr ⟨sm_exC (htb _ (sq_tb 1108 (by decide +kernel))), List.forall_mem_cons.mpr ⟨sm_exC (htb _ (sq_tb 1139 (by decide +kernel))), List.forall_mem_cons.mpr ⟨sm_exC (htb _ (sq_tb 1439 (by decide +kernel))), List.forall_mem_cons.mpr ⟨sm_exC (htb _ (sq_tb 1478 (by decide +kernel))), fun _ h => absurd h List.not_mem_nil⟩⟩⟩⟩⟩⟩⟩⟩⟩⟩⟩⟩
theorem sm_cast {a : String} {c : ClassId} (h : (Cond.castable a a).before args s = true) (ha : s.vm.findClass a = some c) : s.vm.assignable c c = true := by
  obtain ⟨c1, c2, h1, h2, h3⟩ := Cond.castable_spec h
  cases h1.symm.trans ha
  cases h2.symm.trans ha
  exact h3
theorem sq_N {D : va_G} (htb : ∀ w ∈ lw_tbl, w.before args s = true) (hfl : ∀ w ∈ sq_flat, w.before args s = true) (hK : ∀ (k : Nat) (q : vw_C), sc_cl[k]? = some q → u_Kn s q.1 q.2.1 q.2.2 (D.1 k) (D.2 k)) : sm_N D sc_nc s :=
  List.forall_mem_cons.mpr ⟨(sm_cast (a := "java/lang/IndexOutOfBoundsException") (htb _ (sq_tb 1018 (by decide +kernel))) (hK 12 _ rfl).2.1).trans (decide_eq_true rfl).symm, List.forall_mem_cons.mpr ⟨(sm_ncast (a := "java/lang/IndexOutOfBoundsException") (b := "java/lang/IllegalArgumentException") (hfl _ (sq_at 39 (by decide +kernel))) (hK 12 _ rfl).2.1 (hK 13 _ rfl).2.1).trans (decide_eq_false (by decide)).symm, List.forall_mem_cons.mpr ⟨(sm_ncast (a := "java/lang/IndexOutOfBoundsException") (b := "java/lang/IllegalStateException") (hfl _ (sq_at 55 (by decide +kernel))) (hK 12 _ rfl).2.1 (hK 14 _ rfl).2.1).trans (decide_eq_false (by decide)).symm, List.forall_mem_cons.mpr ⟨(sm_ncast (a := "java/lang/IllegalArgumentException") (b := "java/lang/IndexOutOfBoundsException") (hfl _ (sq_at 23 (by decide +kernel))) (hK 13 _ rfl).2.1 (hK 12 _ rfl).2.1).trans (decide_eq_false (by decide)).symm, List.forall_mem_cons.mpr ⟨(sm_cast (a := "java/lang/IllegalArgumentException") (htb _ (sq_tb 1108 (by decide +kernel))) (hK 13 _ rfl).2.1).trans (decide_eq_true rfl).symm, List.forall_mem_cons.mpr ⟨(sm_ncast (a := "java/lang/IllegalArgumentException") (b := "java/lang/IllegalStateException") (hfl _ (sq_at 56 (by decide +kernel))) (hK 13 _ rfl).2.1 (hK 14 _ rfl).2.1).trans (decide_eq_false (by decide)).symm, List.forall_mem_cons.mpr ⟨(sm_ncast (a := "java/lang/IllegalArgumentException") (b := "java/lang/UnsupportedOperationException") (hfl _ (sq_at 72 (by decide +kernel))) (hK 13 _ rfl).2.1 (hK 15 _ rfl).2.1).trans (decide_eq_false (by decide)).symm, List.forall_mem_cons.mpr ⟨(sm_ncast (a := "java/lang/IllegalArgumentException") (b := "java/util/NoSuchElementException") (hfl _ (sq_at 88 (by decide +kernel))) (hK 13 _ rfl).2.1 (hK 16 _ rfl).2.1).trans (decide_eq_false (by decide)).symm, List.forall_mem_cons.mpr ⟨(sm_ncast (a := "java/lang/IllegalStateException") (b := "java/lang/IndexOutOfBoundsException") (hfl _ (sq_at 24 (by decide +kernel))) (hK 14 _ rfl).2.1 (hK 12 _ rfl).2.1).trans (decide_eq_false (by decide)).symm, List.forall_mem_cons.mpr ⟨(sm_ncast (a := "java/lang/IllegalStateException") (b := "java/lang/IllegalArgumentException") (hfl _ (sq_at 40 (by decide +kernel))) (hK 14 _ rfl).2.1 (hK 13 _ rfl).2.1).trans (decide_eq_false (by decide)).symm, List.forall_mem_cons.mpr ⟨(sm_cast (a := "java/lang/IllegalStateException") (htb _ (sq_tb 1139 (by decide +kernel))) (hK 14 _ rfl).2.1).trans (decide_eq_true rfl).symm, List.forall_mem_cons.mpr ⟨(sm_ncast (a := "java/lang/IllegalStateException") (b := "java/lang/UnsupportedOperationException") (hfl _ (sq_at 73 (by decide +kernel))) (hK 14 _ rfl).2.1 (hK 15 _ rfl).2.1).trans (decide_eq_false (by decide)).symm, List.forall_mem_cons.mpr ⟨(sm_ncast (a := "java/lang/UnsupportedOperationException") (b := "java/lang/IllegalArgumentException") (hfl _ (sq_at 41 (by decide +kernel))) (hK 15 _ rfl).2.1 (hK 13 _ rfl).2.1).trans (decide_eq_false (by decide)).symm, List.forall_mem_cons.mpr ⟨(sm_ncast (a := "java/lang/UnsupportedOperationException") (b := "java/lang/IllegalStateException") (hfl _ (sq_at 57 (by decide +kernel))) (hK 15 _ rfl).2.1 (hK 14 _ rfl).2.1).trans (decide_eq_false (by decide)).symm, List.forall_mem_cons.mpr ⟨(sm_cast (a := "java/lang/UnsupportedOperationException") (htb _ (sq_tb 1439 (by decide +kernel))) (hK 15 _ rfl).2.1).trans (decide_eq_true rfl).symm, List.forall_mem_cons.mpr ⟨(sm_ncast (a := "java/util/NoSuchElementException") (b := "java/lang/IllegalArgumentException") (hfl _ (sq_at 42 (by decide +kernel))) (hK 16 _ rfl).2.1 (hK 13 _ rfl).2.1).trans (decide_eq_false (by decide)).symm, List.forall_mem_cons.mpr ⟨(sm_cast (a := "java/util/NoSuchElementException") (htb _ (sq_tb 1478 (by decide +kernel))) (hK 16 _ rfl).2.1).trans (decide_eq_true rfl).symm, fun _ h => absurd h List.not_mem_nil⟩⟩⟩⟩⟩⟩⟩⟩⟩⟩⟩⟩⟩⟩⟩⟩⟩
end SQS
