/-! THE LAW'S THIRD CASE: sample's answers are constants -/
section WOP
variable {P : Nat → Option sm_M} {PW : Nat → Option sm_MW} {sk : ab_K} {h : sm_H}
theorem wo_path_ok {Q : Option Value → sm_H → Prop} {d m nl k : Nat} {tab : List (Option sm_I)} {al : List (Nat × Nat × Nat × Nat × Nat)} (hM : PW m = some ((nl, k, tab), al)) (hP : mx_Sp sk h) : ∀ (n : Nat) (bs : List Nat) (pc : Nat) (ls : sm_L) (st : List Value) (O : List mx_U) (R : mo_R), mo_path tab sk h n bs pc ls st O = some R → mx_oO sk O → ab_Sh sk (mx_ap O h) → (∀ p ∈ R.2.2.2.2, p) → (ab_Sh sk (mx_ap R.2.2.2.1 h) → mx_oO sk R.2.2.2.1 → wb_Ends P PW d m R.1 R.2.1 R.2.2.1 (mx_ap R.2.2.2.1 h) Q) → wb_Ends P PW d m pc ls st (mx_ap O h) Q := by
  intro n
  induction n with
  | zero =>
    intro bs pc ls st O R hp hO hS ho hk
    simp only [mo_path] at hp
    cases hp
    exact hk hS hO
  | succ n ih =>
    intro bs pc ls st O R hp hO hS ho hk
    simp only [mo_path] at hp
    split at hp
    · next q hq =>
      split at hp
      · next pc' ls' st' O' ob hs =>
        split at hp
        · next pc2 ls2 st2 O2 ob2 hp2 =>
          cases hp
          have ho1 : ∀ p ∈ ob, p := fun p hm => ho p (List.mem_append_left _ hm)
          have ho2 : ∀ p ∈ ob2, p := fun p hm => ho p (List.mem_append_right _ hm)
          obtain ⟨e1, e2, e3⟩ := mo_step_ok hs hP hO hS ho1
          exact wb_Ends.step (M := ((nl, k, tab), al)) hM hq e1 (ih _ _ _ _ _ _ hp2 e3 e2 ho2 hk)
        · cases hp
      · cases hp
    · cases hp
theorem lo_path_ok {QL : sm_H → Prop} {d : Nat} {tab : List (Option sm_I)} (hP : mx_Sp sk h) : ∀ (n : Nat) (bs : List Nat) (pc : Nat) (ls : sm_L) (st : List Value) (O : List mx_U) (R : mo_R), mo_path tab sk h n bs pc ls st O = some R → mx_oO sk O → ab_Sh sk (mx_ap O h) → (∀ p ∈ R.2.2.2.2, p) → (ab_Sh sk (mx_ap R.2.2.2.1 h) → mx_oO sk R.2.2.2.1 → lb_Ends P PW tab d R.1 R.2.1 R.2.2.1 (mx_ap R.2.2.2.1 h) QL) → lb_Ends P PW tab d pc ls st (mx_ap O h) QL := by
  intro n
  induction n with
  | zero =>
    intro bs pc ls st O R hp hO hS ho hk
    simp only [mo_path] at hp
    cases hp
    exact hk hS hO
  | succ n ih =>
    intro bs pc ls st O R hp hO hS ho hk
    simp only [mo_path] at hp
    split at hp
    · next q hq =>
      split at hp
      · next pc' ls' st' O' ob hs =>
        split at hp
        · next pc2 ls2 st2 O2 ob2 hp2 =>
          cases hp
          have ho1 : ∀ p ∈ ob, p := fun p hm => ho p (List.mem_append_left _ hm)
          have ho2 : ∀ p ∈ ob2, p := fun p hm => ho p (List.mem_append_right _ hm)
          obtain ⟨e1, e2, e3⟩ := mo_step_ok hs hP hO hS ho1
          exact lb_Ends.step hq e1 (ih _ _ _ _ _ _ hp2 e3 e2 ho2 hk)
        · cases hp
      · cases hp
    · cases hp
end WOP
/-- a cell that is not written -/
theorem lj_cell {wr : List (Nat × Nat)} {h h' : sm_H} {k : Nat} {x : Nat × vp_A} (hF : ab_Fr wr h h') (hk : h[k]? = some (.inl x)) (hn : ab_in wr (k * 128) = false) : h'[k]? = some (.inl x) := hF.2.2 k _ hk hn
section C2
variable {MJ : sm_H → Prop} {L : Nat} {xs : Nat → Int32}
/-- the law's array: what lies in it -/
theorem c2_out {h : sm_H} (hS : ab_Sh sx_sk h) : ∃ f, h[171]? = some (.inl (1, 1, .inr (.inl f))) := by
  obtain ⟨f, e, -⟩ := mx_arrL (a := 171) (n := 1) (lo := -9223372036854775808) (hi := 9223372036854775807) (ex := []) hS rfl
  exact ⟨f, e⟩
set_option maxRecDepth 20000 in
theorem c2_wseg (h : sm_H) (r : Int32) (p : Int32) (a3 : Option Value) : mo_path sw_2 sx_sk h 4 [] 7 [some (.ref 51), some (.int p), some (.ref 171), a3] [.int r, .int (Int32.ofInt 0), .ref 171] [] = some (16, [some (.ref 51), some (.int p), some (.ref 171), a3], [.int (Int32.ofInt 0)], [.inr (.inr (171, Int32.toNatClampNeg (Int32.ofInt 0), r.toInt64))], [0 ≤ (Int32.ofInt 0).toInt ∧ (Int32.ofInt 0).toInt < ((1 : Nat) : Int), (-9223372036854775808) ≤ r.toInt64.toInt ∧ r.toInt64.toInt ≤ 9223372036854775807]) := rfl
theorem c2_Fr {h : sm_H} {f : Nat → Int64} {y : Int64} (e : h[171]? = some (.inl (1, 1, .inr (.inl f)))) : ab_Fr [(21888, 21889)] h (mx_pb h 171 0 y) ∧ (mx_pb h 171 0 y)[171]? = some (.inl (1, 1, .inr (.inl (vp_updL f 0 y)))) := by
  have e2 : mx_pb h 171 0 y = h.set 171 (.inl (1, 1, .inr (.inl (vp_updL f 0 y)))) := by
    unfold mx_pb
    rw [e]
  rw [e2]
  exact ⟨ab_Fr_arr e rfl (by decide), List.getElem?_set_self (List.getElem?_eq_some_iff.mp e).1⟩
set_option maxRecDepth 20000 in
/-- the law's sample, where the class answers z -/
theorem c2_wrap {p : Int32} {h : sm_H} {z : Int32} {c : ab_C} (hI : mj_I MJ) (hc : ab_Ok sc_P sx_sk c) (hcm : c.1 = 98) (ha : ab_nvs c.2.1 [.ref 51, .int p]) (hpre : c.2.2.1 = []) (hwr : ab_sub_wr c.2.2.2.2.1 mj_wr = true) (hd : c.2.2.2.2.2 ≤ 3) (hpost : ∀ q ∈ c.2.2.2.1, q.1 = (1, z.toInt, z.toInt, [])) (hSh : ab_Sh sx_sk h) (hJ : lj_J MJ L xs h) :
    wb_Ends sc_P sc_PW 4 2002 0 (sm_entry 4 [.ref 51, .int p, .ref 171]) [] h (fun v h' => v = some (.int 0) ∧ ab_Sh sx_sk h' ∧ lj_J MJ L xs h' ∧ h'.length = h.length ∧ sm_sl h' = sm_sl h ∧ ∃ f, h'[171]? = some (.inl (1, 1, .inr (.inl f))) ∧ f 0 = z.toInt64) := by
  have hM : sc_PW 2002 = some ((4, 1, sw_2), sw_h2) := rfl
  refine wb_Ends.step hM (q := (.aload_n 2, 1, [])) rfl rfl ?_
  refine wb_Ends.step hM (q := (.iconst 0, 1, [])) rfl rfl ?_
  refine wb_Ends.step hM (q := (.aload_n 0, 1, [])) rfl rfl ?_
  refine wb_Ends.step hM (q := (.iload_n 1, 1, [])) rfl rfl ?_
  obtain ⟨fs, ho, -, -⟩ := mx_obj (a := 51) (ci := 0) (fl := [(2, 52, 0), (2, 54, 0), (2, 56, 0), (2, 58, 0), (2, 60, 0), (2, 76, 0), (2, 78, 0), (2, 93, 0), (2, 94, 0), (2, 98, 0), (2, 102, 0), (2, 106, 0), (2, 107, 0), (2, 108, 0), (0, 0, 1), (0, 0, 1)]) hSh rfl
  have hok := hc h [.ref 51, .int p] (2, 1, sb_98) (by rw [hcm]; rfl) hSh ha (by rw [hpre]; exact fun e he => absurd he List.not_mem_nil)
  rw [hcm] at hok
  refine wb_Ends.call (q := (.invokevirtual 19, 3, [0, 1, 0, 98])) (M' := (2, 1, sb_98)) (QT := fun _ _ => False) (m' := 98) (as := [.ref 51, .int p]) (r := [.int (Int32.ofInt 0), .ref 171]) hM rfl ?_ rfl (Nat.le_refl 2) (by simp [Value.category]) (Or.inl (hok.deep hd)) (fun v h1 hp => ?_) (fun _ _ hf => hf.elim)
  · simp only [sm_step, sm_callV, sm_args]
    show (match h[51]? with
      | some (.inr (ci, _)) => match sm_pick ci [0, 98] with
        | some m => sm_call m (.ref 51 :: [.int p]) [.int (Int32.ofInt 0), .ref 171]
        | none => none
      | _ => none) = _
    rw [ho]
    rfl
  · obtain ⟨p1, p2, q, qm, qr, -⟩ := hp
    have hq1 := hpost q qm
    unfold ab_res at qr
    rw [if_neg (by decide), hq1] at qr
    obtain ⟨r, er, r1, r2, -⟩ := ab_kd1 (qr.1 (fun e => by cases e)) rfl
    have e0 : r = z := Int32.toInt_inj.mp (by
      have a1 : z.toInt ≤ r.toInt := r1
      have a2 : r.toInt ≤ z.toInt := r2
      omega)
    subst er
    subst e0
    have hJ1 := lj_fr hI hJ hwr p2
    obtain ⟨f, hf⟩ := c2_out p1
    obtain ⟨f1, f2⟩ := c2_Fr (y := r.toInt64) hf
    refine wo_path_ok (h := h1) hM (mx_Sh_Sp p1) 4 [] 7 _ _ [] _ (c2_wseg h1 r p none) (fun u hu => absurd hu List.not_mem_nil) p1 ?_ (fun hS2 _ => ?_)
    · intro q hq
      simp only [List.mem_cons, List.not_mem_nil, or_false] at hq
      rcases hq with rfl | rfl
      · exact ⟨by decide, by decide⟩
      · exact ⟨r.toInt64.le_toInt, Int.le_of_lt_add_one r.toInt64.toInt_lt⟩
    · refine wb_Ends.ret (q := (.ireturn, 1, [])) (v := some (.int 0)) hM rfl rfl rfl ?_
      have hJ2 := lj_fr (wr := [(21888, 21889)]) hI hJ1 (by decide) f1
      exact ⟨rfl, hS2, hJ2, by show (mx_pb h1 171 0 r.toInt64).length = _; rw [f1.1, p2.1], by show sm_sl (mx_pb h1 171 0 r.toInt64) = _; rw [f1.2.1, p2.2.1], _, f2, by unfold vp_updL; exact if_pos rfl⟩
end C2
