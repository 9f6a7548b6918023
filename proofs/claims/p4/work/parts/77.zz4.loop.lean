/-! THE LAW'S THIRD CASE, and its loop -/
def xl_ls (x : Int32) (a b c : Option Value) : sm_L := [some (.ref 0), some (.ref 51), some (.ref 109), some (.ref 171), some (.int x), a, b, c]
section C3
variable {MJ : sm_H → Prop} {L : Nat} {xs : Nat → Int32} {QL : sm_H → Prop}
theorem lj_load {h : sm_H} {pc : Nat} {i : Int32} {s : List Value} {ls : sm_L} (hJ : lj_J MJ L xs h) (hi : 0 ≤ i.toInt ∧ i.toInt < (L : Int)) : sm_step (.iaload, 1, []) pc ls (.int i :: .ref 0 :: s) h = some (.inl (pc + 1, ls, .int (xs i.toNatClampNeg) :: s, h)) := by
  have h1 := mx_ix hi
  simp only [sm_step, sm_ald]
  rw [hJ.2.2]
  dsimp only
  rw [if_pos ⟨rfl, h1.1, Or.inr (Or.inl trivial)⟩]
  rfl
theorem lj_add {x : Int32} {c : Int} (hc : 0 ≤ c ∧ c ≤ 4) (hx : 0 ≤ x.toInt ∧ x.toInt + 4 ≤ (L : Int)) (hL : L ≤ 2048) : (x + Int32.ofInt c).toInt = x.toInt + c := by
  rw [Int32.toInt_add, Int32.toInt_ofInt_of_le (by omega) (by omega)]
  exact ab_bm (by omega) (by omega)
/-- a call on the reference by its class -/
theorem c3_virt {h : sm_H} {pc idx n m : Nat} {ls : sm_L} {vs r : List Value} {st : List Value} (hSh : ab_Sh sx_sk h) (ha : sm_args (n + 1) st = some (.ref 109 :: vs, r)) : sm_step (.invokevirtual idx, 3, [0, n, 11, m]) pc ls st h = some (.inr (.inr (m, .ref 109 :: vs, r))) := by
  have hk : ∃ fl, sx_sk[109]? = some (some (.inr (11, fl))) := ⟨_, rfl⟩
  obtain ⟨fl, hk⟩ := hk
  obtain ⟨fs, ho, -, -⟩ := mx_obj hSh hk
  simp only [sm_step, sm_callV]
  rw [ha]
  dsimp only
  rw [ho]
  rfl
set_option maxRecDepth 20000 in
set_option maxHeartbeats 1000000 in
theorem c3_rest {x p k : Int32} {a b c : Option Value} {h : sm_H} {rz : Int32} {cm : ab_C} {C S : Nat} (hI : mj_I MJ) (hL : L ≤ 2048) (hx : 0 ≤ x.toInt ∧ x.toInt + 4 ≤ (L : Int)) (hp : xs (x + Int32.ofInt 1).toNatClampNeg = p) (hSh : ab_Sh sx_sk h) (hJ : lj_J MJ L xs h) (hC : h.length ≤ C) (hS : sm_sl h ≤ S)
    (hm : ab_Ok sc_P sx_sk cm) (hm1 : cm.1 = 173) (hma : ab_nvs cm.2.1 [.ref 109, .int p]) (hmp : cm.2.2.1 = []) (hmw : ab_sub_wr cm.2.2.2.2.1 [(13952, 13954), (14080, 14081)] = true) (hmd : cm.2.2.2.2.2 ≤ 100) (hmq : ∀ q ∈ cm.2.2.2.1, q.1 = (1, rz.toInt, rz.toInt, []) ∧ q.2 = [(13952, (1, k.toInt, k.toInt, []))])
    (ht : ab_Ok sc_P sx_sk (170, [(3, 109, 0, [])], [(13952, (1, k.toInt, k.toInt, []))], [((1, k.toInt, k.toInt, []), [])], [], 0)) (hk01 : k = 0 ∨ k = 1)
    (hout : k = 0 → ∃ f, h[171]? = some (.inl (1, 1, .inr (.inl f))) ∧ f 0 = rz.toInt64)
    (kk : ∀ (a b c : Option Value) (h' : sm_H), ab_Sh sx_sk h' → lj_J MJ L xs h' → h'.length ≤ C → sm_sl h' ≤ S → lb_Ends sc_P sc_PW sl_tab 300 602 (xl_ls x a b c) [] h' QL) : lb_Ends sc_P sc_PW sl_tab 300 193 (xl_ls x a b c) [.int k] h QL := by
  have e1 := lj_add (c := 1) (by decide) hx hL
  refine lb_Ends.step (q := (.istore 5, 2, [])) (ls' := xl_ls x (some (.int k)) b c) rfl rfl ?_
  refine lb_Ends.step (q := (.aload_n 2, 1, [])) rfl rfl ?_
  refine lb_Ends.step (q := (.aload_n 0, 1, [])) rfl rfl ?_
  refine lb_Ends.step (q := (.iload 4, 2, [])) rfl rfl ?_
  refine lb_Ends.step (q := (.iconst 1, 1, [])) rfl rfl ?_
  refine lb_Ends.step (q := (.iadd, 1, [])) rfl rfl ?_
  have e1a : 0 ≤ (x + Int32.ofInt 1).toInt := by omega
  have e1b : (x + Int32.ofInt 1).toInt < (L : Int) := by omega
  refine lb_Ends.step (q := (.iaload, 1, [])) rfl (lj_load (i := x + Int32.ofInt 1) hJ ⟨e1a, e1b⟩) ?_
  rw [hp]
  have hok := hm h [.ref 109, .int p] (2, 1, sb_173) (by rw [hm1]; rfl) hSh hma (by rw [hmp]; exact fun e he => absurd he List.not_mem_nil)
  rw [hm1] at hok
  refine lb_Ends.callP (q := (.invokevirtual 75, 3, [0, 1, 11, 173])) (M' := (2, 1, sb_173)) rfl (c3_virt hSh rfl) rfl rfl (Nat.le_refl 2) (by simp) (hok.deep (by omega)) fun v h1 hpst => ?_
  obtain ⟨p1, p2, q, qm, qr, qh⟩ := hpst
  obtain ⟨q1, q2⟩ := hmq q qm
  unfold ab_res at qr
  rw [if_neg (by decide), q1] at qr
  obtain ⟨r, er, r1, r2, -⟩ := ab_kd1 (qr.1 (fun e => by cases e)) rfl
  have e0 : r = rz := Int32.toInt_inj.mp (by
    have a1 : rz.toInt ≤ r.toInt := r1
    have a2 : r.toInt ≤ rz.toInt := r2
    omega)
  subst er
  subst e0
  have hw : ∀ c, ab_in cm.2.2.2.2.1 c = true → ab_in [(13952, 13954), (14080, 14081)] c = true := fun c hc => ab_swr_ok hmw hc
  have p2' := p2.wide hw
  have hJ1 := lj_fr (wr := [(13952, 13954), (14080, 14081)]) hI hJ (by decide) p2'
  rw [q2] at qh
  refine lb_Ends.step (q := (.istore 6, 2, [])) (ls' := xl_ls x (some (.int k)) (some (.int r)) c) rfl rfl ?_
  refine lb_Ends.step (q := (.aload_n 2, 1, [])) rfl rfl ?_
  have hok2 := ht h1 [.ref 109] (1, 1, sb_170) (show sc_P 170 = _ from rfl) p1 ⟨rfl, trivial⟩ qh
  refine lb_Ends.callP (q := (.invokevirtual 76, 3, [0, 0, 11, 170])) (M' := (1, 1, sb_170)) rfl (c3_virt p1 rfl) rfl rfl (by decide) (by simp) (hok2.deep (Nat.zero_le _)) fun v h2 hpst => ?_
  obtain ⟨t1, t2, q, qm, qr, -⟩ := hpst
  rw [List.mem_singleton.mp qm] at qr
  unfold ab_res at qr
  rw [if_neg (by decide)] at qr
  obtain ⟨y, ey, y1, y2, -⟩ := ab_kd1 (qr.1 (fun e => by cases e)) rfl
  have e3 : y = k := Int32.toInt_inj.mp (by
    have a1 : k.toInt ≤ y.toInt := y1
    have a2 : y.toInt ≤ k.toInt := y2
    omega)
  subst ey
  subst e3
  have hJ2 := lj_fr (wr := []) hI hJ1 (by decide) t2
  have hfin : lb_Ends sc_P sc_PW sl_tab 300 235 (xl_ls x (some (.int y)) (some (.int r)) c) [] h2 QL := by
    refine lb_Ends.step (q := (.goto 367, 3, [])) rfl rfl ?_
    exact kk _ _ _ h2 t1 hJ2 (by rw [t2.1, p2.1]; exact hC) (by rw [t2.2.1, p2.2.1]; exact hS)
  refine lb_Ends.step (q := (.iload 5, 2, [])) rfl rfl ?_
  refine lb_Ends.step (q := (.if_icmp .eq 5, 3, [])) (pc' := 218) (ls' := xl_ls x (some (.int y)) (some (.int r)) c) (st' := []) (h' := h2) rfl ?_ ?_
  · simp only [sm_step, sm_back, sm_if, sm_cmp, decide_true, if_true]
    rfl
  refine lb_Ends.step (q := (.iload 5, 2, [])) rfl rfl ?_
  rcases hk01 with rfl | rfl
  · refine lb_Ends.step (q := (.ifCond .ne 15, 3, [])) rfl rfl ?_
    obtain ⟨f, f1, f2⟩ := hout rfl
    have g1 := lj_cell p2' f1 (by decide)
    have g2 := lj_cell t2 g1 (by decide)
    refine lb_Ends.step (q := (.aload_n 3, 1, [])) rfl rfl ?_
    refine lb_Ends.step (q := (.iconst 0, 1, [])) rfl rfl ?_
    refine lb_Ends.step (q := (.laload, 1, [])) (pc' := 226) (ls' := xl_ls x (some (.int 0)) (some (.int r)) c) (st' := [.long r.toInt64]) (h' := h2) rfl ?_ ?_
    · simp only [sm_step, sm_aldL]
      rw [g2]
      dsimp only
      rw [if_pos ⟨rfl, by decide, by decide⟩]
      show some (Sum.inl (226, _, [Value.long (f 0)], h2)) = _
      rw [f2]
    refine lb_Ends.step (q := (.iload 6, 2, [])) rfl rfl ?_
    refine lb_Ends.step (q := (.i2l, 1, [])) rfl rfl ?_
    refine lb_Ends.step (q := (.lcmp, 1, [])) rfl rfl ?_
    have ec : lg_cmp r.toInt64 r.toInt64 = 0 := by
      unfold lg_cmp
      rw [if_neg (by rw [gt_iff_lt, Int64.lt_iff_toInt_lt]; omega), if_pos rfl]
    rw [ec]
    refine lb_Ends.step (q := (.ifCond .eq 5, 3, [])) rfl rfl ?_
    exact hfin
  · refine lb_Ends.step (q := (.ifCond .ne 15, 3, [])) rfl rfl ?_
    exact hfin
end C3
