/-! the law's cases -/
section C9
variable {L : Nat} {xs : Nat → Int32} {QL : sm_H → Prop}
def l9_x (p q : Int32) : Int64 := (p.toInt64 <<< ((Int8.ofInt 32).toInt32.toInt64 &&& 63)) ||| (q.toInt64 &&& Int64.ofNat 4294967295)
set_option maxRecDepth 20000 in
set_option maxHeartbeats 2000000 in
theorem c9_0 {x : Int32} {a b c : Option Value} {h : sm_H} {C S : Nat} (hL : L ≤ 2048) (hx : 0 ≤ x.toInt ∧ x.toInt + 4 ≤ (L : Int)) (hSh : ab_Sh sx_sk h) (hJ : lj_J M9 L xs h) (hC : h.length + 1 ≤ C) (hS : sm_sl h + 6 ≤ S)
    (kk : ∀ (a b c : Option Value) (h' : sm_H), ab_Sh sx_sk h' → lj_J M9 L xs h' → h'.length ≤ C → sm_sl h' ≤ S → lb_Ends sc_P sc_PW sl_tab 300 574 (xl_ls x a b c) [] h' QL) : lb_Ends sc_P sc_PW sl_tab 300 112 (xl_ls x a b c) [] h QL := by
  have e1 := lj_add (c := 1) (by decide) hx hL
  have e1a : 0 ≤ (x + Int32.ofInt 1).toInt := by omega
  have e1b : (x + Int32.ofInt 1).toInt < (L : Int) := by omega
  obtain ⟨p1, hp1⟩ : ∃ p, xs (x + Int32.ofInt 1).toNatClampNeg = p := ⟨_, rfl⟩
  have e2 := lj_add (c := 2) (by decide) hx hL
  have e2a : 0 ≤ (x + Int32.ofInt 2).toInt := by omega
  have e2b : (x + Int32.ofInt 2).toInt < (L : Int) := by omega
  obtain ⟨p2, hp2⟩ : ∃ p, xs (x + Int32.ofInt 2).toNatClampNeg = p := ⟨_, rfl⟩
  refine lb_Ends.step (q := (.aload_n 1, 1, [])) rfl rfl ?_
  refine lb_Ends.step (q := (.aload_n 0, 1, [])) rfl rfl ?_
  refine lb_Ends.step (q := (.iload 4, 2, [])) rfl rfl ?_
  refine lb_Ends.step (q := (.iconst 1, 1, [])) rfl rfl ?_
  refine lb_Ends.step (q := (.iadd, 1, [])) rfl rfl ?_
  refine lb_Ends.step (q := (.iaload, 1, [])) rfl (lj_load (i := x + Int32.ofInt 1) hJ ⟨e1a, e1b⟩) ?_
  rw [hp1]
  refine lb_Ends.step (q := (.aload_n 0, 1, [])) rfl rfl ?_
  refine lb_Ends.step (q := (.iload 4, 2, [])) rfl rfl ?_
  refine lb_Ends.step (q := (.iconst 2, 1, [])) rfl rfl ?_
  refine lb_Ends.step (q := (.iadd, 1, [])) rfl rfl ?_
  refine lb_Ends.step (q := (.iaload, 1, [])) rfl (lj_load (i := x + Int32.ofInt 2) hJ ⟨e2a, e2b⟩) ?_
  rw [hp2]
  refine lb_Ends.step (q := (.i2c, 1, [])) rfl rfl ?_
  refine lb_Ends.step (q := (.aload_n 3, 1, [])) rfl rfl ?_
  obtain ⟨z0, z1⟩ := chr9_bd p2
  refine lb_Ends.callW (q := (.invokestatic 63, 3, [0, 2000, 4])) (M := ((5, 1, sw_0), sw_h0)) (as := [.ref 51, .int p1, .int (sm_chr p2), .ref 171]) rfl rfl rfl (by decide : (sm_slots [Value.ref 51, .int 0, .int 0, .ref 171]).length ≤ 5) (by simp) (wb_Ends.deep (we9_type (p := p1) z0 z1 hSh hJ) (by decide)) (fun v h1 hq => ?_)
  obtain ⟨k, y, rfl, hk4, ⟨g1, g2, g3, g4⟩, g5, hX⟩ := hq
  refine lb_Ends.step (q := (.istore 5, 2, [])) (ls' := xl_ls x (some (.int (Int32.ofInt k))) b c) rfl rfl ?_
  refine lb_Ends.step (q := (.aload_n 2, 1, [])) rfl rfl ?_
  refine lb_Ends.step (q := (.aload_n 0, 1, [])) rfl rfl ?_
  refine lb_Ends.step (q := (.iload 4, 2, [])) rfl rfl ?_
  refine lb_Ends.step (q := (.iconst 1, 1, [])) rfl rfl ?_
  refine lb_Ends.step (q := (.iadd, 1, [])) rfl rfl ?_
  refine lb_Ends.step (q := (.iaload, 1, [])) rfl (lj_load (i := x + Int32.ofInt 1) g2 ⟨e1a, e1b⟩) ?_
  rw [hp1]
  refine lb_Ends.step (q := (.aload_n 0, 1, [])) rfl rfl ?_
  refine lb_Ends.step (q := (.iload 4, 2, [])) rfl rfl ?_
  refine lb_Ends.step (q := (.iconst 2, 1, [])) rfl rfl ?_
  refine lb_Ends.step (q := (.iadd, 1, [])) rfl rfl ?_
  refine lb_Ends.step (q := (.iaload, 1, [])) rfl (lj_load (i := x + Int32.ofInt 2) g2 ⟨e2a, e2b⟩) ?_
  rw [hp2]
  refine lb_Ends.step (q := (.i2c, 1, [])) rfl rfl ?_
  refine lb_Ends.callP (q := (.invokevirtual 68, 3, [0, 2, 11, 171])) (M' := (3, 4, sb_171)) (as := [.ref 109, .int p1, .int (sm_chr p2)]) rfl (c3_virt g1 rfl) rfl rfl (by decide : (sm_slots [Value.ref 109, .int 0, .int 0]).length ≤ 3) (by simp) (ab_Ends.deep (wr9_type (p := p1) z0 z1 hSh hJ.1.2.2 g1 g2 hX) (by decide)) (fun v h2 hq => ?_)
  obtain ⟨w, rfl, m1, m2, m3, m4, m5, hY⟩ := hq
  obtain ⟨hk0, z, rfl, hzb, hkz⟩ := hY
  have hK : mi_f h2 13952 = k ∧ (k = 0 → z = y.toInt) := ⟨hk0, hkz⟩
  refine lb_Ends.step (q := (.istore 6, 2, [])) (ls' := xl_ls x (some (.int (Int32.ofInt k))) (some (.int (Int32.ofInt z))) c) rfl rfl ?_
  refine lb_Ends.step (q := (.goto 423, 3, [])) rfl rfl ?_
  exact kk _ _ _ h2 m1 m2 (by omega) (by omega)
set_option maxRecDepth 20000 in
set_option maxHeartbeats 2000000 in
theorem c9_1 {x : Int32} {a b c : Option Value} {h : sm_H} {C S : Nat} (hL : L ≤ 2048) (hx : 0 ≤ x.toInt ∧ x.toInt + 4 ≤ (L : Int)) (hSh : ab_Sh sx_sk h) (hJ : lj_J M9 L xs h) (hC : h.length + 1 ≤ C) (hS : sm_sl h + 6 ≤ S)
    (kk : ∀ (a b c : Option Value) (h' : sm_H), ab_Sh sx_sk h' → lj_J M9 L xs h' → h'.length ≤ C → sm_sl h' ≤ S → lb_Ends sc_P sc_PW sl_tab 300 574 (xl_ls x a b c) [] h' QL) : lb_Ends sc_P sc_PW sl_tab 300 154 (xl_ls x a b c) [] h QL := by
  have e1 := lj_add (c := 1) (by decide) hx hL
  have e1a : 0 ≤ (x + Int32.ofInt 1).toInt := by omega
  have e1b : (x + Int32.ofInt 1).toInt < (L : Int) := by omega
  obtain ⟨p1, hp1⟩ : ∃ p, xs (x + Int32.ofInt 1).toNatClampNeg = p := ⟨_, rfl⟩
  refine lb_Ends.step (q := (.aload_n 1, 1, [])) rfl rfl ?_
  refine lb_Ends.step (q := (.aload_n 0, 1, [])) rfl rfl ?_
  refine lb_Ends.step (q := (.iload 4, 2, [])) rfl rfl ?_
  refine lb_Ends.step (q := (.iconst 1, 1, [])) rfl rfl ?_
  refine lb_Ends.step (q := (.iadd, 1, [])) rfl rfl ?_
  refine lb_Ends.step (q := (.iaload, 1, [])) rfl (lj_load (i := x + Int32.ofInt 1) hJ ⟨e1a, e1b⟩) ?_
  rw [hp1]
  refine lb_Ends.step (q := (.aload_n 3, 1, [])) rfl rfl ?_
  refine lb_Ends.callW (q := (.invokestatic 69, 3, [0, 2001, 3])) (M := ((4, 1, sw_1), sw_h1)) (as := [.ref 51, .int p1, .ref 171]) rfl rfl rfl (by decide : (sm_slots [Value.ref 51, .int 0, .ref 171]).length ≤ 4) (by simp) (wb_Ends.deep (we9_clear (p := p1) hSh hJ) (by decide)) (fun v h1 hq => ?_)
  obtain ⟨k, y, rfl, hk4, ⟨g1, g2, g3, g4⟩, g5, hX⟩ := hq
  refine lb_Ends.step (q := (.istore 5, 2, [])) (ls' := xl_ls x (some (.int (Int32.ofInt k))) b c) rfl rfl ?_
  refine lb_Ends.step (q := (.aload_n 2, 1, [])) rfl rfl ?_
  refine lb_Ends.step (q := (.aload_n 0, 1, [])) rfl rfl ?_
  refine lb_Ends.step (q := (.iload 4, 2, [])) rfl rfl ?_
  refine lb_Ends.step (q := (.iconst 1, 1, [])) rfl rfl ?_
  refine lb_Ends.step (q := (.iadd, 1, [])) rfl rfl ?_
  refine lb_Ends.step (q := (.iaload, 1, [])) rfl (lj_load (i := x + Int32.ofInt 1) g2 ⟨e1a, e1b⟩) ?_
  rw [hp1]
  refine lb_Ends.callP (q := (.invokevirtual 72, 3, [0, 1, 11, 172])) (M' := (3, 1, sb_172)) (as := [.ref 109, .int p1]) rfl (c3_virt g1 rfl) rfl rfl (by decide : (sm_slots [Value.ref 109, .int 0]).length ≤ 3) (by simp) (ab_Ends.deep (wr9_clear (p := p1) hJ.1.2.2 g1 g2 hX) (by decide)) (fun v h2 hq => ?_)
  obtain ⟨w, rfl, m1, m2, m3, m4, m5, hY⟩ := hq
  obtain ⟨hk0, z, rfl, oz, hkz⟩ := hY
  have hK : mi_f h2 13952 = k ∧ (k = 0 → (Int32.ofInt z).toInt64 = y) := ⟨hk0, fun q => Int64.toInt_inj.mp (by rw [i2l_v oz]; exact hkz q)⟩
  refine lb_Ends.step (q := (.istore 6, 2, [])) (ls' := xl_ls x (some (.int (Int32.ofInt k))) (some (.int (Int32.ofInt z))) c) rfl rfl ?_
  refine lb_Ends.step (q := (.goto 395, 3, [])) rfl rfl ?_
  exact kk _ _ _ h2 m1 m2 (by omega) (by omega)
set_option maxRecDepth 20000 in
set_option maxHeartbeats 2000000 in
theorem c9_2 {x : Int32} {a b c : Option Value} {h : sm_H} {C S : Nat} (hL : L ≤ 2048) (hx : 0 ≤ x.toInt ∧ x.toInt + 4 ≤ (L : Int)) (hSh : ab_Sh sx_sk h) (hJ : lj_J M9 L xs h) (hC : h.length + 1 ≤ C) (hS : sm_sl h + 6 ≤ S)
    (kk : ∀ (a b c : Option Value) (h' : sm_H), ab_Sh sx_sk h' → lj_J M9 L xs h' → h'.length ≤ C → sm_sl h' ≤ S → lb_Ends sc_P sc_PW sl_tab 300 574 (xl_ls x a b c) [] h' QL) : lb_Ends sc_P sc_PW sl_tab 300 182 (xl_ls x a b c) [] h QL := by
  have e1 := lj_add (c := 1) (by decide) hx hL
  have e1a : 0 ≤ (x + Int32.ofInt 1).toInt := by omega
  have e1b : (x + Int32.ofInt 1).toInt < (L : Int) := by omega
  obtain ⟨p1, hp1⟩ : ∃ p, xs (x + Int32.ofInt 1).toNatClampNeg = p := ⟨_, rfl⟩
  refine lb_Ends.step (q := (.aload_n 1, 1, [])) rfl rfl ?_
  refine lb_Ends.step (q := (.aload_n 0, 1, [])) rfl rfl ?_
  refine lb_Ends.step (q := (.iload 4, 2, [])) rfl rfl ?_
  refine lb_Ends.step (q := (.iconst 1, 1, [])) rfl rfl ?_
  refine lb_Ends.step (q := (.iadd, 1, [])) rfl rfl ?_
  refine lb_Ends.step (q := (.iaload, 1, [])) rfl (lj_load (i := x + Int32.ofInt 1) hJ ⟨e1a, e1b⟩) ?_
  rw [hp1]
  refine lb_Ends.step (q := (.aload_n 3, 1, [])) rfl rfl ?_
  refine lb_Ends.callW (q := (.invokestatic 73, 3, [0, 2002, 3])) (M := ((4, 1, sw_2), sw_h2)) (as := [.ref 51, .int p1, .ref 171]) rfl rfl rfl (by decide : (sm_slots [Value.ref 51, .int 0, .ref 171]).length ≤ 4) (by simp) (wb_Ends.deep (we9_sample (p := p1) hSh hJ) (by decide)) (fun v h1 hq => ?_)
  obtain ⟨k, y, rfl, hk4, ⟨g1, g2, g3, g4⟩, g5, hX⟩ := hq
  refine lb_Ends.step (q := (.istore 5, 2, [])) (ls' := xl_ls x (some (.int (Int32.ofInt k))) b c) rfl rfl ?_
  refine lb_Ends.step (q := (.aload_n 2, 1, [])) rfl rfl ?_
  refine lb_Ends.step (q := (.aload_n 0, 1, [])) rfl rfl ?_
  refine lb_Ends.step (q := (.iload 4, 2, [])) rfl rfl ?_
  refine lb_Ends.step (q := (.iconst 1, 1, [])) rfl rfl ?_
  refine lb_Ends.step (q := (.iadd, 1, [])) rfl rfl ?_
  refine lb_Ends.step (q := (.iaload, 1, [])) rfl (lj_load (i := x + Int32.ofInt 1) g2 ⟨e1a, e1b⟩) ?_
  rw [hp1]
  refine lb_Ends.callP (q := (.invokevirtual 75, 3, [0, 1, 11, 173])) (M' := (2, 1, sb_173)) (as := [.ref 109, .int p1]) rfl (c3_virt g1 rfl) rfl rfl (by decide : (sm_slots [Value.ref 109, .int 0]).length ≤ 2) (by simp) (ab_Ends.deep (wr9_sample (p := p1) hJ.1.2.2 g1 g2 hX) (by decide)) (fun v h2 hq => ?_)
  obtain ⟨w, rfl, m1, m2, m3, m4, m5, hY⟩ := hq
  obtain ⟨z, rfl⟩ := hY
  refine lb_Ends.step (q := (.istore 6, 2, [])) (ls' := xl_ls x (some (.int (Int32.ofInt k))) (some (.int (Int32.ofInt z))) c) rfl rfl ?_
  refine lb_Ends.step (q := (.goto 367, 3, [])) rfl rfl ?_
  exact kk _ _ _ h2 m1 m2 (by omega) (by omega)
set_option maxRecDepth 20000 in
set_option maxHeartbeats 2000000 in
theorem c9_5 {x : Int32} {a b c : Option Value} {h : sm_H} {C S : Nat} (hL : L ≤ 2048) (hx : 0 ≤ x.toInt ∧ x.toInt + 4 ≤ (L : Int)) (hSh : ab_Sh sx_sk h) (hJ : lj_J M9 L xs h) (hC : h.length + 1 ≤ C) (hS : sm_sl h + 6 ≤ S)
    (kk : ∀ (a b c : Option Value) (h' : sm_H), ab_Sh sx_sk h' → lj_J M9 L xs h' → h'.length ≤ C → sm_sl h' ≤ S → lb_Ends sc_P sc_PW sl_tab 300 574 (xl_ls x a b c) [] h' QL) : lb_Ends sc_P sc_PW sl_tab 300 263 (xl_ls x a b c) [] h QL := by
  refine lb_Ends.step (q := (.aload_n 1, 1, [])) rfl rfl ?_
  refine lb_Ends.step (q := (.aload_n 3, 1, [])) rfl rfl ?_
  refine lb_Ends.callW (q := (.invokestatic 84, 3, [0, 2004, 2])) (M := ((3, 1, sw_4), sw_h4)) (as := [.ref 51, .ref 171]) rfl rfl rfl (by decide : (sm_slots [Value.ref 51, .ref 171]).length ≤ 3) (by simp) (wb_Ends.deep (we9_parse hSh hJ) (by decide)) (fun v h1 hq => ?_)
  obtain ⟨k, y, rfl, hk4, ⟨g1, g2, g3, g4⟩, g5, hX⟩ := hq
  refine lb_Ends.step (q := (.istore 5, 2, [])) (ls' := xl_ls x (some (.int (Int32.ofInt k))) b c) rfl rfl ?_
  refine lb_Ends.step (q := (.aload_n 2, 1, [])) rfl rfl ?_
  refine lb_Ends.callP (q := (.invokevirtual 87, 3, [0, 0, 11, 228])) (M' := (1, 1, sb_228)) (as := [.ref 109]) rfl (c3_virt g1 rfl) rfl rfl (by decide : (sm_slots [Value.ref 109]).length ≤ 1) (by simp) (ab_Ends.deep (wr9_parse hJ.1.2.2 g1 g2 hX) (by decide)) (fun v h2 hq => ?_)
  obtain ⟨w, rfl, m1, m2, m3, m4, m5, hY⟩ := hq
  obtain ⟨z, rfl⟩ := hY
  refine lb_Ends.step (q := (.istore 6, 2, [])) (ls' := xl_ls x (some (.int (Int32.ofInt k))) (some (.int (Int32.ofInt z))) c) rfl rfl ?_
  refine lb_Ends.step (q := (.goto 298, 3, [])) rfl rfl ?_
  exact kk _ _ _ h2 m1 m2 (by omega) (by omega)
set_option maxRecDepth 20000 in
set_option maxHeartbeats 2000000 in
theorem c9_6 {x : Int32} {a b c : Option Value} {h : sm_H} {C S : Nat} (hL : L ≤ 2048) (hx : 0 ≤ x.toInt ∧ x.toInt + 4 ≤ (L : Int)) (hSh : ab_Sh sx_sk h) (hJ : lj_J M9 L xs h) (hC : h.length + 1 ≤ C) (hS : sm_sl h + 6 ≤ S)
    (kk : ∀ (a b c : Option Value) (h' : sm_H), ab_Sh sx_sk h' → lj_J M9 L xs h' → h'.length ≤ C → sm_sl h' ≤ S → lb_Ends sc_P sc_PW sl_tab 300 574 (xl_ls x a b c) [] h' QL) : lb_Ends sc_P sc_PW sl_tab 300 279 (xl_ls x a b c) [] h QL := by
  have e1 := lj_add (c := 1) (by decide) hx hL
  have e1a : 0 ≤ (x + Int32.ofInt 1).toInt := by omega
  have e1b : (x + Int32.ofInt 1).toInt < (L : Int) := by omega
  obtain ⟨p1, hp1⟩ : ∃ p, xs (x + Int32.ofInt 1).toNatClampNeg = p := ⟨_, rfl⟩
  have e2 := lj_add (c := 2) (by decide) hx hL
  have e2a : 0 ≤ (x + Int32.ofInt 2).toInt := by omega
  have e2b : (x + Int32.ofInt 2).toInt < (L : Int) := by omega
  obtain ⟨p2, hp2⟩ : ∃ p, xs (x + Int32.ofInt 2).toNatClampNeg = p := ⟨_, rfl⟩
  have e3 := lj_add (c := 3) (by decide) hx hL
  have e3a : 0 ≤ (x + Int32.ofInt 3).toInt := by omega
  have e3b : (x + Int32.ofInt 3).toInt < (L : Int) := by omega
  obtain ⟨p3, hp3⟩ : ∃ p, xs (x + Int32.ofInt 3).toNatClampNeg = p := ⟨_, rfl⟩
  obtain ⟨zx, hzx⟩ : ∃ z, l9_x p1 p2 = z := ⟨_, rfl⟩
  refine lb_Ends.step (q := (.aload_n 1, 1, [])) rfl rfl ?_
  refine lb_Ends.step (q := (.aload_n 0, 1, [])) rfl rfl ?_
  refine lb_Ends.step (q := (.iload 4, 2, [])) rfl rfl ?_
  refine lb_Ends.step (q := (.iconst 1, 1, [])) rfl rfl ?_
  refine lb_Ends.step (q := (.iadd, 1, [])) rfl rfl ?_
  refine lb_Ends.step (q := (.iaload, 1, [])) rfl (lj_load (i := x + Int32.ofInt 1) hJ ⟨e1a, e1b⟩) ?_
  rw [hp1]
  refine lb_Ends.step (q := (.i2l, 1, [])) rfl rfl ?_
  refine lb_Ends.step (q := (.bipush 32, 2, [])) rfl rfl ?_
  refine lb_Ends.step (q := (.lshl, 1, [])) rfl rfl ?_
  refine lb_Ends.step (q := (.aload_n 0, 1, [])) rfl rfl ?_
  refine lb_Ends.step (q := (.iload 4, 2, [])) rfl rfl ?_
  refine lb_Ends.step (q := (.iconst 2, 1, [])) rfl rfl ?_
  refine lb_Ends.step (q := (.iadd, 1, [])) rfl rfl ?_
  refine lb_Ends.step (q := (.iaload, 1, [])) rfl (lj_load (i := x + Int32.ofInt 2) hJ ⟨e2a, e2b⟩) ?_
  rw [hp2]
  refine lb_Ends.step (q := (.i2l, 1, [])) rfl rfl ?_
  refine lb_Ends.step (q := (.ldc2_w 88, 3, [4294967295])) rfl rfl ?_
  refine lb_Ends.step (q := (.land, 1, [])) rfl rfl ?_
  refine lb_Ends.step (q := (.lor, 1, [])) (pc' := 302) (ls' := xl_ls x a b c) (st' := [.long (l9_x p1 p2), .ref 51]) (h' := h) rfl rfl ?_
  rw [hzx]
  refine lb_Ends.step (q := (.aload_n 0, 1, [])) rfl rfl ?_
  refine lb_Ends.step (q := (.iload 4, 2, [])) rfl rfl ?_
  refine lb_Ends.step (q := (.iconst 3, 1, [])) rfl rfl ?_
  refine lb_Ends.step (q := (.iadd, 1, [])) rfl rfl ?_
  refine lb_Ends.step (q := (.iaload, 1, [])) rfl (lj_load (i := x + Int32.ofInt 3) hJ ⟨e3a, e3b⟩) ?_
  rw [hp3]
  refine lb_Ends.step (q := (.aload_n 3, 1, [])) rfl rfl ?_
  refine lb_Ends.callW (q := (.invokestatic 90, 3, [0, 2005, 4])) (M := ((6, 1, sw_5), sw_h5)) (as := [.ref 51, .long zx, .int p3, .ref 171]) rfl rfl rfl (by decide : (sm_slots [Value.ref 51, .long 0, .int 0, .ref 171]).length ≤ 6) (by simp) (wb_Ends.deep (we9_grow (zx := zx) (f := p3) hSh hJ) (by decide)) (fun v h1 hq => ?_)
  obtain ⟨k, y, rfl, hk4, ⟨g1, g2, g3, g4⟩, g5, hX⟩ := hq
  refine lb_Ends.step (q := (.istore 5, 2, [])) (ls' := xl_ls x (some (.int (Int32.ofInt k))) b c) rfl rfl ?_
  refine lb_Ends.step (q := (.aload_n 2, 1, [])) rfl rfl ?_
  refine lb_Ends.step (q := (.aload_n 0, 1, [])) rfl rfl ?_
  refine lb_Ends.step (q := (.iload 4, 2, [])) rfl rfl ?_
  refine lb_Ends.step (q := (.iconst 1, 1, [])) rfl rfl ?_
  refine lb_Ends.step (q := (.iadd, 1, [])) rfl rfl ?_
  refine lb_Ends.step (q := (.iaload, 1, [])) rfl (lj_load (i := x + Int32.ofInt 1) g2 ⟨e1a, e1b⟩) ?_
  rw [hp1]
  refine lb_Ends.step (q := (.i2l, 1, [])) rfl rfl ?_
  refine lb_Ends.step (q := (.bipush 32, 2, [])) rfl rfl ?_
  refine lb_Ends.step (q := (.lshl, 1, [])) rfl rfl ?_
  refine lb_Ends.step (q := (.aload_n 0, 1, [])) rfl rfl ?_
  refine lb_Ends.step (q := (.iload 4, 2, [])) rfl rfl ?_
  refine lb_Ends.step (q := (.iconst 2, 1, [])) rfl rfl ?_
  refine lb_Ends.step (q := (.iadd, 1, [])) rfl rfl ?_
  refine lb_Ends.step (q := (.iaload, 1, [])) rfl (lj_load (i := x + Int32.ofInt 2) g2 ⟨e2a, e2b⟩) ?_
  rw [hp2]
  refine lb_Ends.step (q := (.i2l, 1, [])) rfl rfl ?_
  refine lb_Ends.step (q := (.ldc2_w 88, 3, [4294967295])) rfl rfl ?_
  refine lb_Ends.step (q := (.land, 1, [])) rfl rfl ?_
  refine lb_Ends.step (q := (.lor, 1, [])) (pc' := 337) (ls' := xl_ls x (some (.int (Int32.ofInt k))) b c) (st' := [.long (l9_x p1 p2), .ref 109]) (h' := h1) rfl rfl ?_
  rw [hzx]
  refine lb_Ends.step (q := (.aload_n 0, 1, [])) rfl rfl ?_
  refine lb_Ends.step (q := (.iload 4, 2, [])) rfl rfl ?_
  refine lb_Ends.step (q := (.iconst 3, 1, [])) rfl rfl ?_
  refine lb_Ends.step (q := (.iadd, 1, [])) rfl rfl ?_
  refine lb_Ends.step (q := (.iaload, 1, [])) rfl (lj_load (i := x + Int32.ofInt 3) g2 ⟨e3a, e3b⟩) ?_
  rw [hp3]
  refine lb_Ends.callP (q := (.invokevirtual 93, 3, [0, 2, 11, 232])) (M' := (4, 1, sb_232)) (as := [.ref 109, .long zx, .int p3]) rfl (c3_virt g1 rfl) rfl rfl (by decide : (sm_slots [Value.ref 109, .long 0, .int 0]).length ≤ 4) (by simp) (ab_Ends.deep (wr9_grow (zx := zx) (f := p3) hJ.1.2.2 g1 g2 hX) (by decide)) (fun v h2 hq => ?_)
  obtain ⟨w, rfl, m1, m2, m3, m4, m5, hY⟩ := hq
  obtain ⟨z, rfl⟩ := hY
  refine lb_Ends.step (q := (.istore 6, 2, [])) (ls' := xl_ls x (some (.int (Int32.ofInt k))) (some (.int (Int32.ofInt z))) c) rfl rfl ?_
  refine lb_Ends.step (q := (.goto 226, 3, [])) rfl rfl ?_
  exact kk _ _ _ h2 m1 m2 (by omega) (by omega)
set_option maxRecDepth 20000 in
set_option maxHeartbeats 2000000 in
theorem c9_7 {x : Int32} {a b c : Option Value} {h : sm_H} {C S : Nat} (hL : L ≤ 2048) (hx : 0 ≤ x.toInt ∧ x.toInt + 4 ≤ (L : Int)) (hSh : ab_Sh sx_sk h) (hJ : lj_J M9 L xs h) (hC : h.length + 1 ≤ C) (hS : sm_sl h + 6 ≤ S)
    (kk : ∀ (a b c : Option Value) (h' : sm_H), ab_Sh sx_sk h' → lj_J M9 L xs h' → h'.length ≤ C → sm_sl h' ≤ S → lb_Ends sc_P sc_PW sl_tab 300 574 (xl_ls x a b c) [] h' QL) : lb_Ends sc_P sc_PW sl_tab 300 351 (xl_ls x a b c) [] h QL := by
  have e1 := lj_add (c := 1) (by decide) hx hL
  have e1a : 0 ≤ (x + Int32.ofInt 1).toInt := by omega
  have e1b : (x + Int32.ofInt 1).toInt < (L : Int) := by omega
  obtain ⟨p1, hp1⟩ : ∃ p, xs (x + Int32.ofInt 1).toNatClampNeg = p := ⟨_, rfl⟩
  have e2 := lj_add (c := 2) (by decide) hx hL
  have e2a : 0 ≤ (x + Int32.ofInt 2).toInt := by omega
  have e2b : (x + Int32.ofInt 2).toInt < (L : Int) := by omega
  obtain ⟨p2, hp2⟩ : ∃ p, xs (x + Int32.ofInt 2).toNatClampNeg = p := ⟨_, rfl⟩
  refine lb_Ends.step (q := (.aload_n 1, 1, [])) rfl rfl ?_
  refine lb_Ends.step (q := (.aload_n 0, 1, [])) rfl rfl ?_
  refine lb_Ends.step (q := (.iload 4, 2, [])) rfl rfl ?_
  refine lb_Ends.step (q := (.iconst 1, 1, [])) rfl rfl ?_
  refine lb_Ends.step (q := (.iadd, 1, [])) rfl rfl ?_
  refine lb_Ends.step (q := (.iaload, 1, [])) rfl (lj_load (i := x + Int32.ofInt 1) hJ ⟨e1a, e1b⟩) ?_
  rw [hp1]
  refine lb_Ends.step (q := (.aload_n 0, 1, [])) rfl rfl ?_
  refine lb_Ends.step (q := (.iload 4, 2, [])) rfl rfl ?_
  refine lb_Ends.step (q := (.iconst 2, 1, [])) rfl rfl ?_
  refine lb_Ends.step (q := (.iadd, 1, [])) rfl rfl ?_
  refine lb_Ends.step (q := (.iaload, 1, [])) rfl (lj_load (i := x + Int32.ofInt 2) hJ ⟨e2a, e2b⟩) ?_
  rw [hp2]
  refine lb_Ends.step (q := (.aload_n 3, 1, [])) rfl rfl ?_
  obtain ⟨TT, hTT⟩ := hJ.1.2.2.2.2.2.2.1
  refine lb_Ends.callW (q := (.invokestatic 94, 3, [0, 2006, 4])) (M := ((5, 1, sw_6), sw_h6)) (as := [.ref 51, .int p1, .int p2, .ref 171]) rfl rfl rfl (by decide : (sm_slots [Value.ref 51, .int 0, .int 0, .ref 171]).length ≤ 5) (by simp) (wb_Ends.deep (we9_node (p := p1) (q := p2) hSh hJ hTT) (by decide)) (fun v h1 hq => ?_)
  obtain ⟨k, y, rfl, hk4, ⟨g1, g2, g3, g4⟩, g5, hX⟩ := hq
  refine lb_Ends.step (q := (.istore 5, 2, [])) (ls' := xl_ls x (some (.int (Int32.ofInt k))) b c) rfl rfl ?_
  refine lb_Ends.step (q := (.aload_n 2, 1, [])) rfl rfl ?_
  refine lb_Ends.step (q := (.aload_n 0, 1, [])) rfl rfl ?_
  refine lb_Ends.step (q := (.iload 4, 2, [])) rfl rfl ?_
  refine lb_Ends.step (q := (.iconst 1, 1, [])) rfl rfl ?_
  refine lb_Ends.step (q := (.iadd, 1, [])) rfl rfl ?_
  refine lb_Ends.step (q := (.iaload, 1, [])) rfl (lj_load (i := x + Int32.ofInt 1) g2 ⟨e1a, e1b⟩) ?_
  rw [hp1]
  refine lb_Ends.step (q := (.aload_n 0, 1, [])) rfl rfl ?_
  refine lb_Ends.step (q := (.iload 4, 2, [])) rfl rfl ?_
  refine lb_Ends.step (q := (.iconst 2, 1, [])) rfl rfl ?_
  refine lb_Ends.step (q := (.iadd, 1, [])) rfl rfl ?_
  refine lb_Ends.step (q := (.iaload, 1, [])) rfl (lj_load (i := x + Int32.ofInt 2) g2 ⟨e2a, e2b⟩) ?_
  rw [hp2]
  refine lb_Ends.callP (q := (.invokevirtual 96, 3, [0, 2, 11, 233])) (M' := (4, 2, sb_233)) (as := [.ref 109, .int p1, .int p2]) rfl (c3_virt g1 rfl) rfl rfl (by decide : (sm_slots [Value.ref 109, .int 0, .int 0]).length ≤ 4) (by simp) (ab_Ends.deep (wr9_node (p := p1) (q := p2) hJ.1.2.2 hTT g1 g2 hX) (by decide)) (fun v h2 hq => ?_)
  obtain ⟨w, rfl, m1, m2, m3, m4, m5, hY⟩ := hq
  obtain ⟨hk0, y2, rfl, hky⟩ := hY
  have hK : mi_f h2 13952 = k ∧ (k = 0 → y2 = y) := ⟨hk0, hky⟩
  refine lb_Ends.step (q := (.lstore 6, 2, [])) (ls' := xl_ls x (some (.int (Int32.ofInt k))) (some (.long y2)) none) rfl rfl ?_
  refine lb_Ends.step (q := (.goto 186, 3, [])) rfl rfl ?_
  exact kk _ _ _ h2 m1 m2 (by omega) (by omega)
set_option maxRecDepth 20000 in
set_option maxHeartbeats 2000000 in
theorem c9_8 {x : Int32} {a b c : Option Value} {h : sm_H} {C S : Nat} (hL : L ≤ 2048) (hx : 0 ≤ x.toInt ∧ x.toInt + 4 ≤ (L : Int)) (hSh : ab_Sh sx_sk h) (hJ : lj_J M9 L xs h) (hC : h.length + 1 ≤ C) (hS : sm_sl h + 6 ≤ S)
    (kk : ∀ (a b c : Option Value) (h' : sm_H), ab_Sh sx_sk h' → lj_J M9 L xs h' → h'.length ≤ C → sm_sl h' ≤ S → lb_Ends sc_P sc_PW sl_tab 300 574 (xl_ls x a b c) [] h' QL) : lb_Ends sc_P sc_PW sl_tab 300 391 (xl_ls x a b c) [] h QL := by
  have e1 := lj_add (c := 1) (by decide) hx hL
  have e1a : 0 ≤ (x + Int32.ofInt 1).toInt := by omega
  have e1b : (x + Int32.ofInt 1).toInt < (L : Int) := by omega
  obtain ⟨p1, hp1⟩ : ∃ p, xs (x + Int32.ofInt 1).toNatClampNeg = p := ⟨_, rfl⟩
  have e2 := lj_add (c := 2) (by decide) hx hL
  have e2a : 0 ≤ (x + Int32.ofInt 2).toInt := by omega
  have e2b : (x + Int32.ofInt 2).toInt < (L : Int) := by omega
  obtain ⟨p2, hp2⟩ : ∃ p, xs (x + Int32.ofInt 2).toNatClampNeg = p := ⟨_, rfl⟩
  have e3 := lj_add (c := 3) (by decide) hx hL
  have e3a : 0 ≤ (x + Int32.ofInt 3).toInt := by omega
  have e3b : (x + Int32.ofInt 3).toInt < (L : Int) := by omega
  obtain ⟨p3, hp3⟩ : ∃ p, xs (x + Int32.ofInt 3).toNatClampNeg = p := ⟨_, rfl⟩
  obtain ⟨zx, hzx⟩ : ∃ z, l9_x p2 p3 = z := ⟨_, rfl⟩
  refine lb_Ends.step (q := (.aload_n 1, 1, [])) rfl rfl ?_
  refine lb_Ends.step (q := (.aload_n 0, 1, [])) rfl rfl ?_
  refine lb_Ends.step (q := (.iload 4, 2, [])) rfl rfl ?_
  refine lb_Ends.step (q := (.iconst 1, 1, [])) rfl rfl ?_
  refine lb_Ends.step (q := (.iadd, 1, [])) rfl rfl ?_
  refine lb_Ends.step (q := (.iaload, 1, [])) rfl (lj_load (i := x + Int32.ofInt 1) hJ ⟨e1a, e1b⟩) ?_
  rw [hp1]
  refine lb_Ends.step (q := (.aload_n 0, 1, [])) rfl rfl ?_
  refine lb_Ends.step (q := (.iload 4, 2, [])) rfl rfl ?_
  refine lb_Ends.step (q := (.iconst 2, 1, [])) rfl rfl ?_
  refine lb_Ends.step (q := (.iadd, 1, [])) rfl rfl ?_
  refine lb_Ends.step (q := (.iaload, 1, [])) rfl (lj_load (i := x + Int32.ofInt 2) hJ ⟨e2a, e2b⟩) ?_
  rw [hp2]
  refine lb_Ends.step (q := (.i2l, 1, [])) rfl rfl ?_
  refine lb_Ends.step (q := (.bipush 32, 2, [])) rfl rfl ?_
  refine lb_Ends.step (q := (.lshl, 1, [])) rfl rfl ?_
  refine lb_Ends.step (q := (.aload_n 0, 1, [])) rfl rfl ?_
  refine lb_Ends.step (q := (.iload 4, 2, [])) rfl rfl ?_
  refine lb_Ends.step (q := (.iconst 3, 1, [])) rfl rfl ?_
  refine lb_Ends.step (q := (.iadd, 1, [])) rfl rfl ?_
  refine lb_Ends.step (q := (.iaload, 1, [])) rfl (lj_load (i := x + Int32.ofInt 3) hJ ⟨e3a, e3b⟩) ?_
  rw [hp3]
  refine lb_Ends.step (q := (.i2l, 1, [])) rfl rfl ?_
  refine lb_Ends.step (q := (.ldc2_w 88, 3, [4294967295])) rfl rfl ?_
  refine lb_Ends.step (q := (.land, 1, [])) rfl rfl ?_
  refine lb_Ends.step (q := (.lor, 1, [])) (pc' := 420) (ls' := xl_ls x a b c) (st' := [.long (l9_x p2 p3), .int p1, .ref 51]) (h' := h) rfl rfl ?_
  rw [hzx]
  refine lb_Ends.step (q := (.aload_n 3, 1, [])) rfl rfl ?_
  obtain ⟨TT, hTT⟩ := hJ.1.2.2.2.2.2.2.1
  refine lb_Ends.callW (q := (.invokestatic 97, 3, [0, 2007, 4])) (M := ((6, 1, sw_7), sw_h7)) (as := [.ref 51, .int p1, .long zx, .ref 171]) rfl rfl rfl (by decide : (sm_slots [Value.ref 51, .int 0, .long 0, .ref 171]).length ≤ 6) (by simp) (wb_Ends.deep (we9_set (p := p1) (zv := zx) hSh hJ hTT) (by decide)) (fun v h1 hq => ?_)
  obtain ⟨k, y, rfl, hk4, ⟨g1, g2, g3, g4⟩, g5, hX⟩ := hq
  refine lb_Ends.step (q := (.istore 5, 2, [])) (ls' := xl_ls x (some (.int (Int32.ofInt k))) b c) rfl rfl ?_
  refine lb_Ends.step (q := (.aload_n 2, 1, [])) rfl rfl ?_
  refine lb_Ends.step (q := (.aload_n 0, 1, [])) rfl rfl ?_
  refine lb_Ends.step (q := (.iload 4, 2, [])) rfl rfl ?_
  refine lb_Ends.step (q := (.iconst 1, 1, [])) rfl rfl ?_
  refine lb_Ends.step (q := (.iadd, 1, [])) rfl rfl ?_
  refine lb_Ends.step (q := (.iaload, 1, [])) rfl (lj_load (i := x + Int32.ofInt 1) g2 ⟨e1a, e1b⟩) ?_
  rw [hp1]
  refine lb_Ends.step (q := (.aload_n 0, 1, [])) rfl rfl ?_
  refine lb_Ends.step (q := (.iload 4, 2, [])) rfl rfl ?_
  refine lb_Ends.step (q := (.iconst 2, 1, [])) rfl rfl ?_
  refine lb_Ends.step (q := (.iadd, 1, [])) rfl rfl ?_
  refine lb_Ends.step (q := (.iaload, 1, [])) rfl (lj_load (i := x + Int32.ofInt 2) g2 ⟨e2a, e2b⟩) ?_
  rw [hp2]
  refine lb_Ends.step (q := (.i2l, 1, [])) rfl rfl ?_
  refine lb_Ends.step (q := (.bipush 32, 2, [])) rfl rfl ?_
  refine lb_Ends.step (q := (.lshl, 1, [])) rfl rfl ?_
  refine lb_Ends.step (q := (.aload_n 0, 1, [])) rfl rfl ?_
  refine lb_Ends.step (q := (.iload 4, 2, [])) rfl rfl ?_
  refine lb_Ends.step (q := (.iconst 3, 1, [])) rfl rfl ?_
  refine lb_Ends.step (q := (.iadd, 1, [])) rfl rfl ?_
  refine lb_Ends.step (q := (.iaload, 1, [])) rfl (lj_load (i := x + Int32.ofInt 3) g2 ⟨e3a, e3b⟩) ?_
  rw [hp3]
  refine lb_Ends.step (q := (.i2l, 1, [])) rfl rfl ?_
  refine lb_Ends.step (q := (.ldc2_w 88, 3, [4294967295])) rfl rfl ?_
  refine lb_Ends.step (q := (.land, 1, [])) rfl rfl ?_
  refine lb_Ends.step (q := (.lor, 1, [])) (pc' := 455) (ls' := xl_ls x (some (.int (Int32.ofInt k))) b c) (st' := [.long (l9_x p2 p3), .int p1, .ref 109]) (h' := h1) rfl rfl ?_
  rw [hzx]
  refine lb_Ends.callP (q := (.invokevirtual 100, 3, [0, 2, 11, 235])) (M' := (6, 4, sb_235)) (as := [.ref 109, .int p1, .long zx]) rfl (c3_virt g1 rfl) rfl rfl (by decide : (sm_slots [Value.ref 109, .int 0, .long 0]).length ≤ 6) (by simp) (ab_Ends.deep (wr9_set (p := p1) (zv := zx) hJ.1.2.2 hTT g1 g2 hX) (by decide)) (fun v h2 hq => ?_)
  obtain ⟨w, rfl, m1, m2, m3, m4, m5, hY⟩ := hq
  obtain ⟨hk0, z, rfl, hzb, hkz⟩ := hY
  have hK : mi_f h2 13952 = k ∧ (k = 0 → z = y.toInt) := ⟨hk0, hkz⟩
  refine lb_Ends.step (q := (.istore 6, 2, [])) (ls' := xl_ls x (some (.int (Int32.ofInt k))) (some (.int (Int32.ofInt z))) c) rfl rfl ?_
  refine lb_Ends.step (q := (.goto 114, 3, [])) rfl rfl ?_
  exact kk _ _ _ h2 m1 m2 (by omega) (by omega)
set_option maxRecDepth 20000 in
set_option maxHeartbeats 2000000 in
theorem c9_9 {x : Int32} {a b c : Option Value} {h : sm_H} {C S : Nat} (hL : L ≤ 2048) (hx : 0 ≤ x.toInt ∧ x.toInt + 4 ≤ (L : Int)) (hSh : ab_Sh sx_sk h) (hJ : lj_J M9 L xs h) (hC : h.length + 1 ≤ C) (hS : sm_sl h + 6 ≤ S)
    (kk : ∀ (a b c : Option Value) (h' : sm_H), ab_Sh sx_sk h' → lj_J M9 L xs h' → h'.length ≤ C → sm_sl h' ≤ S → lb_Ends sc_P sc_PW sl_tab 300 574 (xl_ls x a b c) [] h' QL) : lb_Ends sc_P sc_PW sl_tab 300 463 (xl_ls x a b c) [] h QL := by
  refine lb_Ends.step (q := (.aload_n 1, 1, [])) rfl rfl ?_
  refine lb_Ends.step (q := (.aload_n 3, 1, [])) rfl rfl ?_
  obtain ⟨TT, hTT⟩ := hJ.1.2.2.2.2.2.2.1
  obtain ⟨R, hP1, hP2⟩ := pr9_R hJ.1.2.2 hTT
  refine lb_Ends.callW (q := (.invokestatic 101, 3, [0, 2008, 2])) (M := ((3, 1, sw_8), sw_h8)) (as := [.ref 51, .ref 171]) rfl rfl rfl (by decide : (sm_slots [Value.ref 51, .ref 171]).length ≤ 3) (by simp) (wb_Ends.deep (we9_print (R := R) hSh hJ hP1) (by decide)) (fun v h1 hq => ?_)
  obtain ⟨k, y, rfl, hk4, ⟨g1, g2, g3, g4⟩, g5, hX⟩ := hq
  refine lb_Ends.step (q := (.istore 5, 2, [])) (ls' := xl_ls x (some (.int (Int32.ofInt k))) b c) rfl rfl ?_
  refine lb_Ends.step (q := (.aload_n 2, 1, [])) rfl rfl ?_
  refine lb_Ends.callP (q := (.invokevirtual 103, 3, [0, 0, 11, 205])) (M' := (2, 1, sb_205)) (as := [.ref 109]) rfl (c3_virt g1 rfl) rfl rfl (by decide : (sm_slots [Value.ref 109]).length ≤ 2) (by simp) (ab_Ends.deep (wr9_print hJ.1.2.2 g1 g2 hX.1 hP2) (by decide)) (fun v h2 hq => ?_)
  obtain ⟨w, rfl, m1, m2, m3, m4, m5, hY⟩ := hq
  obtain ⟨hk0, z, rfl, oz, hkz⟩ := hY
  have hK : mi_f h2 13952 = k ∧ (k = 0 → (Int32.ofInt z).toInt64 = y) := ⟨hk0, fun q => Int64.toInt_inj.mp (by
    rw [i2l_v oz]
    obtain ⟨o, o1, o2⟩ := hkz q
    obtain ⟨o', o3, o4⟩ := hX.2 q
    rw [o1] at o3
    have e := Option.some.inj o3
    rw [o2, o4, e])⟩
  refine lb_Ends.step (q := (.istore 6, 2, [])) (ls' := xl_ls x (some (.int (Int32.ofInt k))) (some (.int (Int32.ofInt z))) c) rfl rfl ?_
  refine lb_Ends.step (q := (.goto 98, 3, [])) rfl rfl ?_
  exact kk _ _ _ h2 m1 m2 (by omega) (by omega)
set_option maxRecDepth 20000 in
set_option maxHeartbeats 2000000 in
theorem c9_11 {x : Int32} {a b c : Option Value} {h : sm_H} {C S : Nat} (hL : L ≤ 2048) (hx : 0 ≤ x.toInt ∧ x.toInt + 4 ≤ (L : Int)) (hSh : ab_Sh sx_sk h) (hJ : lj_J M9 L xs h) (hC : h.length + 1 ≤ C) (hS : sm_sl h + 6 ≤ S)
    (kk : ∀ (a b c : Option Value) (h' : sm_H), ab_Sh sx_sk h' → lj_J M9 L xs h' → h'.length ≤ C → sm_sl h' ≤ S → lb_Ends sc_P sc_PW sl_tab 300 574 (xl_ls x a b c) [] h' QL) : lb_Ends sc_P sc_PW sl_tab 300 507 (xl_ls x a b c) [] h QL := by
  refine lb_Ends.step (q := (.aload_n 1, 1, [])) rfl rfl ?_
  refine lb_Ends.callP (q := (.invokevirtual 107, 3, [0, 0, 0, 88])) (M' := (1, 1, sb_88)) rfl (c3_own9 hSh rfl) rfl rfl (by decide) (by simp) (ab_Ends.deep (we9_carry hSh hJ) (by decide)) (fun v h1 hq => ?_)
  obtain ⟨rfl, g1, F, x1, x2⟩ := hq
  have g2 := lj_fr (MJ := MJ) mj_MJ ⟨hJ.1.1, hJ.2⟩ (by decide) F
  have l1 := F.1
  have l2 := F.2.1
  refine lb_Ends.step (q := (.pop, 1, [])) rfl rfl ?_
  refine lb_Ends.step (q := (.aload_n 2, 1, [])) rfl rfl ?_
  refine lb_Ends.callP (q := (.invokevirtual 110, 3, [0, 0, 11, 238])) (M' := (2, 1, sb_238)) rfl (c3_virt g1 rfl) rfl rfl (by decide) (by simp) (ab_Ends.deep (wr9_carry hSh hJ.1.2.2 g1 g2 F x1 x2) (by decide)) (fun v h2 hq => ?_)
  obtain ⟨w, rfl, m1, m2, m3, m4, m5, -, rfl⟩ := hq
  refine lb_Ends.step (q := (.pop, 1, [])) rfl rfl ?_
  refine lb_Ends.step (q := (.goto 57, 3, [])) rfl rfl ?_
  exact kk _ _ _ h2 m1 m2 (by omega) (by omega)
set_option maxRecDepth 20000 in
set_option maxHeartbeats 2000000 in
theorem c9_12 {x : Int32} {a b c : Option Value} {h : sm_H} {C S : Nat} (hL : L ≤ 2048) (hx : 0 ≤ x.toInt ∧ x.toInt + 4 ≤ (L : Int)) (hSh : ab_Sh sx_sk h) (hJ : lj_J M9 L xs h) (hC : h.length + 1 ≤ C) (hS : sm_sl h + 6 ≤ S)
    (kk : ∀ (a b c : Option Value) (h' : sm_H), ab_Sh sx_sk h' → lj_J M9 L xs h' → h'.length ≤ C → sm_sl h' ≤ S → lb_Ends sc_P sc_PW sl_tab 300 574 (xl_ls x a b c) [] h' QL) : lb_Ends sc_P sc_PW sl_tab 300 520 (xl_ls x a b c) [] h QL := by
  refine lb_Ends.step (q := (.aload_n 1, 1, [])) rfl rfl ?_
  refine lb_Ends.callP (q := (.invokevirtual 111, 3, [0, 0, 0, 92])) (M' := (1, 4, sb_92)) rfl (c3_own9 hSh rfl) rfl rfl (by decide) (by simp) (ab_Ends.deep (we9_keep hSh hJ) (by decide)) (fun v h1 hq => ?_)
  obtain ⟨w1, rfl, hX⟩ := hq
  have g1 := hX.1
  have F : ab_Fr ck_W h h1 := by
    rcases hX.2 with ⟨-, -, e⟩ | ⟨-, -, F, -⟩
    · subst e
      exact ab_Fr.refl
    · exact F
  have g2 := lj_fr (MJ := MJ) mj_MJ ⟨hJ.1.1, hJ.2⟩ (by decide) F
  have l1 := F.1
  have l2 := F.2.1
  obtain ⟨z1, ez1⟩ : ∃ z1, w1 = some (.inl z1) := by
    rcases hX.2 with ⟨-, e, -⟩ | ⟨-, e, -⟩
    · exact ⟨_, e⟩
    · exact ⟨_, e⟩
  subst ez1
  refine lb_Ends.step (q := (.aload_n 2, 1, [])) rfl rfl ?_
  refine lb_Ends.callP (q := (.invokevirtual 115, 3, [0, 0, 11, 239])) (M' := (2, 4, sb_239)) (as := [.ref 109]) (r := [.int (Int32.ofInt z1)]) rfl (c3_virt g1 rfl) rfl rfl (by decide) (by first | (simp [Value.category]; done) | (simp; exact (by decide : (1 : Nat) ≤ 8))) (ab_Ends.deep (wr9_keep hSh hJ.1.2.2 g2 hX) (by decide)) (fun v h2 hq => ?_)
  obtain ⟨w, rfl, m1, m2, m3, m4, m5, -, rfl⟩ := hq
  show lb_Ends sc_P sc_PW sl_tab 300 528 (xl_ls x a b c) [.int (Int32.ofInt z1), .int (Int32.ofInt z1)] h2 QL
  generalize (Int32.ofInt z1) = nn
  refine lb_Ends.step (q := (.if_icmp .eq 46, 3, [])) (pc' := 574) (ls' := xl_ls x a b c) (st' := []) (h' := h2) rfl ?_ ?_
  · simp only [sm_step, sm_back, sm_if, sm_cmp, decide_true, if_true]
    rfl
  exact kk _ _ _ h2 m1 m2 (by omega) (by omega)
end C9
/-! the law's case 3: compile -/
section C63
variable {L : Nat} {xs : Nat → Int32} {QL : sm_H → Prop}
theorem cm_mj : (ab_sub_wr cm_W mj_wr) = true := by decide
set_option maxRecDepth 20000 in
set_option maxHeartbeats 2000000 in
theorem c9_3 {x : Int32} {a b c : Option Value} {h : sm_H} {C S : Nat} (hL : L ≤ 2048) (hx : 0 ≤ x.toInt ∧ x.toInt + 4 ≤ (L : Int)) (hSh : ab_Sh sx_sk h) (hJ : lj_J M9 L xs h) (hC : h.length + 1 ≤ C) (hS : sm_sl h + 6 ≤ S)
    (kk : ∀ (a b c : Option Value) (h' : sm_H), ab_Sh sx_sk h' → lj_J M9 L xs h' → h'.length ≤ C → sm_sl h' ≤ S → lb_Ends sc_P sc_PW sl_tab 300 574 (xl_ls x a b c) [] h' QL) : lb_Ends sc_P sc_PW sl_tab 300 210 (xl_ls x a b c) [] h QL := by
  have hT := hJ.1.2.2.1
  obtain ⟨t1, t2, t3⟩ := hT
  obtain ⟨g0, hG⟩ := PG_of hSh
  refine lb_Ends.step (q := (.aload_n 1, 1, [])) rfl rfl ?_
  have k1 : me_E 33 12 0 [some (.inr (.inr 51)), none] [] h (fun w h' => (∀ i : {g0 : wk_g // PG (mi_f h 13953) (mi_a h 110) g0}, cm_Q (mi_f h 13953) (mi_a h 110) i.1 h w h' ∧ cm_5 (mi_f h 13953) (mi_a h 110) i.1 w h') ∧ (ab_Sh sx_sk h' ∧ ab_Fr cmf_W h h' ∧ mi_f h' 12032 = 0 ∧ mi_f h' 12544 = 0)) := (me_E.all ⟨g0, hG⟩ (fun i => (me_compilec (d := 0) hSh t3 t1 t2 i.2).and (me_compile5 (d := 0) hSh t3 t1 t2 i.2))).and (me_compile0c (d := 0) hSh)
  refine lb_Ends.callP (q := (.invokevirtual 76, 3, [0, 0, 0, 12])) (M' := (2, 1, sb_12)) rfl (c3_own9 hSh rfl) rfl rfl (by decide) (by simp) ((me_run9 (nl := 2) (as := [.inr (.inr 51)]) rfl k1).deep (by decide)) (fun v h1 hq => ?_)
  obtain ⟨w, rfl, -, hq, -, n1, n2, n3⟩ := hq
  obtain ⟨⟨⟨y, rfl, oy⟩, q1, q2, -⟩, -⟩ := hq ⟨g0, hG⟩
  refine lb_Ends.step (q := (.pop, 1, [])) rfl rfl ?_
  refine lb_Ends.step (q := (.aload_n 2, 1, [])) rfl rfl ?_
  refine lb_Ends.callP (q := (.invokevirtual 79, 3, [0, 0, 11, 175])) (M' := (2, 1, sb_175)) rfl (c3_virt q1 rfl) rfl rfl (by decide) (by simp) ((me_run9 (nl := 2) (as := [.inr (.inr 109)]) rfl (((me_compilex q1).and (me_compile5r q1)).and (me_compile0r q1))).deep (by decide)) (fun v h2 hq2 => ?_)
  obtain ⟨w, rfl, -, ⟨⟨⟨z, rfl, -⟩, r1, r2, r3, g1, r4, r5⟩, ⟨z', ez, -, g1', r4', r5'⟩⟩, -, o1, o2, o3, o4, o5⟩ := hq2
  refine lb_Ends.step (q := (.pop, 1, [])) rfl rfl ?_
  refine lb_Ends.step (q := (.goto 354, 3, [])) rfl rfl ?_
  have ez : z' = z := by injection ez with ez; injection ez with ez; exact ez.symm
  subst ez
  have f1 := me_f (c := 13953) q2 hSh rfl rfl
  have a1 : mi_a h1 110 = mi_a h 110 := funext fun i => me_a (k := 110) q2 hSh rfl rfl
  rw [f1, a1] at r4 r5 r4' r5'
  have hc := (hq ⟨g1, r4⟩).1.2.2.2
  have same : y = z' := ans_same (h2 := h2) q1 (hq ⟨g1', r4'⟩).2 r5'
  subst same
  have hrc : r9_c h2 := r9_both q1 r1 r2 hc (hq ⟨g1, r4⟩).2 r5 r4'.1 (hq ⟨g1', r4'⟩).1.2.2.2 (hq ⟨g1', r4'⟩).2 r5'
  have hj := lj_fr (MJ := MJ) mj_MJ ⟨hJ.1.1, hJ.2⟩ cm_mj q2
  have f2 := me_f (c := 13953) r2 q1 rfl rfl
  have a2 : mi_a h2 110 = mi_a h1 110 := funext fun i => me_a (k := 110) r2 q1 rfl rfl
  have f3 := me_f (c := 6657) q2 hSh rfl rfl
  have a3 : mi_a h1 53 = mi_a h 53 := funext fun i => me_a (k := 53) q2 hSh rfl rfl
  have f4 := me_f (c := 6657) r2 q1 rfl rfl
  have a4 : mi_a h2 53 = mi_a h1 53 := funext fun i => me_a (k := 53) r2 q1 rfl rfl
  have ht : rl_t h2 := by
    refine ⟨by rw [f4, f3, f2, f1]; exact t1, by rw [a4, a3, a2, a1]; exact t2, ?_⟩
    unfold cx_ok
    rw [f4, f3, a4, a3]
    exact t3
  have hR2 : R9 h2 := by
    have qa := rq_fr hSh n1
    have qb := rq_fr q1 o1
    have q : rq (cmf_W ++ mr_Vc) h h2 := (qa.wide (by decide)).trans (qb.wide (by decide))
    have z1 : mi_f h2 12032 = 0 := (qb.f (c := 12032) rfl (by decide)).trans n2
    have z2 : mi_f h2 12544 = 0 := (qb.f (c := 12544) rfl (by decide)).trans n3
    refine ⟨ht, r9_i_q q (by decide) hJ.1.2.2.2.1, r9_o_q q (by decide) hJ.1.2.2.2.2.1, hrc, ⟨[], ⟨o3, fun k hk => absurd hk (Nat.not_lt_zero k), fun k j hk => absurd hk (Nat.not_lt_zero k)⟩, ⟨⟨z1, fun k hk => absurd hk (Nat.not_lt_zero k)⟩, fo_nil, fun k hk => absurd hk (Nat.not_lt_zero k)⟩, Nat.zero_le _, fun c => absurd rfl c⟩, ⟨⟨by rw [z2, o4], fun i hi => by rw [o4] at hi; omega⟩, o5⟩⟩
  refine kk _ _ _ h2 r1 ⟨⟨mj_of r1 r3, r1, hR2⟩, by rw [r2.1]; exact hj.2.1, r2.2.2 0 _ hj.2.2 (by decide)⟩ (by rw [r2.1, q2.1]; omega) (by rw [r2.2.1, q2.2.1]; omega)
end C63
