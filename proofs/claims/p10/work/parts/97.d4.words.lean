/-! the class: has, with each of the seven words -/
/-- from k on stand the characters ws -/
def wd_m (h : sm_H) (k : Int) (ws : List Int) : Prop := ∀ j : Nat, j < ws.length → cx_at h (k + j) = ws.getD j 0
def hs_Q (h : sm_H) (zf zt : Int) (ws : List Int) (w : Option mi_V) (h' : sm_H) : Prop := h' = h ∧ ∃ z, w = some (.inl z) ∧ (z = 0 ∨ z = 1) ∧ (z = 1 ↔ zt - zf = (ws.length : Int) ∧ wd_m h zf ws)
theorem me_abs1 {d m : Nat} {h : sm_H} {c : ab_C} {M : sm_M} {as : List mi_V} {z : Int} (hok : ab_Ok sc_P sx_sk c) (hc : c.2.2 = ([], [((1, z, z, []), [])], [], 5)) (hM : sc_P c.1 = some M) (hk : M.2.1 ≠ 0) (hS : ab_Sh sx_sk h) (has : ab_nvs c.2.1 (as.map mi_c)) : me_E (d + 5) c.1 0 (mi_entry M.1 as) [] h (fun w h' => h' = h ∧ w = some (.inl z)) := by
  obtain ⟨m1, a1, p1, q1, w1, d1⟩ := c
  have hc : (p1, q1, w1, d1) = ([], [((1, z, z, []), [])], [], 5) := hc
  cases hc
  have := me_abs (M := M) (as := as) hok hM hS has (fun e he => by cases he) (by simp)
  refine (me_E.deep (d' := d + 5) this (Nat.le_add_left _ _)).imp (fun w h' hq => ?_)
  obtain ⟨q1, q2, p, hp, q3, -⟩ := hq
  refine ⟨me_nil q2, ?_⟩
  rcases List.mem_cons.mp hp with rfl | hp
  · obtain ⟨y, e, y0, y1⟩ := me_resI q3 hk rfl
    have y0 : z ≤ y := y0
    have y1 : y ≤ z := y1
    rw [e]
    congr 2
    omega
  · cases hp
def ws_1 : List Int := [110, 117, 109, 98, 101, 114]
def xc_len_1 : ab_C := (27, [(3, 1, 0, [])], [], [((1, 6, 6, []), [])], [], 5)
theorem xo_len_1 : ab_Ok sc_P sx_sk xc_len_1 := ab_good_ok (env := []) (heads := []) (fuel := 40) (by decide +kernel) (fun _ h => absurd h List.not_mem_nil)
def xc_chr_1_0 : ab_C := (29, [(3, 1, 0, []), (1, 0, 0, [])], [], [((1, 110, 110, []), [])], [], 5)
theorem xo_chr_1_0 : ab_Ok sc_P sx_sk xc_chr_1_0 := ab_good_ok (env := []) (heads := []) (fuel := 60) (by decide +kernel) (fun _ h => absurd h List.not_mem_nil)
def xc_chr_1_1 : ab_C := (29, [(3, 1, 0, []), (1, 1, 1, [])], [], [((1, 117, 117, []), [])], [], 5)
theorem xo_chr_1_1 : ab_Ok sc_P sx_sk xc_chr_1_1 := ab_good_ok (env := []) (heads := []) (fuel := 60) (by decide +kernel) (fun _ h => absurd h List.not_mem_nil)
def xc_chr_1_2 : ab_C := (29, [(3, 1, 0, []), (1, 2, 2, [])], [], [((1, 109, 109, []), [])], [], 5)
theorem xo_chr_1_2 : ab_Ok sc_P sx_sk xc_chr_1_2 := ab_good_ok (env := []) (heads := []) (fuel := 60) (by decide +kernel) (fun _ h => absurd h List.not_mem_nil)
def xc_chr_1_3 : ab_C := (29, [(3, 1, 0, []), (1, 3, 3, [])], [], [((1, 98, 98, []), [])], [], 5)
theorem xo_chr_1_3 : ab_Ok sc_P sx_sk xc_chr_1_3 := ab_good_ok (env := []) (heads := []) (fuel := 60) (by decide +kernel) (fun _ h => absurd h List.not_mem_nil)
def xc_chr_1_4 : ab_C := (29, [(3, 1, 0, []), (1, 4, 4, [])], [], [((1, 101, 101, []), [])], [], 5)
theorem xo_chr_1_4 : ab_Ok sc_P sx_sk xc_chr_1_4 := ab_good_ok (env := []) (heads := []) (fuel := 60) (by decide +kernel) (fun _ h => absurd h List.not_mem_nil)
def xc_chr_1_5 : ab_C := (29, [(3, 1, 0, []), (1, 5, 5, [])], [], [((1, 114, 114, []), [])], [], 5)
theorem xo_chr_1_5 : ab_Ok sc_P sx_sk xc_chr_1_5 := ab_good_ok (env := []) (heads := []) (fuel := 60) (by decide +kernel) (fun _ h => absurd h List.not_mem_nil)
section HS1
variable {d : Nat} {h : sm_H} {zf zt : Int}
theorem me_len_1 (hS : ab_Sh sx_sk h) : me_E (d + 5) 27 0 [some (.inr (.inr 1))] [] h (fun w h' => h' = h ∧ w = some (.inl 6)) := me_abs1 (m := 27) (M := (1, 1, sb_27)) (as := [.inr (.inr 1)]) xo_len_1 rfl rfl (by decide) hS ⟨rfl, trivial⟩
theorem me_chr_1 {zk : Int} (hS : ab_Sh sx_sk h) (k0 : 0 ≤ zk) (k1 : zk < 6) : me_E (d + 5) 29 0 [some (.inr (.inr 1)), some (.inl zk)] [] h (fun w h' => h' = h ∧ w = some (.inl (ws_1.getD zk.toNat 0))) := by
  rcases (show zk = 0 ∨ zk = 1 ∨ zk = 2 ∨ zk = 3 ∨ zk = 4 ∨ zk = 5 by omega) with rfl | rfl | rfl | rfl | rfl | rfl
  · exact me_abs1 (m := 29) (M := (2, 5, sb_29)) (as := [.inr (.inr 1), .inl 0]) (z := 110) xo_chr_1_0 rfl rfl (by decide) hS ⟨rfl, me_nv1 ⟨by decide, by decide⟩ (by decide) (by decide), trivial⟩
  · exact me_abs1 (m := 29) (M := (2, 5, sb_29)) (as := [.inr (.inr 1), .inl 1]) (z := 117) xo_chr_1_1 rfl rfl (by decide) hS ⟨rfl, me_nv1 ⟨by decide, by decide⟩ (by decide) (by decide), trivial⟩
  · exact me_abs1 (m := 29) (M := (2, 5, sb_29)) (as := [.inr (.inr 1), .inl 2]) (z := 109) xo_chr_1_2 rfl rfl (by decide) hS ⟨rfl, me_nv1 ⟨by decide, by decide⟩ (by decide) (by decide), trivial⟩
  · exact me_abs1 (m := 29) (M := (2, 5, sb_29)) (as := [.inr (.inr 1), .inl 3]) (z := 98) xo_chr_1_3 rfl rfl (by decide) hS ⟨rfl, me_nv1 ⟨by decide, by decide⟩ (by decide) (by decide), trivial⟩
  · exact me_abs1 (m := 29) (M := (2, 5, sb_29)) (as := [.inr (.inr 1), .inl 4]) (z := 101) xo_chr_1_4 rfl rfl (by decide) hS ⟨rfl, me_nv1 ⟨by decide, by decide⟩ (by decide) (by decide), trivial⟩
  · exact me_abs1 (m := 29) (M := (2, 5, sb_29)) (as := [.inr (.inr 1), .inl 5]) (z := 114) xo_chr_1_5 rfl rfl (by decide) hS ⟨rfl, me_nv1 ⟨by decide, by decide⟩ (by decide) (by decide), trivial⟩
theorem hs20_1 (hS : ab_Sh sx_sk h) (f0 : 0 ≤ zf) (f1 : zf ≤ 300) (t0 : 0 ≤ zt) (t1 : zt ≤ 300) : ∀ (N : Nat) (zm zk : Int), 6 - zk < N → 0 ≤ zk → zk ≤ 6 → (zm = 0 ∨ zm = 1) → (zm = 1 → zt - zf = 6 ∧ ∀ j : Nat, (j : Int) < zk → cx_at h (zf + j) = ws_1.getD j 0) → (zm = 0 → ¬ (zt - zf = 6 ∧ wd_m h zf ws_1)) → me_E (d + 6) 26 20 [some (.inr (.inr 52)), some (.inr (.inr 1)), some (.inl zf), some (.inl zt), some (.inl zm), some (.inl zk)] [] h (hs_Q h zf zt ws_1) := by
  intro N
  induction N with
  | zero => intro zm zk hN k0 k1; exfalso; omega
  | succ N ih =>
    intro zm zk hN k0 k1 om hA hB
    have of : mi_in zf := ⟨by omega, by omega⟩
    have ot : mi_in zt := ⟨by omega, by omega⟩
    have omm : mi_in zm := ⟨by omega, by omega⟩
    have ok : mi_in zk := ⟨by omega, by omega⟩
    refine mt_h1C hS of ot omm ok ?_ ?_
    · intro c
      refine ⟨om, fun h1 g1 g2 => ⟨me_nil g2, zm, rfl, om, fun x => by omega, fun x => absurd x (hB c)⟩⟩
    · intro c h1 g1 g2
      have e := me_nil g2
      subst e
      refine ⟨_, me_len_1 (d := d) hS, fun w h2 ow hq => ?_⟩
      obtain ⟨rfl, rfl⟩ := hq
      obtain ⟨a1, a2⟩ := hA (by omega)
      refine mt_h1D (zl := 6) (zy := zk) hS of ot omm ok ⟨by decide, by decide⟩ ok ?_ ?_
      · intro c2
        refine ⟨om, fun h3 g1 g2 => ⟨me_nil g2, zm, rfl, om, fun _ => ⟨a1, fun j hj => a2 j (by have : j < 6 := hj; omega)⟩, fun _ => by omega⟩⟩
      · intro c2 h3 g1 g2
        have e := me_nil g2
        subst e
        refine ⟨_, me_chr_1 (d := d) hS k0 c2, fun w h4 ow hq => ?_⟩
        obtain ⟨rfl, rfl⟩ := hq
        have bc : 0 ≤ ws_1.getD zk.toNat 0 ∧ ws_1.getD zk.toNat 0 ≤ 200 := by
          rcases (show zk = 0 ∨ zk = 1 ∨ zk = 2 ∨ zk = 3 ∨ zk = 4 ∨ zk = 5 by omega) with rfl | rfl | rfl | rfl | rfl | rfl <;> decide
        refine mt_h1E (zc := ws_1.getD zk.toNat 0) hS of ot omm ok ⟨by omega, by omega⟩ ⟨⟨by omega, by omega⟩, fun h5 g1 g2 => ?_⟩
        have e := me_nil g2
        subst e
        refine ⟨_, me_cat (d := d + 5) hS ⟨by omega, by omega⟩, fun w h6 ow hq => ?_⟩
        obtain ⟨rfl, rfl⟩ := hq
        have bx := cx_in hS (zf + zk)
        refine mt_h1F (zz := cx_at h6 (zf + zk)) (zc := ws_1.getD zk.toNat 0) hS of ot omm ok ⟨by omega, by omega⟩ ⟨by omega, by omega⟩ ?_ ?_
        · intro c3
          refine ⟨⟨by omega, by omega⟩, fun h7 g1 g2 => ?_⟩
          have e := me_nil g2
          subst e
          refine ih 0 (zk + 1) (by omega) (by omega) (by omega) (Or.inl rfl) (fun x => absurd x (by decide)) (fun _ x => ?_)
          have y := x.2 zk.toNat (by show zk.toNat < 6; omega)
          rw [show ((zk.toNat : Nat) : Int) = zk by omega] at y
          exact c3 y.symm
        · intro c3
          refine ⟨⟨by omega, by omega⟩, fun h7 g1 g2 => ?_⟩
          have e := me_nil g2
          subst e
          refine ih 1 (zk + 1) (by omega) (by omega) (by omega) (Or.inr rfl) (fun _ => ⟨a1, fun j hj => ?_⟩) (fun x => absurd x (by decide))
          by_cases ej : (j : Int) = zk
          · have ej2 : j = zk.toNat := by omega
            rw [ej, ej2]
            exact c3.symm
          · exact a2 j (by omega)
theorem me_has_1 (hS : ab_Sh sx_sk h) (f0 : 0 ≤ zf) (f1 : zf ≤ 300) (t0 : 0 ≤ zt) (t1 : zt ≤ 300) : me_E (d + 6) 26 0 [some (.inr (.inr 52)), some (.inr (.inr 1)), some (.inl zf), some (.inl zt), none, none] [] h (hs_Q h zf zt ws_1) := by
  have of : mi_in zf := ⟨by omega, by omega⟩
  have ot : mi_in zt := ⟨by omega, by omega⟩
  refine mt_h1A hS of ot ⟨⟨by omega, by omega⟩, fun h1 g1 g2 => ?_⟩
  have e := me_nil g2
  subst e
  refine ⟨_, me_len_1 (d := d) hS, fun w h2 ow hq => ?_⟩
  obtain ⟨rfl, rfl⟩ := hq
  refine mt_h1B (zl := 6) (zs := zt - zf) hS of ot ⟨by decide, by decide⟩ ⟨by omega, by omega⟩ ?_ ?_
  · intro c h3 g1 g2
    have e := me_nil g2
    subst e
    exact hs20_1 hS f0 f1 t0 t1 10 0 0 (by decide) (by decide) (by decide) (Or.inl rfl) (fun x => absurd x (by decide)) (fun _ x => c x.1)
  · intro c h3 g1 g2
    have e := me_nil g2
    subst e
    exact hs20_1 hS f0 f1 t0 t1 10 1 0 (by decide) (by decide) (by decide) (Or.inr rfl) (fun _ => ⟨c, fun j hj => by omega⟩) (fun x => absurd x (by decide))
end HS1
def ws_2 : List Int := [110, 97, 109, 101]
def xc_len_2 : ab_C := (27, [(3, 2, 0, [])], [], [((1, 4, 4, []), [])], [], 5)
theorem xo_len_2 : ab_Ok sc_P sx_sk xc_len_2 := ab_good_ok (env := []) (heads := []) (fuel := 40) (by decide +kernel) (fun _ h => absurd h List.not_mem_nil)
def xc_chr_2_0 : ab_C := (29, [(3, 2, 0, []), (1, 0, 0, [])], [], [((1, 110, 110, []), [])], [], 5)
theorem xo_chr_2_0 : ab_Ok sc_P sx_sk xc_chr_2_0 := ab_good_ok (env := []) (heads := []) (fuel := 60) (by decide +kernel) (fun _ h => absurd h List.not_mem_nil)
def xc_chr_2_1 : ab_C := (29, [(3, 2, 0, []), (1, 1, 1, [])], [], [((1, 97, 97, []), [])], [], 5)
theorem xo_chr_2_1 : ab_Ok sc_P sx_sk xc_chr_2_1 := ab_good_ok (env := []) (heads := []) (fuel := 60) (by decide +kernel) (fun _ h => absurd h List.not_mem_nil)
def xc_chr_2_2 : ab_C := (29, [(3, 2, 0, []), (1, 2, 2, [])], [], [((1, 109, 109, []), [])], [], 5)
theorem xo_chr_2_2 : ab_Ok sc_P sx_sk xc_chr_2_2 := ab_good_ok (env := []) (heads := []) (fuel := 60) (by decide +kernel) (fun _ h => absurd h List.not_mem_nil)
def xc_chr_2_3 : ab_C := (29, [(3, 2, 0, []), (1, 3, 3, [])], [], [((1, 101, 101, []), [])], [], 5)
theorem xo_chr_2_3 : ab_Ok sc_P sx_sk xc_chr_2_3 := ab_good_ok (env := []) (heads := []) (fuel := 60) (by decide +kernel) (fun _ h => absurd h List.not_mem_nil)
section HS2
variable {d : Nat} {h : sm_H} {zf zt : Int}
theorem me_len_2 (hS : ab_Sh sx_sk h) : me_E (d + 5) 27 0 [some (.inr (.inr 2))] [] h (fun w h' => h' = h ∧ w = some (.inl 4)) := me_abs1 (m := 27) (M := (1, 1, sb_27)) (as := [.inr (.inr 2)]) xo_len_2 rfl rfl (by decide) hS ⟨rfl, trivial⟩
theorem me_chr_2 {zk : Int} (hS : ab_Sh sx_sk h) (k0 : 0 ≤ zk) (k1 : zk < 4) : me_E (d + 5) 29 0 [some (.inr (.inr 2)), some (.inl zk)] [] h (fun w h' => h' = h ∧ w = some (.inl (ws_2.getD zk.toNat 0))) := by
  rcases (show zk = 0 ∨ zk = 1 ∨ zk = 2 ∨ zk = 3 by omega) with rfl | rfl | rfl | rfl
  · exact me_abs1 (m := 29) (M := (2, 5, sb_29)) (as := [.inr (.inr 2), .inl 0]) (z := 110) xo_chr_2_0 rfl rfl (by decide) hS ⟨rfl, me_nv1 ⟨by decide, by decide⟩ (by decide) (by decide), trivial⟩
  · exact me_abs1 (m := 29) (M := (2, 5, sb_29)) (as := [.inr (.inr 2), .inl 1]) (z := 97) xo_chr_2_1 rfl rfl (by decide) hS ⟨rfl, me_nv1 ⟨by decide, by decide⟩ (by decide) (by decide), trivial⟩
  · exact me_abs1 (m := 29) (M := (2, 5, sb_29)) (as := [.inr (.inr 2), .inl 2]) (z := 109) xo_chr_2_2 rfl rfl (by decide) hS ⟨rfl, me_nv1 ⟨by decide, by decide⟩ (by decide) (by decide), trivial⟩
  · exact me_abs1 (m := 29) (M := (2, 5, sb_29)) (as := [.inr (.inr 2), .inl 3]) (z := 101) xo_chr_2_3 rfl rfl (by decide) hS ⟨rfl, me_nv1 ⟨by decide, by decide⟩ (by decide) (by decide), trivial⟩
theorem hs20_2 (hS : ab_Sh sx_sk h) (f0 : 0 ≤ zf) (f1 : zf ≤ 300) (t0 : 0 ≤ zt) (t1 : zt ≤ 300) : ∀ (N : Nat) (zm zk : Int), 4 - zk < N → 0 ≤ zk → zk ≤ 4 → (zm = 0 ∨ zm = 1) → (zm = 1 → zt - zf = 4 ∧ ∀ j : Nat, (j : Int) < zk → cx_at h (zf + j) = ws_2.getD j 0) → (zm = 0 → ¬ (zt - zf = 4 ∧ wd_m h zf ws_2)) → me_E (d + 6) 26 20 [some (.inr (.inr 52)), some (.inr (.inr 2)), some (.inl zf), some (.inl zt), some (.inl zm), some (.inl zk)] [] h (hs_Q h zf zt ws_2) := by
  intro N
  induction N with
  | zero => intro zm zk hN k0 k1; exfalso; omega
  | succ N ih =>
    intro zm zk hN k0 k1 om hA hB
    have of : mi_in zf := ⟨by omega, by omega⟩
    have ot : mi_in zt := ⟨by omega, by omega⟩
    have omm : mi_in zm := ⟨by omega, by omega⟩
    have ok : mi_in zk := ⟨by omega, by omega⟩
    refine mt_h2C hS of ot omm ok ?_ ?_
    · intro c
      refine ⟨om, fun h1 g1 g2 => ⟨me_nil g2, zm, rfl, om, fun x => by omega, fun x => absurd x (hB c)⟩⟩
    · intro c h1 g1 g2
      have e := me_nil g2
      subst e
      refine ⟨_, me_len_2 (d := d) hS, fun w h2 ow hq => ?_⟩
      obtain ⟨rfl, rfl⟩ := hq
      obtain ⟨a1, a2⟩ := hA (by omega)
      refine mt_h2D (zl := 4) (zy := zk) hS of ot omm ok ⟨by decide, by decide⟩ ok ?_ ?_
      · intro c2
        refine ⟨om, fun h3 g1 g2 => ⟨me_nil g2, zm, rfl, om, fun _ => ⟨a1, fun j hj => a2 j (by have : j < 4 := hj; omega)⟩, fun _ => by omega⟩⟩
      · intro c2 h3 g1 g2
        have e := me_nil g2
        subst e
        refine ⟨_, me_chr_2 (d := d) hS k0 c2, fun w h4 ow hq => ?_⟩
        obtain ⟨rfl, rfl⟩ := hq
        have bc : 0 ≤ ws_2.getD zk.toNat 0 ∧ ws_2.getD zk.toNat 0 ≤ 200 := by
          rcases (show zk = 0 ∨ zk = 1 ∨ zk = 2 ∨ zk = 3 by omega) with rfl | rfl | rfl | rfl <;> decide
        refine mt_h2E (zc := ws_2.getD zk.toNat 0) hS of ot omm ok ⟨by omega, by omega⟩ ⟨⟨by omega, by omega⟩, fun h5 g1 g2 => ?_⟩
        have e := me_nil g2
        subst e
        refine ⟨_, me_cat (d := d + 5) hS ⟨by omega, by omega⟩, fun w h6 ow hq => ?_⟩
        obtain ⟨rfl, rfl⟩ := hq
        have bx := cx_in hS (zf + zk)
        refine mt_h2F (zz := cx_at h6 (zf + zk)) (zc := ws_2.getD zk.toNat 0) hS of ot omm ok ⟨by omega, by omega⟩ ⟨by omega, by omega⟩ ?_ ?_
        · intro c3
          refine ⟨⟨by omega, by omega⟩, fun h7 g1 g2 => ?_⟩
          have e := me_nil g2
          subst e
          refine ih 0 (zk + 1) (by omega) (by omega) (by omega) (Or.inl rfl) (fun x => absurd x (by decide)) (fun _ x => ?_)
          have y := x.2 zk.toNat (by show zk.toNat < 4; omega)
          rw [show ((zk.toNat : Nat) : Int) = zk by omega] at y
          exact c3 y.symm
        · intro c3
          refine ⟨⟨by omega, by omega⟩, fun h7 g1 g2 => ?_⟩
          have e := me_nil g2
          subst e
          refine ih 1 (zk + 1) (by omega) (by omega) (by omega) (Or.inr rfl) (fun _ => ⟨a1, fun j hj => ?_⟩) (fun x => absurd x (by decide))
          by_cases ej : (j : Int) = zk
          · have ej2 : j = zk.toNat := by omega
            rw [ej, ej2]
            exact c3.symm
          · exact a2 j (by omega)
theorem me_has_2 (hS : ab_Sh sx_sk h) (f0 : 0 ≤ zf) (f1 : zf ≤ 300) (t0 : 0 ≤ zt) (t1 : zt ≤ 300) : me_E (d + 6) 26 0 [some (.inr (.inr 52)), some (.inr (.inr 2)), some (.inl zf), some (.inl zt), none, none] [] h (hs_Q h zf zt ws_2) := by
  have of : mi_in zf := ⟨by omega, by omega⟩
  have ot : mi_in zt := ⟨by omega, by omega⟩
  refine mt_h2A hS of ot ⟨⟨by omega, by omega⟩, fun h1 g1 g2 => ?_⟩
  have e := me_nil g2
  subst e
  refine ⟨_, me_len_2 (d := d) hS, fun w h2 ow hq => ?_⟩
  obtain ⟨rfl, rfl⟩ := hq
  refine mt_h2B (zl := 4) (zs := zt - zf) hS of ot ⟨by decide, by decide⟩ ⟨by omega, by omega⟩ ?_ ?_
  · intro c h3 g1 g2
    have e := me_nil g2
    subst e
    exact hs20_2 hS f0 f1 t0 t1 10 0 0 (by decide) (by decide) (by decide) (Or.inl rfl) (fun x => absurd x (by decide)) (fun _ x => c x.1)
  · intro c h3 g1 g2
    have e := me_nil g2
    subst e
    exact hs20_2 hS f0 f1 t0 t1 10 1 0 (by decide) (by decide) (by decide) (Or.inr rfl) (fun _ => ⟨c, fun j hj => by omega⟩) (fun x => absurd x (by decide))
end HS2
def ws_3 : List Int := [101, 109, 112, 116, 121]
def xc_len_3 : ab_C := (27, [(3, 3, 0, [])], [], [((1, 5, 5, []), [])], [], 5)
theorem xo_len_3 : ab_Ok sc_P sx_sk xc_len_3 := ab_good_ok (env := []) (heads := []) (fuel := 40) (by decide +kernel) (fun _ h => absurd h List.not_mem_nil)
def xc_chr_3_0 : ab_C := (29, [(3, 3, 0, []), (1, 0, 0, [])], [], [((1, 101, 101, []), [])], [], 5)
theorem xo_chr_3_0 : ab_Ok sc_P sx_sk xc_chr_3_0 := ab_good_ok (env := []) (heads := []) (fuel := 60) (by decide +kernel) (fun _ h => absurd h List.not_mem_nil)
def xc_chr_3_1 : ab_C := (29, [(3, 3, 0, []), (1, 1, 1, [])], [], [((1, 109, 109, []), [])], [], 5)
theorem xo_chr_3_1 : ab_Ok sc_P sx_sk xc_chr_3_1 := ab_good_ok (env := []) (heads := []) (fuel := 60) (by decide +kernel) (fun _ h => absurd h List.not_mem_nil)
def xc_chr_3_2 : ab_C := (29, [(3, 3, 0, []), (1, 2, 2, [])], [], [((1, 112, 112, []), [])], [], 5)
theorem xo_chr_3_2 : ab_Ok sc_P sx_sk xc_chr_3_2 := ab_good_ok (env := []) (heads := []) (fuel := 60) (by decide +kernel) (fun _ h => absurd h List.not_mem_nil)
def xc_chr_3_3 : ab_C := (29, [(3, 3, 0, []), (1, 3, 3, [])], [], [((1, 116, 116, []), [])], [], 5)
theorem xo_chr_3_3 : ab_Ok sc_P sx_sk xc_chr_3_3 := ab_good_ok (env := []) (heads := []) (fuel := 60) (by decide +kernel) (fun _ h => absurd h List.not_mem_nil)
def xc_chr_3_4 : ab_C := (29, [(3, 3, 0, []), (1, 4, 4, [])], [], [((1, 121, 121, []), [])], [], 5)
theorem xo_chr_3_4 : ab_Ok sc_P sx_sk xc_chr_3_4 := ab_good_ok (env := []) (heads := []) (fuel := 60) (by decide +kernel) (fun _ h => absurd h List.not_mem_nil)
section HS3
variable {d : Nat} {h : sm_H} {zf zt : Int}
theorem me_len_3 (hS : ab_Sh sx_sk h) : me_E (d + 5) 27 0 [some (.inr (.inr 3))] [] h (fun w h' => h' = h ∧ w = some (.inl 5)) := me_abs1 (m := 27) (M := (1, 1, sb_27)) (as := [.inr (.inr 3)]) xo_len_3 rfl rfl (by decide) hS ⟨rfl, trivial⟩
theorem me_chr_3 {zk : Int} (hS : ab_Sh sx_sk h) (k0 : 0 ≤ zk) (k1 : zk < 5) : me_E (d + 5) 29 0 [some (.inr (.inr 3)), some (.inl zk)] [] h (fun w h' => h' = h ∧ w = some (.inl (ws_3.getD zk.toNat 0))) := by
  rcases (show zk = 0 ∨ zk = 1 ∨ zk = 2 ∨ zk = 3 ∨ zk = 4 by omega) with rfl | rfl | rfl | rfl | rfl
  · exact me_abs1 (m := 29) (M := (2, 5, sb_29)) (as := [.inr (.inr 3), .inl 0]) (z := 101) xo_chr_3_0 rfl rfl (by decide) hS ⟨rfl, me_nv1 ⟨by decide, by decide⟩ (by decide) (by decide), trivial⟩
  · exact me_abs1 (m := 29) (M := (2, 5, sb_29)) (as := [.inr (.inr 3), .inl 1]) (z := 109) xo_chr_3_1 rfl rfl (by decide) hS ⟨rfl, me_nv1 ⟨by decide, by decide⟩ (by decide) (by decide), trivial⟩
  · exact me_abs1 (m := 29) (M := (2, 5, sb_29)) (as := [.inr (.inr 3), .inl 2]) (z := 112) xo_chr_3_2 rfl rfl (by decide) hS ⟨rfl, me_nv1 ⟨by decide, by decide⟩ (by decide) (by decide), trivial⟩
  · exact me_abs1 (m := 29) (M := (2, 5, sb_29)) (as := [.inr (.inr 3), .inl 3]) (z := 116) xo_chr_3_3 rfl rfl (by decide) hS ⟨rfl, me_nv1 ⟨by decide, by decide⟩ (by decide) (by decide), trivial⟩
  · exact me_abs1 (m := 29) (M := (2, 5, sb_29)) (as := [.inr (.inr 3), .inl 4]) (z := 121) xo_chr_3_4 rfl rfl (by decide) hS ⟨rfl, me_nv1 ⟨by decide, by decide⟩ (by decide) (by decide), trivial⟩
theorem hs20_3 (hS : ab_Sh sx_sk h) (f0 : 0 ≤ zf) (f1 : zf ≤ 300) (t0 : 0 ≤ zt) (t1 : zt ≤ 300) : ∀ (N : Nat) (zm zk : Int), 5 - zk < N → 0 ≤ zk → zk ≤ 5 → (zm = 0 ∨ zm = 1) → (zm = 1 → zt - zf = 5 ∧ ∀ j : Nat, (j : Int) < zk → cx_at h (zf + j) = ws_3.getD j 0) → (zm = 0 → ¬ (zt - zf = 5 ∧ wd_m h zf ws_3)) → me_E (d + 6) 26 20 [some (.inr (.inr 52)), some (.inr (.inr 3)), some (.inl zf), some (.inl zt), some (.inl zm), some (.inl zk)] [] h (hs_Q h zf zt ws_3) := by
  intro N
  induction N with
  | zero => intro zm zk hN k0 k1; exfalso; omega
  | succ N ih =>
    intro zm zk hN k0 k1 om hA hB
    have of : mi_in zf := ⟨by omega, by omega⟩
    have ot : mi_in zt := ⟨by omega, by omega⟩
    have omm : mi_in zm := ⟨by omega, by omega⟩
    have ok : mi_in zk := ⟨by omega, by omega⟩
    refine mt_h3C hS of ot omm ok ?_ ?_
    · intro c
      refine ⟨om, fun h1 g1 g2 => ⟨me_nil g2, zm, rfl, om, fun x => by omega, fun x => absurd x (hB c)⟩⟩
    · intro c h1 g1 g2
      have e := me_nil g2
      subst e
      refine ⟨_, me_len_3 (d := d) hS, fun w h2 ow hq => ?_⟩
      obtain ⟨rfl, rfl⟩ := hq
      obtain ⟨a1, a2⟩ := hA (by omega)
      refine mt_h3D (zl := 5) (zy := zk) hS of ot omm ok ⟨by decide, by decide⟩ ok ?_ ?_
      · intro c2
        refine ⟨om, fun h3 g1 g2 => ⟨me_nil g2, zm, rfl, om, fun _ => ⟨a1, fun j hj => a2 j (by have : j < 5 := hj; omega)⟩, fun _ => by omega⟩⟩
      · intro c2 h3 g1 g2
        have e := me_nil g2
        subst e
        refine ⟨_, me_chr_3 (d := d) hS k0 c2, fun w h4 ow hq => ?_⟩
        obtain ⟨rfl, rfl⟩ := hq
        have bc : 0 ≤ ws_3.getD zk.toNat 0 ∧ ws_3.getD zk.toNat 0 ≤ 200 := by
          rcases (show zk = 0 ∨ zk = 1 ∨ zk = 2 ∨ zk = 3 ∨ zk = 4 by omega) with rfl | rfl | rfl | rfl | rfl <;> decide
        refine mt_h3E (zc := ws_3.getD zk.toNat 0) hS of ot omm ok ⟨by omega, by omega⟩ ⟨⟨by omega, by omega⟩, fun h5 g1 g2 => ?_⟩
        have e := me_nil g2
        subst e
        refine ⟨_, me_cat (d := d + 5) hS ⟨by omega, by omega⟩, fun w h6 ow hq => ?_⟩
        obtain ⟨rfl, rfl⟩ := hq
        have bx := cx_in hS (zf + zk)
        refine mt_h3F (zz := cx_at h6 (zf + zk)) (zc := ws_3.getD zk.toNat 0) hS of ot omm ok ⟨by omega, by omega⟩ ⟨by omega, by omega⟩ ?_ ?_
        · intro c3
          refine ⟨⟨by omega, by omega⟩, fun h7 g1 g2 => ?_⟩
          have e := me_nil g2
          subst e
          refine ih 0 (zk + 1) (by omega) (by omega) (by omega) (Or.inl rfl) (fun x => absurd x (by decide)) (fun _ x => ?_)
          have y := x.2 zk.toNat (by show zk.toNat < 5; omega)
          rw [show ((zk.toNat : Nat) : Int) = zk by omega] at y
          exact c3 y.symm
        · intro c3
          refine ⟨⟨by omega, by omega⟩, fun h7 g1 g2 => ?_⟩
          have e := me_nil g2
          subst e
          refine ih 1 (zk + 1) (by omega) (by omega) (by omega) (Or.inr rfl) (fun _ => ⟨a1, fun j hj => ?_⟩) (fun x => absurd x (by decide))
          by_cases ej : (j : Int) = zk
          · have ej2 : j = zk.toNat := by omega
            rw [ej, ej2]
            exact c3.symm
          · exact a2 j (by omega)
theorem me_has_3 (hS : ab_Sh sx_sk h) (f0 : 0 ≤ zf) (f1 : zf ≤ 300) (t0 : 0 ≤ zt) (t1 : zt ≤ 300) : me_E (d + 6) 26 0 [some (.inr (.inr 52)), some (.inr (.inr 3)), some (.inl zf), some (.inl zt), none, none] [] h (hs_Q h zf zt ws_3) := by
  have of : mi_in zf := ⟨by omega, by omega⟩
  have ot : mi_in zt := ⟨by omega, by omega⟩
  refine mt_h3A hS of ot ⟨⟨by omega, by omega⟩, fun h1 g1 g2 => ?_⟩
  have e := me_nil g2
  subst e
  refine ⟨_, me_len_3 (d := d) hS, fun w h2 ow hq => ?_⟩
  obtain ⟨rfl, rfl⟩ := hq
  refine mt_h3B (zl := 5) (zs := zt - zf) hS of ot ⟨by decide, by decide⟩ ⟨by omega, by omega⟩ ?_ ?_
  · intro c h3 g1 g2
    have e := me_nil g2
    subst e
    exact hs20_3 hS f0 f1 t0 t1 10 0 0 (by decide) (by decide) (by decide) (Or.inl rfl) (fun x => absurd x (by decide)) (fun _ x => c x.1)
  · intro c h3 g1 g2
    have e := me_nil g2
    subst e
    exact hs20_3 hS f0 f1 t0 t1 10 1 0 (by decide) (by decide) (by decide) (Or.inr rfl) (fun _ => ⟨c, fun j hj => by omega⟩) (fun x => absurd x (by decide))
end HS3
def ws_4 : List Int := [98, 108, 97, 110, 107]
def xc_len_4 : ab_C := (27, [(3, 4, 0, [])], [], [((1, 5, 5, []), [])], [], 5)
theorem xo_len_4 : ab_Ok sc_P sx_sk xc_len_4 := ab_good_ok (env := []) (heads := []) (fuel := 40) (by decide +kernel) (fun _ h => absurd h List.not_mem_nil)
def xc_chr_4_0 : ab_C := (29, [(3, 4, 0, []), (1, 0, 0, [])], [], [((1, 98, 98, []), [])], [], 5)
theorem xo_chr_4_0 : ab_Ok sc_P sx_sk xc_chr_4_0 := ab_good_ok (env := []) (heads := []) (fuel := 60) (by decide +kernel) (fun _ h => absurd h List.not_mem_nil)
def xc_chr_4_1 : ab_C := (29, [(3, 4, 0, []), (1, 1, 1, [])], [], [((1, 108, 108, []), [])], [], 5)
theorem xo_chr_4_1 : ab_Ok sc_P sx_sk xc_chr_4_1 := ab_good_ok (env := []) (heads := []) (fuel := 60) (by decide +kernel) (fun _ h => absurd h List.not_mem_nil)
def xc_chr_4_2 : ab_C := (29, [(3, 4, 0, []), (1, 2, 2, [])], [], [((1, 97, 97, []), [])], [], 5)
theorem xo_chr_4_2 : ab_Ok sc_P sx_sk xc_chr_4_2 := ab_good_ok (env := []) (heads := []) (fuel := 60) (by decide +kernel) (fun _ h => absurd h List.not_mem_nil)
def xc_chr_4_3 : ab_C := (29, [(3, 4, 0, []), (1, 3, 3, [])], [], [((1, 110, 110, []), [])], [], 5)
theorem xo_chr_4_3 : ab_Ok sc_P sx_sk xc_chr_4_3 := ab_good_ok (env := []) (heads := []) (fuel := 60) (by decide +kernel) (fun _ h => absurd h List.not_mem_nil)
def xc_chr_4_4 : ab_C := (29, [(3, 4, 0, []), (1, 4, 4, [])], [], [((1, 107, 107, []), [])], [], 5)
theorem xo_chr_4_4 : ab_Ok sc_P sx_sk xc_chr_4_4 := ab_good_ok (env := []) (heads := []) (fuel := 60) (by decide +kernel) (fun _ h => absurd h List.not_mem_nil)
section HS4
variable {d : Nat} {h : sm_H} {zf zt : Int}
theorem me_len_4 (hS : ab_Sh sx_sk h) : me_E (d + 5) 27 0 [some (.inr (.inr 4))] [] h (fun w h' => h' = h ∧ w = some (.inl 5)) := me_abs1 (m := 27) (M := (1, 1, sb_27)) (as := [.inr (.inr 4)]) xo_len_4 rfl rfl (by decide) hS ⟨rfl, trivial⟩
theorem me_chr_4 {zk : Int} (hS : ab_Sh sx_sk h) (k0 : 0 ≤ zk) (k1 : zk < 5) : me_E (d + 5) 29 0 [some (.inr (.inr 4)), some (.inl zk)] [] h (fun w h' => h' = h ∧ w = some (.inl (ws_4.getD zk.toNat 0))) := by
  rcases (show zk = 0 ∨ zk = 1 ∨ zk = 2 ∨ zk = 3 ∨ zk = 4 by omega) with rfl | rfl | rfl | rfl | rfl
  · exact me_abs1 (m := 29) (M := (2, 5, sb_29)) (as := [.inr (.inr 4), .inl 0]) (z := 98) xo_chr_4_0 rfl rfl (by decide) hS ⟨rfl, me_nv1 ⟨by decide, by decide⟩ (by decide) (by decide), trivial⟩
  · exact me_abs1 (m := 29) (M := (2, 5, sb_29)) (as := [.inr (.inr 4), .inl 1]) (z := 108) xo_chr_4_1 rfl rfl (by decide) hS ⟨rfl, me_nv1 ⟨by decide, by decide⟩ (by decide) (by decide), trivial⟩
  · exact me_abs1 (m := 29) (M := (2, 5, sb_29)) (as := [.inr (.inr 4), .inl 2]) (z := 97) xo_chr_4_2 rfl rfl (by decide) hS ⟨rfl, me_nv1 ⟨by decide, by decide⟩ (by decide) (by decide), trivial⟩
  · exact me_abs1 (m := 29) (M := (2, 5, sb_29)) (as := [.inr (.inr 4), .inl 3]) (z := 110) xo_chr_4_3 rfl rfl (by decide) hS ⟨rfl, me_nv1 ⟨by decide, by decide⟩ (by decide) (by decide), trivial⟩
  · exact me_abs1 (m := 29) (M := (2, 5, sb_29)) (as := [.inr (.inr 4), .inl 4]) (z := 107) xo_chr_4_4 rfl rfl (by decide) hS ⟨rfl, me_nv1 ⟨by decide, by decide⟩ (by decide) (by decide), trivial⟩
theorem hs20_4 (hS : ab_Sh sx_sk h) (f0 : 0 ≤ zf) (f1 : zf ≤ 300) (t0 : 0 ≤ zt) (t1 : zt ≤ 300) : ∀ (N : Nat) (zm zk : Int), 5 - zk < N → 0 ≤ zk → zk ≤ 5 → (zm = 0 ∨ zm = 1) → (zm = 1 → zt - zf = 5 ∧ ∀ j : Nat, (j : Int) < zk → cx_at h (zf + j) = ws_4.getD j 0) → (zm = 0 → ¬ (zt - zf = 5 ∧ wd_m h zf ws_4)) → me_E (d + 6) 26 20 [some (.inr (.inr 52)), some (.inr (.inr 4)), some (.inl zf), some (.inl zt), some (.inl zm), some (.inl zk)] [] h (hs_Q h zf zt ws_4) := by
  intro N
  induction N with
  | zero => intro zm zk hN k0 k1; exfalso; omega
  | succ N ih =>
    intro zm zk hN k0 k1 om hA hB
    have of : mi_in zf := ⟨by omega, by omega⟩
    have ot : mi_in zt := ⟨by omega, by omega⟩
    have omm : mi_in zm := ⟨by omega, by omega⟩
    have ok : mi_in zk := ⟨by omega, by omega⟩
    refine mt_h4C hS of ot omm ok ?_ ?_
    · intro c
      refine ⟨om, fun h1 g1 g2 => ⟨me_nil g2, zm, rfl, om, fun x => by omega, fun x => absurd x (hB c)⟩⟩
    · intro c h1 g1 g2
      have e := me_nil g2
      subst e
      refine ⟨_, me_len_4 (d := d) hS, fun w h2 ow hq => ?_⟩
      obtain ⟨rfl, rfl⟩ := hq
      obtain ⟨a1, a2⟩ := hA (by omega)
      refine mt_h4D (zl := 5) (zy := zk) hS of ot omm ok ⟨by decide, by decide⟩ ok ?_ ?_
      · intro c2
        refine ⟨om, fun h3 g1 g2 => ⟨me_nil g2, zm, rfl, om, fun _ => ⟨a1, fun j hj => a2 j (by have : j < 5 := hj; omega)⟩, fun _ => by omega⟩⟩
      · intro c2 h3 g1 g2
        have e := me_nil g2
        subst e
        refine ⟨_, me_chr_4 (d := d) hS k0 c2, fun w h4 ow hq => ?_⟩
        obtain ⟨rfl, rfl⟩ := hq
        have bc : 0 ≤ ws_4.getD zk.toNat 0 ∧ ws_4.getD zk.toNat 0 ≤ 200 := by
          rcases (show zk = 0 ∨ zk = 1 ∨ zk = 2 ∨ zk = 3 ∨ zk = 4 by omega) with rfl | rfl | rfl | rfl | rfl <;> decide
        refine mt_h4E (zc := ws_4.getD zk.toNat 0) hS of ot omm ok ⟨by omega, by omega⟩ ⟨⟨by omega, by omega⟩, fun h5 g1 g2 => ?_⟩
        have e := me_nil g2
        subst e
        refine ⟨_, me_cat (d := d + 5) hS ⟨by omega, by omega⟩, fun w h6 ow hq => ?_⟩
        obtain ⟨rfl, rfl⟩ := hq
        have bx := cx_in hS (zf + zk)
        refine mt_h4F (zz := cx_at h6 (zf + zk)) (zc := ws_4.getD zk.toNat 0) hS of ot omm ok ⟨by omega, by omega⟩ ⟨by omega, by omega⟩ ?_ ?_
        · intro c3
          refine ⟨⟨by omega, by omega⟩, fun h7 g1 g2 => ?_⟩
          have e := me_nil g2
          subst e
          refine ih 0 (zk + 1) (by omega) (by omega) (by omega) (Or.inl rfl) (fun x => absurd x (by decide)) (fun _ x => ?_)
          have y := x.2 zk.toNat (by show zk.toNat < 5; omega)
          rw [show ((zk.toNat : Nat) : Int) = zk by omega] at y
          exact c3 y.symm
        · intro c3
          refine ⟨⟨by omega, by omega⟩, fun h7 g1 g2 => ?_⟩
          have e := me_nil g2
          subst e
          refine ih 1 (zk + 1) (by omega) (by omega) (by omega) (Or.inr rfl) (fun _ => ⟨a1, fun j hj => ?_⟩) (fun x => absurd x (by decide))
          by_cases ej : (j : Int) = zk
          · have ej2 : j = zk.toNat := by omega
            rw [ej, ej2]
            exact c3.symm
          · exact a2 j (by omega)
theorem me_has_4 (hS : ab_Sh sx_sk h) (f0 : 0 ≤ zf) (f1 : zf ≤ 300) (t0 : 0 ≤ zt) (t1 : zt ≤ 300) : me_E (d + 6) 26 0 [some (.inr (.inr 52)), some (.inr (.inr 4)), some (.inl zf), some (.inl zt), none, none] [] h (hs_Q h zf zt ws_4) := by
  have of : mi_in zf := ⟨by omega, by omega⟩
  have ot : mi_in zt := ⟨by omega, by omega⟩
  refine mt_h4A hS of ot ⟨⟨by omega, by omega⟩, fun h1 g1 g2 => ?_⟩
  have e := me_nil g2
  subst e
  refine ⟨_, me_len_4 (d := d) hS, fun w h2 ow hq => ?_⟩
  obtain ⟨rfl, rfl⟩ := hq
  refine mt_h4B (zl := 5) (zs := zt - zf) hS of ot ⟨by decide, by decide⟩ ⟨by omega, by omega⟩ ?_ ?_
  · intro c h3 g1 g2
    have e := me_nil g2
    subst e
    exact hs20_4 hS f0 f1 t0 t1 10 0 0 (by decide) (by decide) (by decide) (Or.inl rfl) (fun x => absurd x (by decide)) (fun _ x => c x.1)
  · intro c h3 g1 g2
    have e := me_nil g2
    subst e
    exact hs20_4 hS f0 f1 t0 t1 10 1 0 (by decide) (by decide) (by decide) (Or.inr rfl) (fun _ => ⟨c, fun j hj => by omega⟩) (fun x => absurd x (by decide))
end HS4
def ws_5 : List Int := [108, 105, 110, 101]
def xc_len_5 : ab_C := (27, [(3, 5, 0, [])], [], [((1, 4, 4, []), [])], [], 5)
theorem xo_len_5 : ab_Ok sc_P sx_sk xc_len_5 := ab_good_ok (env := []) (heads := []) (fuel := 40) (by decide +kernel) (fun _ h => absurd h List.not_mem_nil)
def xc_chr_5_0 : ab_C := (29, [(3, 5, 0, []), (1, 0, 0, [])], [], [((1, 108, 108, []), [])], [], 5)
theorem xo_chr_5_0 : ab_Ok sc_P sx_sk xc_chr_5_0 := ab_good_ok (env := []) (heads := []) (fuel := 60) (by decide +kernel) (fun _ h => absurd h List.not_mem_nil)
def xc_chr_5_1 : ab_C := (29, [(3, 5, 0, []), (1, 1, 1, [])], [], [((1, 105, 105, []), [])], [], 5)
theorem xo_chr_5_1 : ab_Ok sc_P sx_sk xc_chr_5_1 := ab_good_ok (env := []) (heads := []) (fuel := 60) (by decide +kernel) (fun _ h => absurd h List.not_mem_nil)
def xc_chr_5_2 : ab_C := (29, [(3, 5, 0, []), (1, 2, 2, [])], [], [((1, 110, 110, []), [])], [], 5)
theorem xo_chr_5_2 : ab_Ok sc_P sx_sk xc_chr_5_2 := ab_good_ok (env := []) (heads := []) (fuel := 60) (by decide +kernel) (fun _ h => absurd h List.not_mem_nil)
def xc_chr_5_3 : ab_C := (29, [(3, 5, 0, []), (1, 3, 3, [])], [], [((1, 101, 101, []), [])], [], 5)
theorem xo_chr_5_3 : ab_Ok sc_P sx_sk xc_chr_5_3 := ab_good_ok (env := []) (heads := []) (fuel := 60) (by decide +kernel) (fun _ h => absurd h List.not_mem_nil)
section HS5
variable {d : Nat} {h : sm_H} {zf zt : Int}
theorem me_len_5 (hS : ab_Sh sx_sk h) : me_E (d + 5) 27 0 [some (.inr (.inr 5))] [] h (fun w h' => h' = h ∧ w = some (.inl 4)) := me_abs1 (m := 27) (M := (1, 1, sb_27)) (as := [.inr (.inr 5)]) xo_len_5 rfl rfl (by decide) hS ⟨rfl, trivial⟩
theorem me_chr_5 {zk : Int} (hS : ab_Sh sx_sk h) (k0 : 0 ≤ zk) (k1 : zk < 4) : me_E (d + 5) 29 0 [some (.inr (.inr 5)), some (.inl zk)] [] h (fun w h' => h' = h ∧ w = some (.inl (ws_5.getD zk.toNat 0))) := by
  rcases (show zk = 0 ∨ zk = 1 ∨ zk = 2 ∨ zk = 3 by omega) with rfl | rfl | rfl | rfl
  · exact me_abs1 (m := 29) (M := (2, 5, sb_29)) (as := [.inr (.inr 5), .inl 0]) (z := 108) xo_chr_5_0 rfl rfl (by decide) hS ⟨rfl, me_nv1 ⟨by decide, by decide⟩ (by decide) (by decide), trivial⟩
  · exact me_abs1 (m := 29) (M := (2, 5, sb_29)) (as := [.inr (.inr 5), .inl 1]) (z := 105) xo_chr_5_1 rfl rfl (by decide) hS ⟨rfl, me_nv1 ⟨by decide, by decide⟩ (by decide) (by decide), trivial⟩
  · exact me_abs1 (m := 29) (M := (2, 5, sb_29)) (as := [.inr (.inr 5), .inl 2]) (z := 110) xo_chr_5_2 rfl rfl (by decide) hS ⟨rfl, me_nv1 ⟨by decide, by decide⟩ (by decide) (by decide), trivial⟩
  · exact me_abs1 (m := 29) (M := (2, 5, sb_29)) (as := [.inr (.inr 5), .inl 3]) (z := 101) xo_chr_5_3 rfl rfl (by decide) hS ⟨rfl, me_nv1 ⟨by decide, by decide⟩ (by decide) (by decide), trivial⟩
theorem hs20_5 (hS : ab_Sh sx_sk h) (f0 : 0 ≤ zf) (f1 : zf ≤ 300) (t0 : 0 ≤ zt) (t1 : zt ≤ 300) : ∀ (N : Nat) (zm zk : Int), 4 - zk < N → 0 ≤ zk → zk ≤ 4 → (zm = 0 ∨ zm = 1) → (zm = 1 → zt - zf = 4 ∧ ∀ j : Nat, (j : Int) < zk → cx_at h (zf + j) = ws_5.getD j 0) → (zm = 0 → ¬ (zt - zf = 4 ∧ wd_m h zf ws_5)) → me_E (d + 6) 26 20 [some (.inr (.inr 52)), some (.inr (.inr 5)), some (.inl zf), some (.inl zt), some (.inl zm), some (.inl zk)] [] h (hs_Q h zf zt ws_5) := by
  intro N
  induction N with
  | zero => intro zm zk hN k0 k1; exfalso; omega
  | succ N ih =>
    intro zm zk hN k0 k1 om hA hB
    have of : mi_in zf := ⟨by omega, by omega⟩
    have ot : mi_in zt := ⟨by omega, by omega⟩
    have omm : mi_in zm := ⟨by omega, by omega⟩
    have ok : mi_in zk := ⟨by omega, by omega⟩
    refine mt_h5C hS of ot omm ok ?_ ?_
    · intro c
      refine ⟨om, fun h1 g1 g2 => ⟨me_nil g2, zm, rfl, om, fun x => by omega, fun x => absurd x (hB c)⟩⟩
    · intro c h1 g1 g2
      have e := me_nil g2
      subst e
      refine ⟨_, me_len_5 (d := d) hS, fun w h2 ow hq => ?_⟩
      obtain ⟨rfl, rfl⟩ := hq
      obtain ⟨a1, a2⟩ := hA (by omega)
      refine mt_h5D (zl := 4) (zy := zk) hS of ot omm ok ⟨by decide, by decide⟩ ok ?_ ?_
      · intro c2
        refine ⟨om, fun h3 g1 g2 => ⟨me_nil g2, zm, rfl, om, fun _ => ⟨a1, fun j hj => a2 j (by have : j < 4 := hj; omega)⟩, fun _ => by omega⟩⟩
      · intro c2 h3 g1 g2
        have e := me_nil g2
        subst e
        refine ⟨_, me_chr_5 (d := d) hS k0 c2, fun w h4 ow hq => ?_⟩
        obtain ⟨rfl, rfl⟩ := hq
        have bc : 0 ≤ ws_5.getD zk.toNat 0 ∧ ws_5.getD zk.toNat 0 ≤ 200 := by
          rcases (show zk = 0 ∨ zk = 1 ∨ zk = 2 ∨ zk = 3 by omega) with rfl | rfl | rfl | rfl <;> decide
        refine mt_h5E (zc := ws_5.getD zk.toNat 0) hS of ot omm ok ⟨by omega, by omega⟩ ⟨⟨by omega, by omega⟩, fun h5 g1 g2 => ?_⟩
        have e := me_nil g2
        subst e
        refine ⟨_, me_cat (d := d + 5) hS ⟨by omega, by omega⟩, fun w h6 ow hq => ?_⟩
        obtain ⟨rfl, rfl⟩ := hq
        have bx := cx_in hS (zf + zk)
        refine mt_h5F (zz := cx_at h6 (zf + zk)) (zc := ws_5.getD zk.toNat 0) hS of ot omm ok ⟨by omega, by omega⟩ ⟨by omega, by omega⟩ ?_ ?_
        · intro c3
          refine ⟨⟨by omega, by omega⟩, fun h7 g1 g2 => ?_⟩
          have e := me_nil g2
          subst e
          refine ih 0 (zk + 1) (by omega) (by omega) (by omega) (Or.inl rfl) (fun x => absurd x (by decide)) (fun _ x => ?_)
          have y := x.2 zk.toNat (by show zk.toNat < 4; omega)
          rw [show ((zk.toNat : Nat) : Int) = zk by omega] at y
          exact c3 y.symm
        · intro c3
          refine ⟨⟨by omega, by omega⟩, fun h7 g1 g2 => ?_⟩
          have e := me_nil g2
          subst e
          refine ih 1 (zk + 1) (by omega) (by omega) (by omega) (Or.inr rfl) (fun _ => ⟨a1, fun j hj => ?_⟩) (fun x => absurd x (by decide))
          by_cases ej : (j : Int) = zk
          · have ej2 : j = zk.toNat := by omega
            rw [ej, ej2]
            exact c3.symm
          · exact a2 j (by omega)
theorem me_has_5 (hS : ab_Sh sx_sk h) (f0 : 0 ≤ zf) (f1 : zf ≤ 300) (t0 : 0 ≤ zt) (t1 : zt ≤ 300) : me_E (d + 6) 26 0 [some (.inr (.inr 52)), some (.inr (.inr 5)), some (.inl zf), some (.inl zt), none, none] [] h (hs_Q h zf zt ws_5) := by
  have of : mi_in zf := ⟨by omega, by omega⟩
  have ot : mi_in zt := ⟨by omega, by omega⟩
  refine mt_h5A hS of ot ⟨⟨by omega, by omega⟩, fun h1 g1 g2 => ?_⟩
  have e := me_nil g2
  subst e
  refine ⟨_, me_len_5 (d := d) hS, fun w h2 ow hq => ?_⟩
  obtain ⟨rfl, rfl⟩ := hq
  refine mt_h5B (zl := 4) (zs := zt - zf) hS of ot ⟨by decide, by decide⟩ ⟨by omega, by omega⟩ ?_ ?_
  · intro c h3 g1 g2
    have e := me_nil g2
    subst e
    exact hs20_5 hS f0 f1 t0 t1 10 0 0 (by decide) (by decide) (by decide) (Or.inl rfl) (fun x => absurd x (by decide)) (fun _ x => c x.1)
  · intro c h3 g1 g2
    have e := me_nil g2
    subst e
    exact hs20_5 hS f0 f1 t0 t1 10 1 0 (by decide) (by decide) (by decide) (Or.inr rfl) (fun _ => ⟨c, fun j hj => by omega⟩) (fun x => absurd x (by decide))
end HS5
def ws_6 : List Int := [100, 101, 101, 112, 101, 114]
def xc_len_6 : ab_C := (27, [(3, 6, 0, [])], [], [((1, 6, 6, []), [])], [], 5)
theorem xo_len_6 : ab_Ok sc_P sx_sk xc_len_6 := ab_good_ok (env := []) (heads := []) (fuel := 40) (by decide +kernel) (fun _ h => absurd h List.not_mem_nil)
def xc_chr_6_0 : ab_C := (29, [(3, 6, 0, []), (1, 0, 0, [])], [], [((1, 100, 100, []), [])], [], 5)
theorem xo_chr_6_0 : ab_Ok sc_P sx_sk xc_chr_6_0 := ab_good_ok (env := []) (heads := []) (fuel := 60) (by decide +kernel) (fun _ h => absurd h List.not_mem_nil)
def xc_chr_6_1 : ab_C := (29, [(3, 6, 0, []), (1, 1, 1, [])], [], [((1, 101, 101, []), [])], [], 5)
theorem xo_chr_6_1 : ab_Ok sc_P sx_sk xc_chr_6_1 := ab_good_ok (env := []) (heads := []) (fuel := 60) (by decide +kernel) (fun _ h => absurd h List.not_mem_nil)
def xc_chr_6_2 : ab_C := (29, [(3, 6, 0, []), (1, 2, 2, [])], [], [((1, 101, 101, []), [])], [], 5)
theorem xo_chr_6_2 : ab_Ok sc_P sx_sk xc_chr_6_2 := ab_good_ok (env := []) (heads := []) (fuel := 60) (by decide +kernel) (fun _ h => absurd h List.not_mem_nil)
def xc_chr_6_3 : ab_C := (29, [(3, 6, 0, []), (1, 3, 3, [])], [], [((1, 112, 112, []), [])], [], 5)
theorem xo_chr_6_3 : ab_Ok sc_P sx_sk xc_chr_6_3 := ab_good_ok (env := []) (heads := []) (fuel := 60) (by decide +kernel) (fun _ h => absurd h List.not_mem_nil)
def xc_chr_6_4 : ab_C := (29, [(3, 6, 0, []), (1, 4, 4, [])], [], [((1, 101, 101, []), [])], [], 5)
theorem xo_chr_6_4 : ab_Ok sc_P sx_sk xc_chr_6_4 := ab_good_ok (env := []) (heads := []) (fuel := 60) (by decide +kernel) (fun _ h => absurd h List.not_mem_nil)
def xc_chr_6_5 : ab_C := (29, [(3, 6, 0, []), (1, 5, 5, [])], [], [((1, 114, 114, []), [])], [], 5)
theorem xo_chr_6_5 : ab_Ok sc_P sx_sk xc_chr_6_5 := ab_good_ok (env := []) (heads := []) (fuel := 60) (by decide +kernel) (fun _ h => absurd h List.not_mem_nil)
section HS6
variable {d : Nat} {h : sm_H} {zf zt : Int}
theorem me_len_6 (hS : ab_Sh sx_sk h) : me_E (d + 5) 27 0 [some (.inr (.inr 6))] [] h (fun w h' => h' = h ∧ w = some (.inl 6)) := me_abs1 (m := 27) (M := (1, 1, sb_27)) (as := [.inr (.inr 6)]) xo_len_6 rfl rfl (by decide) hS ⟨rfl, trivial⟩
theorem me_chr_6 {zk : Int} (hS : ab_Sh sx_sk h) (k0 : 0 ≤ zk) (k1 : zk < 6) : me_E (d + 5) 29 0 [some (.inr (.inr 6)), some (.inl zk)] [] h (fun w h' => h' = h ∧ w = some (.inl (ws_6.getD zk.toNat 0))) := by
  rcases (show zk = 0 ∨ zk = 1 ∨ zk = 2 ∨ zk = 3 ∨ zk = 4 ∨ zk = 5 by omega) with rfl | rfl | rfl | rfl | rfl | rfl
  · exact me_abs1 (m := 29) (M := (2, 5, sb_29)) (as := [.inr (.inr 6), .inl 0]) (z := 100) xo_chr_6_0 rfl rfl (by decide) hS ⟨rfl, me_nv1 ⟨by decide, by decide⟩ (by decide) (by decide), trivial⟩
  · exact me_abs1 (m := 29) (M := (2, 5, sb_29)) (as := [.inr (.inr 6), .inl 1]) (z := 101) xo_chr_6_1 rfl rfl (by decide) hS ⟨rfl, me_nv1 ⟨by decide, by decide⟩ (by decide) (by decide), trivial⟩
  · exact me_abs1 (m := 29) (M := (2, 5, sb_29)) (as := [.inr (.inr 6), .inl 2]) (z := 101) xo_chr_6_2 rfl rfl (by decide) hS ⟨rfl, me_nv1 ⟨by decide, by decide⟩ (by decide) (by decide), trivial⟩
  · exact me_abs1 (m := 29) (M := (2, 5, sb_29)) (as := [.inr (.inr 6), .inl 3]) (z := 112) xo_chr_6_3 rfl rfl (by decide) hS ⟨rfl, me_nv1 ⟨by decide, by decide⟩ (by decide) (by decide), trivial⟩
  · exact me_abs1 (m := 29) (M := (2, 5, sb_29)) (as := [.inr (.inr 6), .inl 4]) (z := 101) xo_chr_6_4 rfl rfl (by decide) hS ⟨rfl, me_nv1 ⟨by decide, by decide⟩ (by decide) (by decide), trivial⟩
  · exact me_abs1 (m := 29) (M := (2, 5, sb_29)) (as := [.inr (.inr 6), .inl 5]) (z := 114) xo_chr_6_5 rfl rfl (by decide) hS ⟨rfl, me_nv1 ⟨by decide, by decide⟩ (by decide) (by decide), trivial⟩
theorem hs20_6 (hS : ab_Sh sx_sk h) (f0 : 0 ≤ zf) (f1 : zf ≤ 300) (t0 : 0 ≤ zt) (t1 : zt ≤ 300) : ∀ (N : Nat) (zm zk : Int), 6 - zk < N → 0 ≤ zk → zk ≤ 6 → (zm = 0 ∨ zm = 1) → (zm = 1 → zt - zf = 6 ∧ ∀ j : Nat, (j : Int) < zk → cx_at h (zf + j) = ws_6.getD j 0) → (zm = 0 → ¬ (zt - zf = 6 ∧ wd_m h zf ws_6)) → me_E (d + 6) 26 20 [some (.inr (.inr 52)), some (.inr (.inr 6)), some (.inl zf), some (.inl zt), some (.inl zm), some (.inl zk)] [] h (hs_Q h zf zt ws_6) := by
  intro N
  induction N with
  | zero => intro zm zk hN k0 k1; exfalso; omega
  | succ N ih =>
    intro zm zk hN k0 k1 om hA hB
    have of : mi_in zf := ⟨by omega, by omega⟩
    have ot : mi_in zt := ⟨by omega, by omega⟩
    have omm : mi_in zm := ⟨by omega, by omega⟩
    have ok : mi_in zk := ⟨by omega, by omega⟩
    refine mt_h6C hS of ot omm ok ?_ ?_
    · intro c
      refine ⟨om, fun h1 g1 g2 => ⟨me_nil g2, zm, rfl, om, fun x => by omega, fun x => absurd x (hB c)⟩⟩
    · intro c h1 g1 g2
      have e := me_nil g2
      subst e
      refine ⟨_, me_len_6 (d := d) hS, fun w h2 ow hq => ?_⟩
      obtain ⟨rfl, rfl⟩ := hq
      obtain ⟨a1, a2⟩ := hA (by omega)
      refine mt_h6D (zl := 6) (zy := zk) hS of ot omm ok ⟨by decide, by decide⟩ ok ?_ ?_
      · intro c2
        refine ⟨om, fun h3 g1 g2 => ⟨me_nil g2, zm, rfl, om, fun _ => ⟨a1, fun j hj => a2 j (by have : j < 6 := hj; omega)⟩, fun _ => by omega⟩⟩
      · intro c2 h3 g1 g2
        have e := me_nil g2
        subst e
        refine ⟨_, me_chr_6 (d := d) hS k0 c2, fun w h4 ow hq => ?_⟩
        obtain ⟨rfl, rfl⟩ := hq
        have bc : 0 ≤ ws_6.getD zk.toNat 0 ∧ ws_6.getD zk.toNat 0 ≤ 200 := by
          rcases (show zk = 0 ∨ zk = 1 ∨ zk = 2 ∨ zk = 3 ∨ zk = 4 ∨ zk = 5 by omega) with rfl | rfl | rfl | rfl | rfl | rfl <;> decide
        refine mt_h6E (zc := ws_6.getD zk.toNat 0) hS of ot omm ok ⟨by omega, by omega⟩ ⟨⟨by omega, by omega⟩, fun h5 g1 g2 => ?_⟩
        have e := me_nil g2
        subst e
        refine ⟨_, me_cat (d := d + 5) hS ⟨by omega, by omega⟩, fun w h6 ow hq => ?_⟩
        obtain ⟨rfl, rfl⟩ := hq
        have bx := cx_in hS (zf + zk)
        refine mt_h6F (zz := cx_at h6 (zf + zk)) (zc := ws_6.getD zk.toNat 0) hS of ot omm ok ⟨by omega, by omega⟩ ⟨by omega, by omega⟩ ?_ ?_
        · intro c3
          refine ⟨⟨by omega, by omega⟩, fun h7 g1 g2 => ?_⟩
          have e := me_nil g2
          subst e
          refine ih 0 (zk + 1) (by omega) (by omega) (by omega) (Or.inl rfl) (fun x => absurd x (by decide)) (fun _ x => ?_)
          have y := x.2 zk.toNat (by show zk.toNat < 6; omega)
          rw [show ((zk.toNat : Nat) : Int) = zk by omega] at y
          exact c3 y.symm
        · intro c3
          refine ⟨⟨by omega, by omega⟩, fun h7 g1 g2 => ?_⟩
          have e := me_nil g2
          subst e
          refine ih 1 (zk + 1) (by omega) (by omega) (by omega) (Or.inr rfl) (fun _ => ⟨a1, fun j hj => ?_⟩) (fun x => absurd x (by decide))
          by_cases ej : (j : Int) = zk
          · have ej2 : j = zk.toNat := by omega
            rw [ej, ej2]
            exact c3.symm
          · exact a2 j (by omega)
theorem me_has_6 (hS : ab_Sh sx_sk h) (f0 : 0 ≤ zf) (f1 : zf ≤ 300) (t0 : 0 ≤ zt) (t1 : zt ≤ 300) : me_E (d + 6) 26 0 [some (.inr (.inr 52)), some (.inr (.inr 6)), some (.inl zf), some (.inl zt), none, none] [] h (hs_Q h zf zt ws_6) := by
  have of : mi_in zf := ⟨by omega, by omega⟩
  have ot : mi_in zt := ⟨by omega, by omega⟩
  refine mt_h6A hS of ot ⟨⟨by omega, by omega⟩, fun h1 g1 g2 => ?_⟩
  have e := me_nil g2
  subst e
  refine ⟨_, me_len_6 (d := d) hS, fun w h2 ow hq => ?_⟩
  obtain ⟨rfl, rfl⟩ := hq
  refine mt_h6B (zl := 6) (zs := zt - zf) hS of ot ⟨by decide, by decide⟩ ⟨by omega, by omega⟩ ?_ ?_
  · intro c h3 g1 g2
    have e := me_nil g2
    subst e
    exact hs20_6 hS f0 f1 t0 t1 10 0 0 (by decide) (by decide) (by decide) (Or.inl rfl) (fun x => absurd x (by decide)) (fun _ x => c x.1)
  · intro c h3 g1 g2
    have e := me_nil g2
    subst e
    exact hs20_6 hS f0 f1 t0 t1 10 1 0 (by decide) (by decide) (by decide) (Or.inr rfl) (fun _ => ⟨c, fun j hj => by omega⟩) (fun x => absurd x (by decide))
end HS6
def ws_7 : List Int := [98, 97, 99, 107]
def xc_len_7 : ab_C := (27, [(3, 7, 0, [])], [], [((1, 4, 4, []), [])], [], 5)
theorem xo_len_7 : ab_Ok sc_P sx_sk xc_len_7 := ab_good_ok (env := []) (heads := []) (fuel := 40) (by decide +kernel) (fun _ h => absurd h List.not_mem_nil)
def xc_chr_7_0 : ab_C := (29, [(3, 7, 0, []), (1, 0, 0, [])], [], [((1, 98, 98, []), [])], [], 5)
theorem xo_chr_7_0 : ab_Ok sc_P sx_sk xc_chr_7_0 := ab_good_ok (env := []) (heads := []) (fuel := 60) (by decide +kernel) (fun _ h => absurd h List.not_mem_nil)
def xc_chr_7_1 : ab_C := (29, [(3, 7, 0, []), (1, 1, 1, [])], [], [((1, 97, 97, []), [])], [], 5)
theorem xo_chr_7_1 : ab_Ok sc_P sx_sk xc_chr_7_1 := ab_good_ok (env := []) (heads := []) (fuel := 60) (by decide +kernel) (fun _ h => absurd h List.not_mem_nil)
def xc_chr_7_2 : ab_C := (29, [(3, 7, 0, []), (1, 2, 2, [])], [], [((1, 99, 99, []), [])], [], 5)
theorem xo_chr_7_2 : ab_Ok sc_P sx_sk xc_chr_7_2 := ab_good_ok (env := []) (heads := []) (fuel := 60) (by decide +kernel) (fun _ h => absurd h List.not_mem_nil)
def xc_chr_7_3 : ab_C := (29, [(3, 7, 0, []), (1, 3, 3, [])], [], [((1, 107, 107, []), [])], [], 5)
theorem xo_chr_7_3 : ab_Ok sc_P sx_sk xc_chr_7_3 := ab_good_ok (env := []) (heads := []) (fuel := 60) (by decide +kernel) (fun _ h => absurd h List.not_mem_nil)
section HS7
variable {d : Nat} {h : sm_H} {zf zt : Int}
theorem me_len_7 (hS : ab_Sh sx_sk h) : me_E (d + 5) 27 0 [some (.inr (.inr 7))] [] h (fun w h' => h' = h ∧ w = some (.inl 4)) := me_abs1 (m := 27) (M := (1, 1, sb_27)) (as := [.inr (.inr 7)]) xo_len_7 rfl rfl (by decide) hS ⟨rfl, trivial⟩
theorem me_chr_7 {zk : Int} (hS : ab_Sh sx_sk h) (k0 : 0 ≤ zk) (k1 : zk < 4) : me_E (d + 5) 29 0 [some (.inr (.inr 7)), some (.inl zk)] [] h (fun w h' => h' = h ∧ w = some (.inl (ws_7.getD zk.toNat 0))) := by
  rcases (show zk = 0 ∨ zk = 1 ∨ zk = 2 ∨ zk = 3 by omega) with rfl | rfl | rfl | rfl
  · exact me_abs1 (m := 29) (M := (2, 5, sb_29)) (as := [.inr (.inr 7), .inl 0]) (z := 98) xo_chr_7_0 rfl rfl (by decide) hS ⟨rfl, me_nv1 ⟨by decide, by decide⟩ (by decide) (by decide), trivial⟩
  · exact me_abs1 (m := 29) (M := (2, 5, sb_29)) (as := [.inr (.inr 7), .inl 1]) (z := 97) xo_chr_7_1 rfl rfl (by decide) hS ⟨rfl, me_nv1 ⟨by decide, by decide⟩ (by decide) (by decide), trivial⟩
  · exact me_abs1 (m := 29) (M := (2, 5, sb_29)) (as := [.inr (.inr 7), .inl 2]) (z := 99) xo_chr_7_2 rfl rfl (by decide) hS ⟨rfl, me_nv1 ⟨by decide, by decide⟩ (by decide) (by decide), trivial⟩
  · exact me_abs1 (m := 29) (M := (2, 5, sb_29)) (as := [.inr (.inr 7), .inl 3]) (z := 107) xo_chr_7_3 rfl rfl (by decide) hS ⟨rfl, me_nv1 ⟨by decide, by decide⟩ (by decide) (by decide), trivial⟩
theorem hs20_7 (hS : ab_Sh sx_sk h) (f0 : 0 ≤ zf) (f1 : zf ≤ 300) (t0 : 0 ≤ zt) (t1 : zt ≤ 300) : ∀ (N : Nat) (zm zk : Int), 4 - zk < N → 0 ≤ zk → zk ≤ 4 → (zm = 0 ∨ zm = 1) → (zm = 1 → zt - zf = 4 ∧ ∀ j : Nat, (j : Int) < zk → cx_at h (zf + j) = ws_7.getD j 0) → (zm = 0 → ¬ (zt - zf = 4 ∧ wd_m h zf ws_7)) → me_E (d + 6) 26 20 [some (.inr (.inr 52)), some (.inr (.inr 7)), some (.inl zf), some (.inl zt), some (.inl zm), some (.inl zk)] [] h (hs_Q h zf zt ws_7) := by
  intro N
  induction N with
  | zero => intro zm zk hN k0 k1; exfalso; omega
  | succ N ih =>
    intro zm zk hN k0 k1 om hA hB
    have of : mi_in zf := ⟨by omega, by omega⟩
    have ot : mi_in zt := ⟨by omega, by omega⟩
    have omm : mi_in zm := ⟨by omega, by omega⟩
    have ok : mi_in zk := ⟨by omega, by omega⟩
    refine mt_h7C hS of ot omm ok ?_ ?_
    · intro c
      refine ⟨om, fun h1 g1 g2 => ⟨me_nil g2, zm, rfl, om, fun x => by omega, fun x => absurd x (hB c)⟩⟩
    · intro c h1 g1 g2
      have e := me_nil g2
      subst e
      refine ⟨_, me_len_7 (d := d) hS, fun w h2 ow hq => ?_⟩
      obtain ⟨rfl, rfl⟩ := hq
      obtain ⟨a1, a2⟩ := hA (by omega)
      refine mt_h7D (zl := 4) (zy := zk) hS of ot omm ok ⟨by decide, by decide⟩ ok ?_ ?_
      · intro c2
        refine ⟨om, fun h3 g1 g2 => ⟨me_nil g2, zm, rfl, om, fun _ => ⟨a1, fun j hj => a2 j (by have : j < 4 := hj; omega)⟩, fun _ => by omega⟩⟩
      · intro c2 h3 g1 g2
        have e := me_nil g2
        subst e
        refine ⟨_, me_chr_7 (d := d) hS k0 c2, fun w h4 ow hq => ?_⟩
        obtain ⟨rfl, rfl⟩ := hq
        have bc : 0 ≤ ws_7.getD zk.toNat 0 ∧ ws_7.getD zk.toNat 0 ≤ 200 := by
          rcases (show zk = 0 ∨ zk = 1 ∨ zk = 2 ∨ zk = 3 by omega) with rfl | rfl | rfl | rfl <;> decide
        refine mt_h7E (zc := ws_7.getD zk.toNat 0) hS of ot omm ok ⟨by omega, by omega⟩ ⟨⟨by omega, by omega⟩, fun h5 g1 g2 => ?_⟩
        have e := me_nil g2
        subst e
        refine ⟨_, me_cat (d := d + 5) hS ⟨by omega, by omega⟩, fun w h6 ow hq => ?_⟩
        obtain ⟨rfl, rfl⟩ := hq
        have bx := cx_in hS (zf + zk)
        refine mt_h7F (zz := cx_at h6 (zf + zk)) (zc := ws_7.getD zk.toNat 0) hS of ot omm ok ⟨by omega, by omega⟩ ⟨by omega, by omega⟩ ?_ ?_
        · intro c3
          refine ⟨⟨by omega, by omega⟩, fun h7 g1 g2 => ?_⟩
          have e := me_nil g2
          subst e
          refine ih 0 (zk + 1) (by omega) (by omega) (by omega) (Or.inl rfl) (fun x => absurd x (by decide)) (fun _ x => ?_)
          have y := x.2 zk.toNat (by show zk.toNat < 4; omega)
          rw [show ((zk.toNat : Nat) : Int) = zk by omega] at y
          exact c3 y.symm
        · intro c3
          refine ⟨⟨by omega, by omega⟩, fun h7 g1 g2 => ?_⟩
          have e := me_nil g2
          subst e
          refine ih 1 (zk + 1) (by omega) (by omega) (by omega) (Or.inr rfl) (fun _ => ⟨a1, fun j hj => ?_⟩) (fun x => absurd x (by decide))
          by_cases ej : (j : Int) = zk
          · have ej2 : j = zk.toNat := by omega
            rw [ej, ej2]
            exact c3.symm
          · exact a2 j (by omega)
theorem me_has_7 (hS : ab_Sh sx_sk h) (f0 : 0 ≤ zf) (f1 : zf ≤ 300) (t0 : 0 ≤ zt) (t1 : zt ≤ 300) : me_E (d + 6) 26 0 [some (.inr (.inr 52)), some (.inr (.inr 7)), some (.inl zf), some (.inl zt), none, none] [] h (hs_Q h zf zt ws_7) := by
  have of : mi_in zf := ⟨by omega, by omega⟩
  have ot : mi_in zt := ⟨by omega, by omega⟩
  refine mt_h7A hS of ot ⟨⟨by omega, by omega⟩, fun h1 g1 g2 => ?_⟩
  have e := me_nil g2
  subst e
  refine ⟨_, me_len_7 (d := d) hS, fun w h2 ow hq => ?_⟩
  obtain ⟨rfl, rfl⟩ := hq
  refine mt_h7B (zl := 4) (zs := zt - zf) hS of ot ⟨by decide, by decide⟩ ⟨by omega, by omega⟩ ?_ ?_
  · intro c h3 g1 g2
    have e := me_nil g2
    subst e
    exact hs20_7 hS f0 f1 t0 t1 10 0 0 (by decide) (by decide) (by decide) (Or.inl rfl) (fun x => absurd x (by decide)) (fun _ x => c x.1)
  · intro c h3 g1 g2
    have e := me_nil g2
    subst e
    exact hs20_7 hS f0 f1 t0 t1 10 1 0 (by decide) (by decide) (by decide) (Or.inr rfl) (fun _ => ⟨c, fun j hj => by omega⟩) (fun x => absurd x (by decide))
end HS7
/-! words and their codes -/
theorem tx_code_cg {c c' : Nat → Int} : ∀ (m : Nat) (k k' : Int), (∀ j : Nat, j < m → c (k + j).toNat = c' (k' + j).toNat) → tx_code c k m = tx_code c' k' m := by
  intro m
  induction m with
  | zero => intro k k' _; rfl
  | succ m ih =>
    intro k k' h
    have h0 := h 0 (by omega)
    rw [show k + ((0 : Nat) : Int) = k by omega, show k' + ((0 : Nat) : Int) = k' by omega] at h0
    have := ih (k + 1) (k' + 1) (fun j hj => by
      have := h (j + 1) (by omega)
      rw [show k + ((j + 1 : Nat) : Int) = k + 1 + j by omega, show k' + ((j + 1 : Nat) : Int) = k' + 1 + j by omega] at this
      exact this)
    show (c k.toNat - 96) + 32 * tx_code c (k + 1) m = (c' k'.toNat - 96) + 32 * tx_code c' (k' + 1) m
    rw [h0, this]
theorem tx_code_inj {c c' : Nat → Int} : ∀ (m m' : Nat) (k k' : Int), (∀ j : Nat, j < m → tx_low (c (k + j).toNat)) → (∀ j : Nat, j < m' → tx_low (c' (k' + j).toNat)) → tx_code c k m = tx_code c' k' m' → m = m' ∧ ∀ j : Nat, j < m → c (k + j).toNat = c' (k' + j).toNat := by
  intro m
  induction m with
  | zero =>
    intro m' k k' _ h' e
    cases m' with
    | zero => exact ⟨rfl, fun j hj => by omega⟩
    | succ m' =>
      exfalso
      have h0 := h' 0 (by omega)
      rw [show k' + ((0 : Nat) : Int) = k' by omega] at h0
      have cb := tx_code_b (c := c') m' (k' + 1) (fun j a1 a2 => by
        have := h' (j - k').toNat (by omega)
        rw [show k' + (((j - k').toNat : Nat) : Int) = j by omega] at this
        exact this)
      have e : (0 : Int) = (c' k'.toNat - 96) + 32 * tx_code c' (k' + 1) m' := e
      have := h0.1
      omega
  | succ m ih =>
    intro m' k k' h h' e
    have h0 := h 0 (by omega)
    rw [show k + ((0 : Nat) : Int) = k by omega] at h0
    have cb := tx_code_b (c := c) m (k + 1) (fun j a1 a2 => by
      have := h (j - k).toNat (by omega)
      rw [show k + (((j - k).toNat : Nat) : Int) = j by omega] at this
      exact this)
    cases m' with
    | zero =>
      exfalso
      have e : (c k.toNat - 96) + 32 * tx_code c (k + 1) m = 0 := e
      have := h0.1
      omega
    | succ m' =>
      have h0' := h' 0 (by omega)
      rw [show k' + ((0 : Nat) : Int) = k' by omega] at h0'
      have e : (c k.toNat - 96) + 32 * tx_code c (k + 1) m = (c' k'.toNat - 96) + 32 * tx_code c' (k' + 1) m' := e
      unfold tx_low at h0 h0'
      obtain ⟨i1, i2⟩ := ih m' (k + 1) (k' + 1) (fun j hj => by
        have := h (j + 1) (by omega)
        rw [show k + ((j + 1 : Nat) : Int) = k + 1 + j by omega] at this
        exact this) (fun j hj => by
        have := h' (j + 1) (by omega)
        rw [show k' + ((j + 1 : Nat) : Int) = k' + 1 + j by omega] at this
        exact this) (by omega)
      refine ⟨by omega, fun j hj => ?_⟩
      cases j with
      | zero =>
        rw [show k + ((0 : Nat) : Int) = k by omega, show k' + ((0 : Nat) : Int) = k' by omega]
        omega
      | succ j =>
        rw [show k + ((j + 1 : Nat) : Int) = k + 1 + j by omega, show k' + ((j + 1 : Nat) : Int) = k' + 1 + j by omega]
        exact i2 j (by omega)
/-- a word stands there if its code does -/
theorem wd_iff {h : sm_H} {p e κ : Int} {ws : List Int} (p0 : 0 ≤ p) (he : tx_end tx_low (mi_f h 6657) (mi_a h 53) p e) (hl : ws.length ≤ 6) (hw : ws.all (fun z => decide (97 ≤ z ∧ z ≤ 122)) = true) (hκ : tx_code (fun i => ws.getD i 0) 0 ws.length = κ) : (e - p = (ws.length : Int) ∧ wd_m h p ws) ↔ (e - p ≤ 6 ∧ tx_code (mi_a h 53) p (e - p).toNat = κ) := by
  obtain ⟨e1, e2, e3⟩ := he
  have lowW : ∀ j : Nat, j < ws.length → tx_low ((fun i => ws.getD i 0) ((0 : Int) + j).toNat) := fun j hj => by
    have hm : ws.getD j 0 ∈ ws := by
      rw [List.getD_eq_getElem?_getD, List.getElem?_eq_getElem hj]
      exact List.getElem_mem hj
    have := of_decide_eq_true (List.all_eq_true.mp hw _ hm)
    show tx_low (ws.getD ((0 : Int) + j).toNat 0)
    rw [show ((0 : Int) + j).toNat = j by omega]
    exact this
  have at_ : ∀ j : Nat, (j : Int) < e - p → cx_at h (p + j) = mi_a h 53 (p + j).toNat := fun j hj => by
    have := (e2 (p + j) (by omega) (by omega)).1
    unfold cx_at
    rw [if_pos ⟨by omega, this⟩]
  have lowC : ∀ j : Nat, j < (e - p).toNat → tx_low (mi_a h 53 (p + j).toNat) := fun j hj => (e2 (p + j) (by omega) (by omega)).2
  constructor
  · rintro ⟨a1, a2⟩
    refine ⟨by omega, ?_⟩
    rw [← hκ, a1, show ((ws.length : Int)).toNat = ws.length from rfl]
    refine tx_code_cg ws.length p 0 (fun j hj => ?_)
    rw [← at_ j (by omega), a2 j hj, show ((0 : Int) + j).toNat = j by omega]
  · rintro ⟨a1, a2⟩
    obtain ⟨i1, i2⟩ := tx_code_inj _ _ p 0 lowC lowW (a2.trans hκ.symm)
    refine ⟨by omega, fun j hj => ?_⟩
    rw [at_ j (by omega), i2 j (by omega), show ((0 : Int) + j).toNat = j by omega]
def so_c (v : Int) : Int := if v = 609302190 then 1 else if v = 177198 then 2 else if v = 26886565 then 3 else if v = 11994498 then 4 else if v = 178476 then 5 else if v = 609752228 then 6 else if v = 363554 then 7 else 12
/-! where a character stands among the marks -/
def xc_lat : ab_C := (30, [(3, 8, 0, [])], [], [((1, 1, 1, []), [])], [], 5)
theorem xo_lat : ab_Ok sc_P sx_sk xc_lat := ab_good_ok (env := []) (heads := []) (fuel := 40) (by decide +kernel) (fun _ h => absurd h List.not_mem_nil)
def xc_enc : ab_C := (43, [(1, 0, 126, [])], [], [((1, 1, 1, []), [])], [], 5)
theorem xo_enc : ab_Ok sc_P sx_sk xc_enc := ab_good_ok (env := []) (heads := []) (fuel := 40) (by decide +kernel) (fun _ h => absurd h List.not_mem_nil)
def xc_len_8 : ab_C := (27, [(3, 8, 0, [])], [], [((1, 8, 8, []), [])], [], 5)
theorem xo_len_8 : ab_Ok sc_P sx_sk xc_len_8 := ab_good_ok (env := []) (heads := []) (fuel := 40) (by decide +kernel) (fun _ h => absurd h List.not_mem_nil)
def ix_w : List Int := [61, 59, 124, 42, 63, 41, 126, 43]
def ix_Q (h : sm_H) (zc : Int) (w : Option mi_V) (h' : sm_H) : Prop := h' = h ∧ ∃ z, w = some (.inl z) ∧ mi_in z ∧ (0 ≤ z ↔ tx_own zc ∧ zc ≠ 40)
section IDX
variable {d : Nat} {h : sm_H} {zc : Int}
theorem ix_at (hS : ab_Sh sx_sk h) {i : Nat} (hi : i < 8) : mi_a h 33 i = ix_w.getD i 0 := by
  obtain ⟨f, hh, hf⟩ := mx_arr (a := 33) (t := 4) (n := 8) (lo := -128) (hi := 127) (ex := ix_w) hS rfl (by decide)
  obtain ⟨-, -, e⟩ := hf i hi
  have e1 : mi_a h 33 i = (f i).toInt := by
    unfold mi_a mx_a
    rw [hh]
  rw [e1]
  refine e _ ?_
  rw [List.getD_eq_getElem?_getD, List.getElem?_eq_getElem (show i < ix_w.length from hi)]
  rfl
theorem ix7 (hS : ab_Sh sx_sk h) (c0 : 0 ≤ zc) (c1 : zc ≤ 126) : ∀ (N : Nat) (zi : Int), 8 - zi < N → 0 ≤ zi → zi ≤ 8 → (∀ j : Nat, (j : Int) < zi → ix_w.getD j 0 ≠ zc) → me_E d 44 7 [some (.inr (.inr 33)), some (.inl zc), some (.inl 0), some (.inl 8), some (.inl zc), some (.inl zi)] [] h (ix_Q h zc) := by
  intro N
  induction N with
  | zero => intro zi hN i0 i1; exfalso; omega
  | succ N ih =>
    intro zi hN i0 i1 hn
    have oc : mi_in zc := ⟨by omega, by omega⟩
    refine mt_ixB hS oc ⟨by decide, by decide⟩ ⟨by decide, by decide⟩ oc ⟨by omega, by omega⟩ ?_ ?_ ?_
    · intro c h1 g1 g2
      have n0 : (61 : Int) ≠ zc := hn 0 (by omega)
      have n1 : (59 : Int) ≠ zc := hn 1 (by omega)
      have n2 : (124 : Int) ≠ zc := hn 2 (by omega)
      have n3 : (42 : Int) ≠ zc := hn 3 (by omega)
      have n4 : (63 : Int) ≠ zc := hn 4 (by omega)
      have n5 : (41 : Int) ≠ zc := hn 5 (by omega)
      have n6 : (126 : Int) ≠ zc := hn 6 (by omega)
      have n7 : (43 : Int) ≠ zc := hn 7 (by omega)
      refine ⟨me_nil g2, -1, rfl, ⟨by decide, by decide⟩, fun x => absurd x (by decide), fun x => ?_⟩
      unfold tx_own at x
      omega
    · intro c c2
      rw [ix_at hS (by omega)] at c2
      refine ⟨⟨⟨by omega, by omega⟩, ⟨by omega, by omega⟩⟩, fun h1 g1 g2 => ?_⟩
      have e := me_nil g2
      subst e
      refine ih (zi + 1) (by omega) (by omega) (by omega) (fun j hj => ?_)
      by_cases ej : (j : Int) = zi
      · rw [show j = zi.toNat by omega]
        exact c2
      · exact hn j (by omega)
    · intro c c2
      rw [ix_at hS (by omega)] at c2
      refine ⟨⟨by omega, by omega⟩, fun h1 g1 g2 => ⟨me_nil g2, zi, rfl, ⟨by omega, by omega⟩, fun _ => ?_, fun _ => i0⟩⟩
      rw [← c2]
      rcases (show zi = 0 ∨ zi = 1 ∨ zi = 2 ∨ zi = 3 ∨ zi = 4 ∨ zi = 5 ∨ zi = 6 ∨ zi = 7 by omega) with rfl | rfl | rfl | rfl | rfl | rfl | rfl | rfl <;> exact ⟨by unfold tx_own; decide, by decide⟩
theorem me_idx (hS : ab_Sh sx_sk h) (c0 : 0 ≤ zc) (c1 : zc ≤ 126) : me_E (d + 8) 40 0 [some (.inr (.inr 8)), some (.inl zc)] [] h (ix_Q h zc) := by
  have oc : mi_in zc := ⟨by omega, by omega⟩
  have o0 : mi_in 0 := ⟨by decide, by decide⟩
  have o8 : mi_in 8 := ⟨by decide, by decide⟩
  have A42 : me_E (d + 6) 42 0 [some (.inr (.inr 33)), some (.inl zc), some (.inl 0), some (.inl 8)] [] h (ix_Q h zc) := by
    refine mt_iyA hS oc o0 o8 (fun h1 g1 g2 => ?_)
    have e := me_nil g2
    subst e
    refine ⟨_, me_abs1 (d := d) (m := 43) (M := (1, 4, sb_43)) (as := [.inl zc]) (z := 1) xo_enc rfl rfl (by decide) hS ⟨me_nv1 oc c0 c1, trivial⟩, fun w h2 ow hq => ?_⟩
    obtain ⟨rfl, rfl⟩ := hq
    refine mt_iyB (zz := 1) hS oc o0 o8 ⟨by decide, by decide⟩ ?_ ?_ ?_ ?_ ?_ ?_ ?_ ?_
    · intro _ c; exact absurd c (by decide)
    · intro _ c; exact absurd c (by decide)
    · intro _ c; exact absurd c (by decide)
    · intro _ _ c; exact absurd c (by decide)
    · intro _ _ c; exact absurd c (by decide)
    · intro _ _ _ _ h3 g1 g2
      have e := me_nil g2
      subst e
      refine ⟨ix_Q h3 zc, ?_, fun w h4 ow hq => ?_⟩
      · refine mt_ixA (d := d + 5) hS oc o0 o8 ⟨⟨by omega, by omega⟩, fun h4 g1 g2 => ?_⟩
        have e := me_nil g2
        subst e
        exact ix7 hS c0 c1 10 0 (by decide) (by decide) (by decide) (fun j hj => by omega)
      · obtain ⟨rfl, z, rfl, oz, hz⟩ := hq
        refine mt_iyC (zz := z) hS oc o0 o8 oz (fun h5 g1 g2 => ⟨me_nil g2, z, rfl, oz, hz⟩)
    · intro _ _ _ c; exact absurd c (by decide)
    · intro c; exact absurd c (by decide)
  refine mt_iwA hS oc (fun h1 g1 g2 => ?_)
  have e := me_nil g2
  subst e
  refine ⟨ix_Q h1 zc, ?_, fun w h2 ow hq => ?_⟩
  · refine mt_izA hS oc o0 (fun h2 g1 g2 => ?_)
    have e := me_nil g2
    subst e
    refine ⟨_, me_abs1 (d := d + 1) (m := 30) (M := (1, 4, sb_30)) (as := [.inr (.inr 8)]) (z := 1) xo_lat rfl rfl (by decide) hS ⟨rfl, trivial⟩, fun w h3 ow hq => ?_⟩
    obtain ⟨rfl, rfl⟩ := hq
    refine mt_izB (zz := 1) hS oc o0 ⟨by decide, by decide⟩ (fun c => absurd c (by decide)) (fun _ h4 g1 g2 => ?_)
    have e := me_nil g2
    subst e
    refine ⟨_, me_abs1 (d := d + 1) (m := 27) (M := (1, 1, sb_27)) (as := [.inr (.inr 8)]) (z := 8) xo_len_8 rfl rfl (by decide) hS ⟨rfl, trivial⟩, fun w h5 ow hq => ?_⟩
    obtain ⟨rfl, rfl⟩ := hq
    refine mt_izC hS oc o0 o8 (fun h6 g1 g2 => ?_)
    have e := me_nil g2
    subst e
    refine ⟨_, A42, fun w h7 ow hq => ?_⟩
    obtain ⟨rfl, z, rfl, oz, hz⟩ := hq
    exact mt_izD (zz := z) hS oc o0 oz (fun h8 g1 g2 => ⟨me_nil g2, z, rfl, oz, hz⟩)
  · obtain ⟨rfl, z, rfl, oz, hz⟩ := hq
    exact mt_iwB (zz := z) hS oc oz (fun h3 g1 g2 => ⟨me_nil g2, z, rfl, oz, hz⟩)
end IDX
/-! the class's Tokens, exactly -/
def cs_t (t v : Int) : Int := if t = 0 then 0 else if t = 1 then so_c v else if t = 2 then 9 else if t = 3 ∨ t = 4 then 8 else if t = 5 then 11 else if t = 6 then 12 else if t = 40 then 10 else t
def cc_t (t v : Int) : Int := if t = 2 then v + 65 else if t = 3 then v else if t = 4 then -v else if t = 5 then v else 0
def ca_W : List (Nat × Nat) := [(9857, 9861)]
/-- the characters of the description are those that the document allows -/
def cx_ok (h : sm_H) : Prop := ∀ i : Nat, (i : Int) < mi_f h 6657 → mi_a h 53 i = 10 ∨ (32 ≤ mi_a h 53 i ∧ mi_a h 53 i ≤ 126)
def ca_R (h0 h' : sm_H) (a : Int) : Prop := ∃ t v e, tk_T (mi_f h0 6657) (mi_a h0 53) a t v (mi_f h' 9858) e ∧ mi_f h' 9859 = cs_t t v ∧ (t ≠ 0 → t ≠ 6 → cs_t t v ≠ 12 → mi_f h' 9860 = cc_t t v ∧ mi_f h' 9857 = e)
def ca_Q (h0 : sm_H) (a : Int) (w : Option mi_V) (h' : sm_H) : Prop := w = none ∧ ab_Sh sx_sk h' ∧ ab_Fr ca_W h0 h' ∧ ca_R h0 h' a
/-- a taker begins: the blanks are passed -/
def ca_P (h0 h : sm_H) (a : Int) : Prop := ab_Sh sx_sk h0 ∧ ab_Sh sx_sk h ∧ ab_Fr ca_W h0 h ∧ cx_ok h0 ∧ tx_end tx_blk (mi_f h0 6657) (mi_a h0 53) a (mi_f h 9858) ∧ mi_f h 9858 < mi_f h0 6657 ∧ mi_f h 9860 = 0
section CTK
variable {d : Nat} {h0 h : sm_H} {a : Int}
theorem ca_e (hP : ca_P h0 h a) : mi_f h 6657 = mi_f h0 6657 ∧ mi_a h 53 = mi_a h0 53 := ⟨me_f (c := 6657) hP.2.2.1 hP.1 rfl rfl, funext (fun i => me_a (k := 53) hP.2.2.1 hP.1 rfl rfl)⟩
/-- no token: 12 -/
theorem ca_no (hP : ca_P h0 h a) (ht : ∀ v e, tk_T (mi_f h0 6657) (mi_a h0 53) a 6 v (mi_f h 9858) e) {h1 : sm_H} {wr : List (Nat × Nat)} (hw : ab_sub_wr wr [(9857, 9858), (9859, 9861)] = true) (g1 : ab_Sh sx_sk h1) (g2 : mi_f h1 9859 = 12) (g3 : ab_Fr wr h h1) : ca_Q h0 a none h1 := by
  have g3 : ab_Fr [(9857, 9858), (9859, 9861)] h h1 := g3.wide (fun c hc => ab_swr_ok hw hc)
  have e8 : mi_f h1 9858 = mi_f h 9858 := me_f (c := 9858) g3 hP.2.1 rfl rfl
  refine ⟨rfl, g1, hP.2.2.1.trans (g3.wide (fun c hc => ab_swr_ok (by decide) hc)), 6, 0, 0, ?_, g2, fun _ c => absurd rfl c⟩
  rw [e8]
  exact ht 0 0
theorem me_tword (hP : ca_P h0 h a) (hc : tx_low (mi_a h0 53 (mi_f h 9858).toNat)) : me_E (d + 8) 24 0 [some (.inr (.inr 77))] [] h (ca_Q h0 a) := by
  obtain ⟨en, ea⟩ := ca_e hP
  obtain ⟨hS0, hS, hF, hx, hp, hpn, h60⟩ := hP
  have bn := me_fb (c := 6657) hS0 rfl
  have b8 := me_fb (c := 9858) hS rfl
  refine mt_twA hS (fun h1 g1 g2 => ?_)
  have e := me_nil g2
  subst e
  refine ⟨_, me_cletters (d := d + 6) hS b8.1 (by omega), fun w h2 ow hq => ?_⟩
  obtain ⟨rfl, e, rfl, he⟩ := hq
  rw [en, ea] at he
  have e1 := he.1
  have e2 := tx_end_n he (by omega)
  refine mt_twB (zz := e) hS ⟨by omega, by omega⟩ ⟨⟨by omega, by omega⟩, fun h1 g1 g2 g3 => ?_⟩
  have n8 : mi_f h1 9858 = mi_f h2 9858 := me_f (c := 9858) g3 hS rfl rfl
  have n57 : mi_f h1 6657 = mi_f h0 6657 := (me_f (c := 6657) g3 hS rfl rfl).trans en
  have n53 : mi_a h1 53 = mi_a h0 53 := (funext (fun i => me_a (k := 53) g3 hS rfl rfl)).trans ea
  have n60 : mi_f h1 9860 = 0 := (me_f (c := 9860) g3 hS rfl rfl).trans h60
  have F1 : ab_Fr ca_W h0 h1 := hF.trans (g3.wide (fun c hc => ab_swr_ok (by decide) hc))
  have he1 : tx_end tx_low (mi_f h1 6657) (mi_a h1 53) (mi_f h2 9858) e := by rw [n57, n53]; exact he
  generalize hV : (if 6 < e - mi_f h2 9858 then (-1 : Int) else tx_code (mi_a h0 53) (mi_f h2 9858) (e - mi_f h2 9858).toNat) = V
  have vd : (6 < e - mi_f h2 9858 ∧ V = -1) ∨ (e - mi_f h2 9858 ≤ 6 ∧ V = tx_code (mi_a h0 53) (mi_f h2 9858) (e - mi_f h2 9858).toNat) := by
    rw [← hV]
    split
    · exact Or.inl ⟨by assumption, rfl⟩
    · exact Or.inr ⟨by omega, rfl⟩
  have wd : ∀ {ws : List Int} {κ : Int}, κ ≠ -1 → ws.length ≤ 6 → ws.all (fun z => decide (97 ≤ z ∧ z ≤ 122)) = true → tx_code (fun i => ws.getD i 0) 0 ws.length = κ → ((e - mi_f h2 9858 = (ws.length : Int) ∧ wd_m h1 (mi_f h2 9858) ws) ↔ V = κ) := fun {ws κ} k1 k2 k3 k4 => by
    rw [wd_iff b8.1 he1 k2 k3 k4, n53]
    constructor
    · rintro ⟨x1, x2⟩
      rcases vd with ⟨y1, y2⟩ | ⟨y1, y2⟩
      · omega
      · rw [y2, x2]
    · intro x
      rcases vd with ⟨y1, y2⟩ | ⟨y1, y2⟩
      · exact absurd (x.symm.trans y2) k1
      · exact ⟨y1, y2.symm.trans x⟩
  have fin : ∀ {s : Int} {h4 : sm_H}, so_c V = s → ab_Sh sx_sk h4 → mi_f h4 9859 = s → ab_Fr [(9859, 9860)] h1 h4 → ca_Q h0 a none h4 := fun {s h4} es r1 r2 r3 => by
    have m8 : mi_f h4 9858 = mi_f h2 9858 := (me_f (c := 9858) r3 g1 rfl rfl).trans n8
    have m7 : mi_f h4 9857 = e := (me_f (c := 9857) r3 g1 rfl rfl).trans g2
    have m0 : mi_f h4 9860 = 0 := (me_f (c := 9860) r3 g1 rfl rfl).trans n60
    refine ⟨rfl, r1, F1.trans (r3.wide (fun c hc => ab_swr_ok (by decide) hc)), 1, V, e, ?_, ?_, fun _ _ _ => ⟨m0, m7⟩⟩
    · rw [m8]
      exact ⟨hp, Or.inr ⟨hpn, Or.inl ⟨hc, rfl, he, vd⟩⟩⟩
    · rw [r2, ← es]
      rfl

  have w1 := wd (ws := ws_1) (κ := 609302190) (by decide) (by decide) (by decide) (by decide)
  have w2 := wd (ws := ws_2) (κ := 177198) (by decide) (by decide) (by decide) (by decide)
  have w3 := wd (ws := ws_3) (κ := 26886565) (by decide) (by decide) (by decide) (by decide)
  have w4 := wd (ws := ws_4) (κ := 11994498) (by decide) (by decide) (by decide) (by decide)
  have w5 := wd (ws := ws_5) (κ := 178476) (by decide) (by decide) (by decide) (by decide)
  have w6 := wd (ws := ws_6) (κ := 609752228) (by decide) (by decide) (by decide) (by decide)
  have w7 := wd (ws := ws_7) (κ := 363554) (by decide) (by decide) (by decide) (by decide)
  refine ⟨_, me_has_1 (d := d + 1) g1 b8.1 (by omega) (by omega) (by omega), fun w h3 ow hq => ?_⟩
  obtain ⟨rfl, z, rfl, oz, hz⟩ := hq
  refine mt_tw1 (zz := z) g1 ⟨by omega, by omega⟩ ?_ ?_
  rotate_left
  · intro c h4 r1 r2 r3
    exact fin (s := 1) (by unfold so_c; rw [if_pos (w1.mp (hz.mp (by omega)))]) r1 r2 r3
  intro c h4 r1 r2
  have x := me_nil r2
  subst x
  have n1 : V ≠ 609302190 := fun y => by have := hz.mpr (w1.mpr y); omega
  rw [n8, g2]
  refine ⟨_, me_has_2 (d := d + 1) g1 b8.1 (by omega) (by omega) (by omega), fun w h5 ow hq => ?_⟩
  clear hz oz c
  obtain ⟨rfl, z, rfl, oz, hz⟩ := hq
  refine mt_tw2 (zz := z) g1 ⟨by omega, by omega⟩ ?_ ?_
  rotate_left
  · intro c h4 r1 r2 r3
    exact fin (s := 2) (by unfold so_c; rw [if_neg n1, if_pos (w2.mp (hz.mp (by omega)))]) r1 r2 r3
  intro c h4 r1 r2
  have x := me_nil r2
  subst x
  have n2 : V ≠ 177198 := fun y => by have := hz.mpr (w2.mpr y); omega
  rw [n8, g2]
  refine ⟨_, me_has_3 (d := d + 1) g1 b8.1 (by omega) (by omega) (by omega), fun w h5 ow hq => ?_⟩
  clear hz oz c
  obtain ⟨rfl, z, rfl, oz, hz⟩ := hq
  refine mt_tw3 (zz := z) g1 ⟨by omega, by omega⟩ ?_ ?_
  rotate_left
  · intro c h4 r1 r2 r3
    exact fin (s := 3) (by unfold so_c; rw [if_neg n1, if_neg n2, if_pos (w3.mp (hz.mp (by omega)))]) r1 r2 r3
  intro c h4 r1 r2
  have x := me_nil r2
  subst x
  have n3 : V ≠ 26886565 := fun y => by have := hz.mpr (w3.mpr y); omega
  rw [n8, g2]
  refine ⟨_, me_has_4 (d := d + 1) g1 b8.1 (by omega) (by omega) (by omega), fun w h5 ow hq => ?_⟩
  clear hz oz c
  obtain ⟨rfl, z, rfl, oz, hz⟩ := hq
  refine mt_tw4 (zz := z) g1 ⟨by omega, by omega⟩ ?_ ?_
  rotate_left
  · intro c h4 r1 r2 r3
    exact fin (s := 4) (by unfold so_c; rw [if_neg n1, if_neg n2, if_neg n3, if_pos (w4.mp (hz.mp (by omega)))]) r1 r2 r3
  intro c h4 r1 r2
  have x := me_nil r2
  subst x
  have n4 : V ≠ 11994498 := fun y => by have := hz.mpr (w4.mpr y); omega
  rw [n8, g2]
  refine ⟨_, me_has_5 (d := d + 1) g1 b8.1 (by omega) (by omega) (by omega), fun w h5 ow hq => ?_⟩
  clear hz oz c
  obtain ⟨rfl, z, rfl, oz, hz⟩ := hq
  refine mt_tw5 (zz := z) g1 ⟨by omega, by omega⟩ ?_ ?_
  rotate_left
  · intro c h4 r1 r2 r3
    exact fin (s := 5) (by unfold so_c; rw [if_neg n1, if_neg n2, if_neg n3, if_neg n4, if_pos (w5.mp (hz.mp (by omega)))]) r1 r2 r3
  intro c h4 r1 r2
  have x := me_nil r2
  subst x
  have n5 : V ≠ 178476 := fun y => by have := hz.mpr (w5.mpr y); omega
  rw [n8, g2]
  refine ⟨_, me_has_6 (d := d + 1) g1 b8.1 (by omega) (by omega) (by omega), fun w h5 ow hq => ?_⟩
  clear hz oz c
  obtain ⟨rfl, z, rfl, oz, hz⟩ := hq
  refine mt_tw6 (zz := z) g1 ⟨by omega, by omega⟩ ?_ ?_
  rotate_left
  · intro c h4 r1 r2 r3
    exact fin (s := 6) (by unfold so_c; rw [if_neg n1, if_neg n2, if_neg n3, if_neg n4, if_neg n5, if_pos (w6.mp (hz.mp (by omega)))]) r1 r2 r3
  intro c h4 r1 r2
  have x := me_nil r2
  subst x
  have n6 : V ≠ 609752228 := fun y => by have := hz.mpr (w6.mpr y); omega
  rw [n8, g2]
  refine ⟨_, me_has_7 (d := d + 1) g1 b8.1 (by omega) (by omega) (by omega), fun w h5 ow hq => ?_⟩
  clear hz oz c
  obtain ⟨rfl, z, rfl, oz, hz⟩ := hq
  refine mt_tw7 (zz := z) g1 ⟨by omega, by omega⟩ ?_ ?_
  · intro c h4 r1 r2 r3
    exact fin (s := 12) (by unfold so_c; rw [if_neg n1, if_neg n2, if_neg n3, if_neg n4, if_neg n5, if_neg n6, if_neg (fun y => by have := hz.mpr (w7.mpr y); omega)]) r1 r2 r3
  · intro c h4 r1 r2 r3
    exact fin (s := 7) (by unfold so_c; rw [if_neg n1, if_neg n2, if_neg n3, if_neg n4, if_neg n5, if_neg n6, if_pos (w7.mp (hz.mp (by omega)))]) r1 r2 r3
theorem me_tkeyword (hP : ca_P h0 h a) (hc : mi_a h0 53 (mi_f h 9858).toNat = 34) : me_E (d + 8) 33 0 [some (.inr (.inr 77)), none, none] [] h (ca_Q h0 a) := by
  obtain ⟨en, ea⟩ := ca_e hP
  obtain ⟨hS0, hS, hF, hx, hp, hpn, h60⟩ := id hP
  have bn := me_fb (c := 6657) hS0 rfl
  have b8 := me_fb (c := 9858) hS rfl
  refine mt_tkA hS (fun b => ⟨⟨by omega, by omega⟩, fun h1 g1 g2 => ?_⟩)
  have e := me_nil g2
  subst e
  refine ⟨_, me_cletters (d := d + 6) hS (by omega) (by omega), fun w h2 ow hq => ?_⟩
  obtain ⟨rfl, q, rfl, hq⟩ := hq
  rw [en, ea] at hq
  have q1 := hq.1
  have q2 := tx_end_n hq (by omega)
  have no : ¬ (mi_f h2 9858 + 1 < q ∧ q - (mi_f h2 9858 + 1) < 6 ∧ q < mi_f h0 6657 ∧ mi_a h0 53 q.toNat = 34) → ∀ v e, tk_T (mi_f h0 6657) (mi_a h0 53) a 6 v (mi_f h2 9858) e := fun hn v e => ⟨hp, Or.inr ⟨hpn, Or.inr (Or.inr (Or.inr (Or.inl ⟨hc, q, hq, Or.inr ⟨hn, rfl⟩⟩)))⟩⟩
  have oq : mi_in q := ⟨by omega, by omega⟩
  refine mt_tkB (zz := q) hS oq ?_ ?_ ?_
  · intro b c
    exact ⟨⟨⟨by omega, by omega⟩, ⟨by omega, by omega⟩⟩, fun h3 r1 r2 r3 => ca_no hP (no (fun x => by omega)) (by decide) r1 r2 r3⟩
  · intro b c c2
    exact ⟨⟨⟨by omega, by omega⟩, ⟨by omega, by omega⟩⟩, fun h3 r1 r2 r3 => ca_no hP (no (fun x => by omega)) (by decide) r1 r2 r3⟩
  · intro b c c2
    refine ⟨⟨⟨by omega, by omega⟩, ⟨by omega, by omega⟩⟩, fun h3 r1 r2 => ?_⟩
    have e := me_nil r2
    subst e
    refine ⟨_, me_cat (d := d + 7) hS oq, fun w h4 ow hq2 => ?_⟩
    obtain ⟨rfl, rfl⟩ := hq2
    have bx := cx_in hS q
    refine mt_tkC (zz := cx_at h4 q) hS oq ⟨by omega, by omega⟩ ⟨by omega, by omega⟩ ?_ ?_
    · intro b2 c3
      have qn : q < mi_f h0 6657 ∧ mi_a h0 53 q.toNat = 34 := by
        unfold cx_at at c3
        rw [en, ea] at c3
        by_cases y : 0 ≤ q ∧ q < mi_f h0 6657
        · rw [if_pos y] at c3
          exact ⟨y.2, c3⟩
        · rw [if_neg y] at c3
          omega
      refine ⟨⟨by omega, by omega⟩, fun h5 r1 r2 r3 => ?_⟩
      have n57 : mi_f h5 6657 = mi_f h0 6657 := (me_f (c := 6657) r3 hS rfl rfl).trans en
      have n53 : mi_a h5 53 = mi_a h0 53 := (funext (fun i => me_a (k := 53) r3 hS rfl rfl)).trans ea
      refine ⟨_, me_ccode (d := d + 6) (zf := mi_f h4 9858 + 1) (zt := q) r1 (by omega) (by omega) (by omega) (by omega) (fun j j1 j2 => by rw [n53]; exact (hq.2.1 j j1 j2).2), fun w h6 ow hq2 => ?_⟩
      obtain ⟨rfl, rfl⟩ := hq2
      have cb := tx_code_b (c := mi_a h0 53) (q - (mi_f h4 9858 + 1)).toNat (mi_f h4 9858 + 1) (fun j j1 j2 => (hq.2.1 j j1 (by omega)).2)
      have p5 : (32 : Int) ^ (q - (mi_f h4 9858 + 1)).toNat ≤ 32 ^ 5 := by
        have : (32 : Nat) ^ (q - (mi_f h4 9858 + 1)).toNat ≤ 32 ^ 5 := Nat.pow_le_pow_right (by decide) (by omega)
        exact_mod_cast this
      have e32 : (32 : Int) ^ 5 = 33554432 := by decide
      rw [n53]
      refine mt_tkD (zz := tx_code (mi_a h0 53) (mi_f h4 9858 + 1) (q - (mi_f h4 9858 + 1)).toNat) r1 oq ⟨by omega, by omega⟩ ⟨by omega, by omega⟩ ⟨⟨⟨by omega, by omega⟩, ⟨by omega, by omega⟩⟩, fun h7 u1 u2 u3 u4 => ?_⟩
      have m8 : mi_f h7 9858 = mi_f h4 9858 := (me_f (c := 9858) u4 r1 rfl rfl).trans (me_f (c := 9858) r3 hS rfl rfl)
      have m9 : mi_f h7 9859 = 8 := (me_f (c := 9859) u4 r1 rfl rfl).trans r2
      refine ⟨rfl, u1, (hF.trans (r3.wide (fun c hc => ab_swr_ok (by decide) hc))).trans (u4.wide (fun c hc => ab_swr_ok (by decide) hc)), 3, tx_code (mi_a h0 53) (mi_f h4 9858 + 1) (q - (mi_f h4 9858 + 1)).toNat, q + 1, ?_, m9, fun _ _ _ => ⟨u3, u2⟩⟩
      rw [m8]
      exact ⟨hp, Or.inr ⟨hpn, Or.inr (Or.inr (Or.inr (Or.inl ⟨hc, q, hq, Or.inl ⟨by omega, by omega, qn.1, qn.2, rfl, rfl, rfl⟩⟩)))⟩⟩
    · intro c3 h5 r1 r2 r3
      refine ca_no hP (no (fun x => c3 ?_)) (by decide) r1 r2 r3
      unfold cx_at
      rw [en, ea, if_pos ⟨by omega, x.2.2.1⟩]
      exact x.2.2.2
theorem me_tsign (hP : ca_P h0 h a) (hc : mi_a h0 53 (mi_f h 9858).toNat = 39) : me_E (d + 8) 35 0 [some (.inr (.inr 77)), none] [] h (ca_Q h0 a) := by
  obtain ⟨en, ea⟩ := ca_e hP
  obtain ⟨hS0, hS, hF, hx, hp, hpn, h60⟩ := id hP
  have bn := me_fb (c := 6657) hS0 rfl
  have b8 := me_fb (c := 9858) hS rfl
  refine mt_tsA hS (fun b => ⟨⟨by omega, by omega⟩, fun h1 g1 g2 => ?_⟩)
  have e := me_nil g2
  subst e
  refine ⟨_, me_cat (d := d + 7) hS ⟨by omega, by omega⟩, fun w h2 ow hq => ?_⟩
  obtain ⟨rfl, rfl⟩ := hq
  have bx := cx_in hS (mi_f h2 9858 + 1)
  have ex : (mi_f h2 9858 + 1 < mi_f h0 6657 ∧ cx_at h2 (mi_f h2 9858 + 1) = mi_a h0 53 (mi_f h2 9858 + 1).toNat) ∨ (¬ mi_f h2 9858 + 1 < mi_f h0 6657 ∧ cx_at h2 (mi_f h2 9858 + 1) = 32) := by
    unfold cx_at
    rw [en, ea]
    by_cases y : mi_f h2 9858 + 1 < mi_f h0 6657
    · rw [if_pos ⟨by omega, y⟩]
      exact Or.inl ⟨y, rfl⟩
    · rw [if_neg (fun z => y z.2)]
      exact Or.inr ⟨y, rfl⟩
  generalize cx_at h2 (mi_f h2 9858 + 1) = s at bx ex ⊢
  have no : ¬ tx_sg s → ∀ v e, tk_T (mi_f h0 6657) (mi_a h0 53) a 6 v (mi_f h2 9858) e := fun hn v e => ⟨hp, Or.inr ⟨hpn, Or.inr (Or.inr (Or.inr (Or.inr (Or.inl ⟨hc, Or.inr ⟨fun x => ?_, rfl⟩⟩))))⟩⟩
  rotate_left
  · rcases ex with ⟨y1, y2⟩ | ⟨y1, y2⟩
    · rw [y2] at hn
      exact hn x.2
    · exact y1 x.1
  have os : mi_in s := ⟨by omega, by omega⟩
  unfold tx_sg tx_low tx_dig tx_cap at no
  refine mt_tsB (zz := s) hS os ?_ ?_ ?_ ?_ ?_
  rotate_left
  · intro c1 c2 c3 h3 r1 r2
    have e := me_nil r2
    subst e
    have y : mi_f h3 9858 + 1 < mi_f h0 6657 ∧ s = mi_a h0 53 (mi_f h3 9858 + 1).toNat := by
      rcases ex with x | x
      · exact x
      · exact absurd x.2 c1
    have yx := hx (mi_f h3 9858 + 1).toNat (by omega)
    rw [← y.2] at yx
    have yes : tx_sg s → ∀ h4, ab_Sh sx_sk h4 → mi_f h4 9857 = mi_f h3 9858 + 2 → mi_f h4 9859 = 8 → mi_f h4 9860 = -s → ab_Fr [(9857, 9858), (9859, 9861)] h3 h4 → ca_Q h0 a none h4 := fun hs h4 u1 u2 u3 u4 u5 => by
      have m8 : mi_f h4 9858 = mi_f h3 9858 := me_f (c := 9858) u5 hS rfl rfl
      refine ⟨rfl, u1, hF.trans (u5.wide (fun c hc => ab_swr_ok (by decide) hc)), 4, s, mi_f h3 9858 + 2, ?_, u3, fun _ _ _ => ⟨u4, u2⟩⟩
      rw [m8]
      exact ⟨hp, Or.inr ⟨hpn, Or.inr (Or.inr (Or.inr (Or.inr (Or.inl ⟨hc, Or.inl ⟨y.1, by rw [← y.2]; exact hs, rfl, y.2, rfl⟩⟩))))⟩⟩
    unfold tx_sg tx_low tx_dig tx_cap at yes
    refine mt_tsC (zc := s) hS os ?_ ?_ ?_ ?_ ?_ ?_ ?_
    · intro b c4 c5
      exact ⟨⟨⟨by omega, by omega⟩, ⟨by omega, by omega⟩, ⟨by omega, by omega⟩⟩, yes (by omega)⟩
    · intro b c4 c5 c6
      exact ⟨⟨⟨by omega, by omega⟩, ⟨by omega, by omega⟩, ⟨by omega, by omega⟩⟩, yes (by omega)⟩
    · intro c4 c5 c6 h4 r1 r2 r3
      exact ca_no hP (no (by omega)) (by decide) r1 r2 r3
    · intro b c4 c5 c6; exfalso; omega
    · intro b c4 c5 c6 c7
      exact ⟨⟨⟨by omega, by omega⟩, ⟨by omega, by omega⟩, ⟨by omega, by omega⟩⟩, yes (by omega)⟩
    · intro c4 c5 c6 c7; exfalso; omega
    · intro c4 c5 h4 r1 r2 r3
      exact ca_no hP (no (by omega)) (by decide) r1 r2 r3
  · intro c1 c2 c3 c3b h3 r1 r2
    have e := me_nil r2
    subst e
    have y : mi_f h3 9858 + 1 < mi_f h0 6657 ∧ s = mi_a h0 53 (mi_f h3 9858 + 1).toNat := by
      rcases ex with x | x
      · exact x
      · exact absurd x.2 c1
    have yx := hx (mi_f h3 9858 + 1).toNat (by omega)
    rw [← y.2] at yx
    have yes : tx_sg s → ∀ h4, ab_Sh sx_sk h4 → mi_f h4 9857 = mi_f h3 9858 + 2 → mi_f h4 9859 = 8 → mi_f h4 9860 = -s → ab_Fr [(9857, 9858), (9859, 9861)] h3 h4 → ca_Q h0 a none h4 := fun hs h4 u1 u2 u3 u4 u5 => by
      have m8 : mi_f h4 9858 = mi_f h3 9858 := me_f (c := 9858) u5 hS rfl rfl
      refine ⟨rfl, u1, hF.trans (u5.wide (fun c hc => ab_swr_ok (by decide) hc)), 4, s, mi_f h3 9858 + 2, ?_, u3, fun _ _ _ => ⟨u4, u2⟩⟩
      rw [m8]
      exact ⟨hp, Or.inr ⟨hpn, Or.inr (Or.inr (Or.inr (Or.inr (Or.inl ⟨hc, Or.inl ⟨y.1, by rw [← y.2]; exact hs, rfl, y.2, rfl⟩⟩))))⟩⟩
    unfold tx_sg tx_low tx_dig tx_cap at yes
    refine mt_tsC (zc := s) hS os ?_ ?_ ?_ ?_ ?_ ?_ ?_
    · intro b c4 c5; exfalso; omega
    · intro b c4 c5 c6; exfalso; omega
    · intro c4; exfalso; omega
    · intro b c4 c5 c6; exfalso; omega
    · intro b c4 c5 c6 c7
      exact ⟨⟨⟨by omega, by omega⟩, ⟨by omega, by omega⟩, ⟨by omega, by omega⟩⟩, yes (by omega)⟩
    · intro c4 c5 c6 c7; exfalso; omega
    · intro c4 c5; exfalso; omega
  · intro c1 c2 c3 c4 h3 r1 r2 r3
    exact ca_no hP (no (by omega)) (by decide) r1 r2 r3
  · intro c1 c2 h3 r1 r2 r3
    exact ca_no hP (no (by omega)) (by decide) r1 r2 r3
  · intro c1 h3 r1 r2 r3
    exact ca_no hP (no (by omega)) (by decide) r1 r2 r3
theorem me_tcharacter {zc : Int} (hP : ca_P h0 h a) (hc : zc = mi_a h0 53 (mi_f h 9858).toNat) (n1 : ¬ tx_low zc) (n4 : zc ≠ 34) (n5 : zc ≠ 39) : me_E (d + 9) 39 0 [some (.inr (.inr 77)), some (.inl zc)] [] h (ca_Q h0 a) := by
  obtain ⟨en, ea⟩ := ca_e hP
  obtain ⟨hS0, hS, hF, hx, hp, hpn, h60⟩ := id hP
  have bn := me_fb (c := 6657) hS0 rfl
  have b8 := me_fb (c := 9858) hS rfl
  have yx := hx (mi_f h 9858).toNat (by omega)
  rw [← hc] at yx
  have oc : mi_in zc := ⟨by omega, by omega⟩
  have fin : ∀ {t v : Int} {h1 : sm_H}, tk_T (mi_f h0 6657) (mi_a h0 53) a t v (mi_f h 9858) (mi_f h 9858 + 1) → ab_Sh sx_sk h1 → mi_f h1 9857 = mi_f h 9858 + 1 → mi_f h1 9859 = cs_t t v → mi_f h1 9860 = cc_t t v → ab_Fr [(9857, 9858), (9859, 9861)] h h1 → ca_Q h0 a none h1 := fun {t v h1} ht u1 u2 u3 u4 u5 => by
    have m8 : mi_f h1 9858 = mi_f h 9858 := me_f (c := 9858) u5 hS rfl rfl
    refine ⟨rfl, u1, hF.trans (u5.wide (fun c hc => ab_swr_ok (by decide) hc)), t, v, mi_f h 9858 + 1, ?_, u3, fun _ _ _ => ⟨u4, u2⟩⟩
    rw [m8]
    exact ht
  have own : tx_own zc → tk_T (mi_f h0 6657) (mi_a h0 53) a zc 0 (mi_f h 9858) (mi_f h 9858 + 1) := fun ho => ⟨hp, Or.inr ⟨hpn, Or.inr (Or.inr (Or.inr (Or.inr (Or.inr (Or.inl ⟨by rw [← hc]; exact ho, hc, rfl, rfl⟩)))))⟩⟩
  have call : ¬ tx_cap zc → ¬ tx_dig zc → zc ≠ 40 → (∀ h1, ab_Sh sx_sk h1 → mi_f h1 9857 = mi_f h 9858 + 1 → ab_Fr [(9857, 9858)] h h1 → ∃ Q1, me_E (d + 8) 40 0 (mi_entry 2 [.inr (.inr 8), .inl zc]) [] h1 Q1 ∧ ∀ w h2, (∀ x, w = some x → mi_ok x) → Q1 w h2 → me_E (d + 9) 39 76 [some (.inr (.inr 77)), some (.inl zc)] (mi_back w []) h2 (ca_Q h0 a)) := fun n2 n3 n40 h1 u1 u2 u3 => by
    have m60 : mi_f h1 9860 = 0 := (me_f (c := 9860) u3 hS rfl rfl).trans h60
    refine ⟨_, me_idx (d := d) u1 (by omega) (by omega), fun w h2 ow hq => ?_⟩
    obtain ⟨rfl, z, rfl, oz, hz⟩ := hq
    refine mt_tcB (zz := z) u1 oc oz ?_ ?_
    · intro c h3 r1 r2 r3
      refine ca_no hP (fun v e => ⟨hp, Or.inr ⟨hpn, Or.inr (Or.inr (Or.inr (Or.inr (Or.inr (Or.inr ⟨?_, ?_, ?_, ?_, ?_, ?_, rfl⟩)))))⟩⟩) (wr := [(9857, 9858), (9859, 9860)]) (by decide) r1 r2 ((u3.wide (fun c hc => ab_swr_ok (by decide) hc)).trans (r3.wide (fun c hc => ab_swr_ok (by decide) hc)))
      · rw [← hc]; exact n1
      · rw [← hc]; exact n2
      · rw [← hc]; exact n3
      · rw [← hc]; exact n4
      · rw [← hc]; exact n5
      · rw [← hc]
        intro ho
        have := hz.mpr ⟨ho, n40⟩
        omega
    · intro c h3 r1 r2 r3
      have ho := (hz.mp c).1
      have m7 : mi_f h3 9857 = mi_f h 9858 + 1 := (me_f (c := 9857) r3 u1 rfl rfl).trans u2
      have m0 : mi_f h3 9860 = 0 := (me_f (c := 9860) r3 u1 rfl rfl).trans m60
      refine fin (own ho) r1 m7 ?_ ?_ ((u3.wide (fun c hc => ab_swr_ok (by decide) hc)).trans (r3.wide (fun c hc => ab_swr_ok (by decide) hc)))
      · rw [r2]
        unfold cs_t
        unfold tx_own at ho
        rw [if_neg (by omega), if_neg (by omega), if_neg (by omega), if_neg (by omega), if_neg (by omega), if_neg (by omega), if_neg n40]
      · rw [m0]
        unfold cc_t
        unfold tx_own at ho
        rw [if_neg (by omega), if_neg (by omega), if_neg (by omega), if_neg (by omega)]
  refine mt_tcA hS oc ?_ ?_ ?_ ?_ ?_ ?_ ?_ ?_ ?_ ?_ ?_
  · intro b c1 c2 c3
    exact ⟨⟨⟨by omega, by omega⟩, ⟨by omega, by omega⟩⟩, call (fun x => by have := x.1; omega) (fun x => by have := x.1; omega) c3⟩
  · intro b c1 c2 c3
    refine ⟨⟨⟨by omega, by omega⟩, ⟨by omega, by omega⟩⟩, fun h1 u1 u2 u3 u4 => fin (own (by unfold tx_own; omega)) u1 u2 ?_ ?_ (u4.wide (fun c hc => ab_swr_ok (by decide) hc))⟩
    · rw [u3, c3]; rfl
    · rw [me_f (c := 9860) u4 hS rfl rfl, h60, c3]; rfl
  · intro b c1 c2 c3 c4
    exact ⟨⟨⟨by omega, by omega⟩, ⟨by omega, by omega⟩⟩, call (fun x => by have := x.1; omega) (fun x => by have := x.2; omega) c4⟩
  · intro b c1 c2 c3 c4; exfalso; omega
  · intro b c1 c2 c3
    refine ⟨⟨⟨by omega, by omega⟩, ⟨by omega, by omega⟩, ⟨by omega, by omega⟩⟩, fun h1 u1 u2 u3 u4 u5 => fin (t := 5) (v := zc - 48) ⟨hp, Or.inr ⟨hpn, Or.inr (Or.inr (Or.inl ⟨by rw [← hc]; exact ⟨c2, c3⟩, rfl, by rw [hc], rfl⟩))⟩⟩ u1 u2 u3 u4 u5⟩
  · intro b c1 c2 c3; exfalso; omega
  · intro b c1 c2 c3; exfalso; omega
  · intro b c1 c2 c3 c4 c5
    exact ⟨⟨⟨by omega, by omega⟩, ⟨by omega, by omega⟩⟩, call (fun x => by have := x.2; omega) (fun x => by have := x.2; omega) c5⟩
  · intro b c1 c2 c3 c4 c5; exfalso; omega
  · intro b c1 c2 c3 c4; exfalso; omega
  · intro b c1 c2
    refine ⟨⟨⟨by omega, by omega⟩, ⟨by omega, by omega⟩⟩, fun h1 u1 u2 u3 u4 u5 => fin (t := 2) (v := zc - 65) ⟨hp, Or.inr ⟨hpn, Or.inr (Or.inl ⟨by rw [← hc]; exact ⟨c1, c2⟩, rfl, by rw [hc], rfl⟩)⟩⟩ u1 u2 u3 ?_ u5⟩
    rw [u4]
    show zc = zc - 65 + 65
    omega
/-- advance tells the token at the place where it stands -/
theorem me_advance (hS : ab_Sh sx_sk h0) (hx : cx_ok h0) (ha : mi_f h0 9857 ≤ mi_f h0 6657) : me_E (d + 10) 18 0 [some (.inr (.inr 77)), none] [] h0 (ca_Q h0 (mi_f h0 9857)) := by
  have bn := me_fb (c := 6657) hS rfl
  have b7 := me_fb (c := 9857) hS rfl
  refine mt_avA hS (fun h1 g1 g2 => ?_)
  have e := me_nil g2
  subst e
  refine ⟨_, me_cblanks (d := d + 8) hS b7.1 (by omega), fun w h2 ow hq => ?_⟩
  obtain ⟨rfl, p, rfl, hp⟩ := hq
  have p1 := hp.1
  have p2 := tx_end_n hp ha
  have op : mi_in p := ⟨by omega, by omega⟩
  refine mt_avB (zz := p) hS op ⟨⟨by omega, by omega⟩, fun h1 g1 g2 g3 g4 g5 => ?_⟩
  have n57 : mi_f h1 6657 = mi_f h2 6657 := me_f (c := 6657) g5 hS rfl rfl
  have n53 : mi_a h1 53 = mi_a h2 53 := funext (fun i => me_a (k := 53) g5 hS rfl rfl)
  have F1 : ab_Fr ca_W h2 h1 := g5.wide (fun c hc => ab_swr_ok (by decide) hc)
  refine ⟨_, me_cat (d := d + 9) g1 op, fun w h3 ow hq => ?_⟩
  obtain ⟨rfl, rfl⟩ := hq
  have bx := cx_in g1 p
  have oz : mi_in (cx_at h3 p) := ⟨by omega, by omega⟩
  have hP : p < mi_f h2 6657 → ca_P h2 h3 (mi_f h2 9857) ∧ cx_at h3 p = mi_a h2 53 (mi_f h3 9858).toNat := fun hpn => by
    refine ⟨⟨hS, g1, F1, hx, by rw [g3]; exact hp, by rw [g3]; exact hpn, g4⟩, ?_⟩
    unfold cx_at
    rw [n57, n53, g3, if_pos ⟨by omega, hpn⟩]
  have ret : ∀ {pc : Nat} {w : Option mi_V} {h4 : sm_H}, (∀ {Q : Option mi_V → sm_H → Prop}, ab_Sh sx_sk h4 → (∀ h1, ab_Sh sx_sk h1 → ab_Fr [] h4 h1 → Q none h1) → me_E (d + 10) 18 pc [some (.inr (.inr 77)), some (.inl (cx_at h3 p))] [] h4 Q) → ca_Q h2 (mi_f h2 9857) w h4 → me_E (d + 10) 18 pc [some (.inr (.inr 77)), some (.inl (cx_at h3 p))] (mi_back w []) h4 (ca_Q h2 (mi_f h2 9857)) := fun {pc w h4} k hq => by
    obtain ⟨rfl, q1, q2, q3⟩ := hq
    refine k q1 (fun h5 r1 r2 => ?_)
    have e := me_nil r2
    subst e
    exact ⟨rfl, q1, q2, q3⟩
  refine mt_avC g1 oz ?_ ?_ ?_ ?_ ?_ ?_ ?_ ?_
  · intro b b2 c1 c2 c3 c4 h4 r1 r2
    have e := me_nil r2
    subst e
    obtain ⟨P, ec⟩ := hP (by omega)
    exact ⟨_, me_tcharacter (d := d) P ec (fun x => by have := x.1; omega) c3 c4, fun w h5 ow hq => ret (fun u1 u2 => mt_av107 u1 oz u2) hq⟩
  · intro b b2 c1 c2 c3 c4 h4 r1 r2
    have e := me_nil r2
    subst e
    obtain ⟨P, ec⟩ := hP (by omega)
    exact ⟨_, me_tsign (d := d + 1) P (by rw [← ec]; exact c4), fun w h5 ow hq => ret (fun u1 u2 => mt_av99 u1 oz u2) hq⟩
  · intro b b2 c1 c2 c3 h4 r1 r2
    have e := me_nil r2
    subst e
    obtain ⟨P, ec⟩ := hP (by omega)
    exact ⟨_, me_tkeyword (d := d + 1) P (by rw [← ec]; exact c3), fun w h5 ow hq => ret (fun u1 u2 => mt_av86 u1 oz u2) hq⟩
  · intro b b2 c1 c2 c3 c4 c5 h4 r1 r2
    have e := me_nil r2
    subst e
    obtain ⟨P, ec⟩ := hP (by omega)
    exact ⟨_, me_tcharacter (d := d) P ec (fun x => by have := x.2; omega) c4 c5, fun w h5 ow hq => ret (fun u1 u2 => mt_av107 u1 oz u2) hq⟩
  · intro b b2 c1 c2 c3 c4 c5; exfalso; omega
  · intro b b2 c1 c2 c3 c4; exfalso; omega
  · intro b b2 c1 c2 c3 h4 r1 r2
    have e := me_nil r2
    subst e
    obtain ⟨P, ec⟩ := hP (by omega)
    exact ⟨_, me_tword (d := d + 1) P (by rw [← ec]; exact ⟨c2, c3⟩), fun w h5 ow hq => ret (fun u1 u2 => mt_av73 u1 oz u2) hq⟩
  · intro b b2 c1 h4 r1 r2 r3
    have m8 : mi_f h4 9858 = p := (me_f (c := 9858) r3 g1 rfl rfl).trans g3
    refine ⟨rfl, r1, F1.trans (r3.wide (fun c hc => ab_swr_ok (by decide) hc)), 0, 0, 0, ?_, r2, fun c => absurd rfl c⟩
    rw [m8]
    exact ⟨hp, Or.inl ⟨by omega, rfl⟩⟩
end CTK
