/-! the class: has, with each of the seven words -/
/-- from k on stand the characters ws -/
def wd_m (h : sm_H) (k : Int) (ws : List Int) : Prop := ∀ j : Nat, j < ws.length → cx_at h (k + j) = ws.getD j 0
def hs_Q (h : sm_H) (zf zt : Int) (ws : List Int) (w : Option mi_V) (h' : sm_H) : Prop := h' = h ∧ ∃ z, w = some (.inl z) ∧ (z = 0 ∨ z = 1) ∧ (z = 1 ↔ zt - zf = (ws.length : Int) ∧ wd_m h zf ws)
theorem me_abs1 {d m : Nat} {h : sm_H} {c : ab_C} {M : sm_M} {as : List mi_V} {z : Int} (hok : ab_Ok sc_P sx_sk c) (hc : c.2.2 = ([], [((1, z, z, []), [])], [], 5)) (hM : sc_P c.1 = some M) (hk : M.2.1 ≠ 0) (hS : ab_Sh sx_sk h) (has : ab_nvs c.2.1 (as.map mi_c)) : me_E (d + 5) c.1 0 (mi_entry M.1 as) [] h (fun w h' => h' = h ∧ w = some (.inl z)) := by
  obtain ⟨m1, a1, p1, q1, w1, d1⟩ := c
  have hc : (p1, q1, w1, d1) = ([], [((1, z, z, []), [])], [], 5) := hc
  cases hc
  have := me_abs (M := M) (as := as) hok hM hS has (fun e he => by cases he) (by simp)
  refine (me_E.deep (d' := d + 5) this (Nat.le_add_left _ _)).imp (fun w h' hq => ?_)
  obtain ⟨q1, q2, p, hp, q3, -⟩ := hq
  refine ⟨me_nil q2, ?_⟩
  rcases List.mem_cons.mp hp with rfl | hp
  · obtain ⟨y, e, y0, y1⟩ := me_resI q3 hk rfl
    have y0 : z ≤ y := y0
    have y1 : y ≤ z := y1
    rw [e]
    congr 2
    omega
  · cases hp
def ws_1 : List Int := [110, 117, 109, 98, 101, 114]
def xc_len_1 : ab_C := (27, [(3, 1, 0, [])], [], [((1, 6, 6, []), [])], [], 5)
theorem xo_len_1 : ab_Ok sc_P sx_sk xc_len_1 := ab_good_ok (env := []) (heads := []) (fuel := 40) (by decide +kernel) (fun _ h => absurd h List.not_mem_nil)
def xc_chr_1_0 : ab_C := (29, [(3, 1, 0, []), (1, 0, 0, [])], [], [((1, 110, 110, []), [])], [], 5)
theorem xo_chr_1_0 : ab_Ok sc_P sx_sk xc_chr_1_0 := ab_good_ok (env := []) (heads := []) (fuel := 60) (by decide +kernel) (fun _ h => absurd h List.not_mem_nil)
def xc_chr_1_1 : ab_C := (29, [(3, 1, 0, []), (1, 1, 1, [])], [], [((1, 117, 117, []), [])], [], 5)
theorem xo_chr_1_1 : ab_Ok sc_P sx_sk xc_chr_1_1 := ab_good_ok (env := []) (heads := []) (fuel := 60) (by decide +kernel) (fun _ h => absurd h List.not_mem_nil)
def xc_chr_1_2 : ab_C := (29, [(3, 1, 0, []), (1, 2, 2, [])], [], [((1, 109, 109, []), [])], [], 5)
theorem xo_chr_1_2 : ab_Ok sc_P sx_sk xc_chr_1_2 := ab_good_ok (env := []) (heads := []) (fuel := 60) (by decide +kernel) (fun _ h => absurd h List.not_mem_nil)
def xc_chr_1_3 : ab_C := (29, [(3, 1, 0, []), (1, 3, 3, [])], [], [((1, 98, 98, []), [])], [], 5)
theorem xo_chr_1_3 : ab_Ok sc_P sx_sk xc_chr_1_3 := ab_good_ok (env := []) (heads := []) (fuel := 60) (by decide +kernel) (fun _ h => absurd h List.not_mem_nil)
def xc_chr_1_4 : ab_C := (29, [(3, 1, 0, []), (1, 4, 4, [])], [], [((1, 101, 101, []), [])], [], 5)
theorem xo_chr_1_4 : ab_Ok sc_P sx_sk xc_chr_1_4 := ab_good_ok (env := []) (heads := []) (fuel := 60) (by decide +kernel) (fun _ h => absurd h List.not_mem_nil)
def xc_chr_1_5 : ab_C := (29, [(3, 1, 0, []), (1, 5, 5, [])], [], [((1, 114, 114, []), [])], [], 5)
theorem xo_chr_1_5 : ab_Ok sc_P sx_sk xc_chr_1_5 := ab_good_ok (env := []) (heads := []) (fuel := 60) (by decide +kernel) (fun _ h => absurd h List.not_mem_nil)
section HS1
variable {d : Nat} {h : sm_H} {zf zt : Int}
theorem me_len_1 (hS : ab_Sh sx_sk h) : me_E (d + 5) 27 0 [some (.inr (.inr 1))] [] h (fun w h' => h' = h ∧ w = some (.inl 6)) := me_abs1 (m := 27) (M := (1, 1, sb_27)) (as := [.inr (.inr 1)]) xo_len_1 rfl rfl (by decide) hS ⟨rfl, trivial⟩
theorem me_chr_1 {zk : Int} (hS : ab_Sh sx_sk h) (k0 : 0 ≤ zk) (k1 : zk < 6) : me_E (d + 5) 29 0 [some (.inr (.inr 1)), some (.inl zk)] [] h (fun w h' => h' = h ∧ w = some (.inl (ws_1.getD zk.toNat 0))) := by
  rcases (show zk = 0 ∨ zk = 1 ∨ zk = 2 ∨ zk = 3 ∨ zk = 4 ∨ zk = 5 by omega) with rfl | rfl | rfl | rfl | rfl | rfl
  · exact me_abs1 (m := 29) (M := (2, 5, sb_29)) (as := [.inr (.inr 1), .inl 0]) (z := 110) xo_chr_1_0 rfl rfl (by decide) hS ⟨rfl, me_nv1 ⟨by decide, by decide⟩ (by decide) (by decide), trivial⟩
  · exact me_abs1 (m := 29) (M := (2, 5, sb_29)) (as := [.inr (.inr 1), .inl 1]) (z := 117) xo_chr_1_1 rfl rfl (by decide) hS ⟨rfl, me_nv1 ⟨by decide, by decide⟩ (by decide) (by decide), trivial⟩
  · exact me_abs1 (m := 29) (M := (2, 5, sb_29)) (as := [.inr (.inr 1), .inl 2]) (z := 109) xo_chr_1_2 rfl rfl (by decide) hS ⟨rfl, me_nv1 ⟨by decide, by decide⟩ (by decide) (by decide), trivial⟩
  · exact me_abs1 (m := 29) (M := (2, 5, sb_29)) (as := [.inr (.inr 1), .inl 3]) (z := 98) xo_chr_1_3 rfl rfl (by decide) hS ⟨rfl, me_nv1 ⟨by decide, by decide⟩ (by decide) (by decide), trivial⟩
  · exact me_abs1 (m := 29) (M := (2, 5, sb_29)) (as := [.inr (.inr 1), .inl 4]) (z := 101) xo_chr_1_4 rfl rfl (by decide) hS ⟨rfl, me_nv1 ⟨by decide, by decide⟩ (by decide) (by decide), trivial⟩
  · exact me_abs1 (m := 29) (M := (2, 5, sb_29)) (as := [.inr (.inr 1), .inl 5]) (z := 114) xo_chr_1_5 rfl rfl (by decide) hS ⟨rfl, me_nv1 ⟨by decide, by decide⟩ (by decide) (by decide), trivial⟩
theorem hs20_1 (hS : ab_Sh sx_sk h) (f0 : 0 ≤ zf) (f1 : zf ≤ 300) (t0 : 0 ≤ zt) (t1 : zt ≤ 300) : ∀ (N : Nat) (zm zk : Int), 6 - zk < N → 0 ≤ zk → zk ≤ 6 → (zm = 0 ∨ zm = 1) → (zm = 1 → zt - zf = 6 ∧ ∀ j : Nat, (j : Int) < zk → cx_at h (zf + j) = ws_1.getD j 0) → (zm = 0 → ¬ (zt - zf = 6 ∧ wd_m h zf ws_1)) → me_E (d + 6) 26 20 [some (.inr (.inr 52)), some (.inr (.inr 1)), some (.inl zf), some (.inl zt), some (.inl zm), some (.inl zk)] [] h (hs_Q h zf zt ws_1) := by
  intro N
  induction N with
  | zero => intro zm zk hN k0 k1; exfalso; omega
  | succ N ih =>
    intro zm zk hN k0 k1 om hA hB
    have of : mi_in zf := ⟨by omega, by omega⟩
    have ot : mi_in zt := ⟨by omega, by omega⟩
    have omm : mi_in zm := ⟨by omega, by omega⟩
    have ok : mi_in zk := ⟨by omega, by omega⟩
    refine mt_h1C hS of ot omm ok ?_ ?_
    · intro c
      refine ⟨om, fun h1 g1 g2 => ⟨me_nil g2, zm, rfl, om, fun x => by omega, fun x => absurd x (hB c)⟩⟩
    · intro c h1 g1 g2
      have e := me_nil g2
      subst e
      refine ⟨_, me_len_1 (d := d) hS, fun w h2 ow hq => ?_⟩
      obtain ⟨rfl, rfl⟩ := hq
      obtain ⟨a1, a2⟩ := hA (by omega)
      refine mt_h1D (zl := 6) (zy := zk) hS of ot omm ok ⟨by decide, by decide⟩ ok ?_ ?_
      · intro c2
        refine ⟨om, fun h3 g1 g2 => ⟨me_nil g2, zm, rfl, om, fun _ => ⟨a1, fun j hj => a2 j (by have : j < 6 := hj; omega)⟩, fun _ => by omega⟩⟩
      · intro c2 h3 g1 g2
        have e := me_nil g2
        subst e
        refine ⟨_, me_chr_1 (d := d) hS k0 c2, fun w h4 ow hq => ?_⟩
        obtain ⟨rfl, rfl⟩ := hq
        have bc : 0 ≤ ws_1.getD zk.toNat 0 ∧ ws_1.getD zk.toNat 0 ≤ 200 := by
          rcases (show zk = 0 ∨ zk = 1 ∨ zk = 2 ∨ zk = 3 ∨ zk = 4 ∨ zk = 5 by omega) with rfl | rfl | rfl | rfl | rfl | rfl <;> decide
        refine mt_h1E (zc := ws_1.getD zk.toNat 0) hS of ot omm ok ⟨by omega, by omega⟩ ⟨⟨by omega, by omega⟩, fun h5 g1 g2 => ?_⟩
        have e := me_nil g2
        subst e
        refine ⟨_, me_cat (d := d + 5) hS ⟨by omega, by omega⟩, fun w h6 ow hq => ?_⟩
        obtain ⟨rfl, rfl⟩ := hq
        have bx := cx_in hS (zf + zk)
        refine mt_h1F (zz := cx_at h6 (zf + zk)) (zc := ws_1.getD zk.toNat 0) hS of ot omm ok ⟨by omega, by omega⟩ ⟨by omega, by omega⟩ ?_ ?_
        · intro c3
          refine ⟨⟨by omega, by omega⟩, fun h7 g1 g2 => ?_⟩
          have e := me_nil g2
          subst e
          refine ih 0 (zk + 1) (by omega) (by omega) (by omega) (Or.inl rfl) (fun x => absurd x (by decide)) (fun _ x => ?_)
          have y := x.2 zk.toNat (by show zk.toNat < 6; omega)
          rw [show ((zk.toNat : Nat) : Int) = zk by omega] at y
          exact c3 y.symm
        · intro c3
          refine ⟨⟨by omega, by omega⟩, fun h7 g1 g2 => ?_⟩
          have e := me_nil g2
          subst e
          refine ih 1 (zk + 1) (by omega) (by omega) (by omega) (Or.inr rfl) (fun _ => ⟨a1, fun j hj => ?_⟩) (fun x => absurd x (by decide))
          by_cases ej : (j : Int) = zk
          · have ej2 : j = zk.toNat := by omega
            rw [ej, ej2]
            exact c3.symm
          · exact a2 j (by omega)
theorem me_has_1 (hS : ab_Sh sx_sk h) (f0 : 0 ≤ zf) (f1 : zf ≤ 300) (t0 : 0 ≤ zt) (t1 : zt ≤ 300) : me_E (d + 6) 26 0 [some (.inr (.inr 52)), some (.inr (.inr 1)), some (.inl zf), some (.inl zt), none, none] [] h (hs_Q h zf zt ws_1) := by
  have of : mi_in zf := ⟨by omega, by omega⟩
  have ot : mi_in zt := ⟨by omega, by omega⟩
  refine mt_h1A hS of ot ⟨⟨by omega, by omega⟩, fun h1 g1 g2 => ?_⟩
  have e := me_nil g2
  subst e
  refine ⟨_, me_len_1 (d := d) hS, fun w h2 ow hq => ?_⟩
  obtain ⟨rfl, rfl⟩ := hq
  refine mt_h1B (zl := 6) (zs := zt - zf) hS of ot ⟨by decide, by decide⟩ ⟨by omega, by omega⟩ ?_ ?_
  · intro c h3 g1 g2
    have e := me_nil g2
    subst e
    exact hs20_1 hS f0 f1 t0 t1 10 0 0 (by decide) (by decide) (by decide) (Or.inl rfl) (fun x => absurd x (by decide)) (fun _ x => c x.1)
  · intro c h3 g1 g2
    have e := me_nil g2
    subst e
    exact hs20_1 hS f0 f1 t0 t1 10 1 0 (by decide) (by decide) (by decide) (Or.inr rfl) (fun _ => ⟨c, fun j hj => by omega⟩) (fun x => absurd x (by decide))
end HS1
def ws_2 : List Int := [110, 97, 109, 101]
def xc_len_2 : ab_C := (27, [(3, 2, 0, [])], [], [((1, 4, 4, []), [])], [], 5)
theorem xo_len_2 : ab_Ok sc_P sx_sk xc_len_2 := ab_good_ok (env := []) (heads := []) (fuel := 40) (by decide +kernel) (fun _ h => absurd h List.not_mem_nil)
def xc_chr_2_0 : ab_C := (29, [(3, 2, 0, []), (1, 0, 0, [])], [], [((1, 110, 110, []), [])], [], 5)
theorem xo_chr_2_0 : ab_Ok sc_P sx_sk xc_chr_2_0 := ab_good_ok (env := []) (heads := []) (fuel := 60) (by decide +kernel) (fun _ h => absurd h List.not_mem_nil)
def xc_chr_2_1 : ab_C := (29, [(3, 2, 0, []), (1, 1, 1, [])], [], [((1, 97, 97, []), [])], [], 5)
theorem xo_chr_2_1 : ab_Ok sc_P sx_sk xc_chr_2_1 := ab_good_ok (env := []) (heads := []) (fuel := 60) (by decide +kernel) (fun _ h => absurd h List.not_mem_nil)
def xc_chr_2_2 : ab_C := (29, [(3, 2, 0, []), (1, 2, 2, [])], [], [((1, 109, 109, []), [])], [], 5)
theorem xo_chr_2_2 : ab_Ok sc_P sx_sk xc_chr_2_2 := ab_good_ok (env := []) (heads := []) (fuel := 60) (by decide +kernel) (fun _ h => absurd h List.not_mem_nil)
def xc_chr_2_3 : ab_C := (29, [(3, 2, 0, []), (1, 3, 3, [])], [], [((1, 101, 101, []), [])], [], 5)
theorem xo_chr_2_3 : ab_Ok sc_P sx_sk xc_chr_2_3 := ab_good_ok (env := []) (heads := []) (fuel := 60) (by decide +kernel) (fun _ h => absurd h List.not_mem_nil)
section HS2
variable {d : Nat} {h : sm_H} {zf zt : Int}
theorem me_len_2 (hS : ab_Sh sx_sk h) : me_E (d + 5) 27 0 [some (.inr (.inr 2))] [] h (fun w h' => h' = h ∧ w = some (.inl 4)) := me_abs1 (m := 27) (M := (1, 1, sb_27)) (as := [.inr (.inr 2)]) xo_len_2 rfl rfl (by decide) hS ⟨rfl, trivial⟩
theorem me_chr_2 {zk : Int} (hS : ab_Sh sx_sk h) (k0 : 0 ≤ zk) (k1 : zk < 4) : me_E (d + 5) 29 0 [some (.inr (.inr 2)), some (.inl zk)] [] h (fun w h' => h' = h ∧ w = some (.inl (ws_2.getD zk.toNat 0))) := by
  rcases (show zk = 0 ∨ zk = 1 ∨ zk = 2 ∨ zk = 3 by omega) with rfl | rfl | rfl | rfl
  · exact me_abs1 (m := 29) (M := (2, 5, sb_29)) (as := [.inr (.inr 2), .inl 0]) (z := 110) xo_chr_2_0 rfl rfl (by decide) hS ⟨rfl, me_nv1 ⟨by decide, by decide⟩ (by decide) (by decide), trivial⟩
  · exact me_abs1 (m := 29) (M := (2, 5, sb_29)) (as := [.inr (.inr 2), .inl 1]) (z := 97) xo_chr_2_1 rfl rfl (by decide) hS ⟨rfl, me_nv1 ⟨by decide, by decide⟩ (by decide) (by decide), trivial⟩
  · exact me_abs1 (m := 29) (M := (2, 5, sb_29)) (as := [.inr (.inr 2), .inl 2]) (z := 109) xo_chr_2_2 rfl rfl (by decide) hS ⟨rfl, me_nv1 ⟨by decide, by decide⟩ (by decide) (by decide), trivial⟩
  · exact me_abs1 (m := 29) (M := (2, 5, sb_29)) (as := [.inr (.inr 2), .inl 3]) (z := 101) xo_chr_2_3 rfl rfl (by decide) hS ⟨rfl, me_nv1 ⟨by decide, by decide⟩ (by decide) (by decide), trivial⟩
theorem hs20_2 (hS : ab_Sh sx_sk h) (f0 : 0 ≤ zf) (f1 : zf ≤ 300) (t0 : 0 ≤ zt) (t1 : zt ≤ 300) : ∀ (N : Nat) (zm zk : Int), 4 - zk < N → 0 ≤ zk → zk ≤ 4 → (zm = 0 ∨ zm = 1) → (zm = 1 → zt - zf = 4 ∧ ∀ j : Nat, (j : Int) < zk → cx_at h (zf + j) = ws_2.getD j 0) → (zm = 0 → ¬ (zt - zf = 4 ∧ wd_m h zf ws_2)) → me_E (d + 6) 26 20 [some (.inr (.inr 52)), some (.inr (.inr 2)), some (.inl zf), some (.inl zt), some (.inl zm), some (.inl zk)] [] h (hs_Q h zf zt ws_2) := by
  intro N
  induction N with
  | zero => intro zm zk hN k0 k1; exfalso; omega
  | succ N ih =>
    intro zm zk hN k0 k1 om hA hB
    have of : mi_in zf := ⟨by omega, by omega⟩
    have ot : mi_in zt := ⟨by omega, by omega⟩
    have omm : mi_in zm := ⟨by omega, by omega⟩
    have ok : mi_in zk := ⟨by omega, by omega⟩
    refine mt_h2C hS of ot omm ok ?_ ?_
    · intro c
      refine ⟨om, fun h1 g1 g2 => ⟨me_nil g2, zm, rfl, om, fun x => by omega, fun x => absurd x (hB c)⟩⟩
    · intro c h1 g1 g2
      have e := me_nil g2
      subst e
      refine ⟨_, me_len_2 (d := d) hS, fun w h2 ow hq => ?_⟩
      obtain ⟨rfl, rfl⟩ := hq
      obtain ⟨a1, a2⟩ := hA (by omega)
      refine mt_h2D (zl := 4) (zy := zk) hS of ot omm ok ⟨by decide, by decide⟩ ok ?_ ?_
      · intro c2
        refine ⟨om, fun h3 g1 g2 => ⟨me_nil g2, zm, rfl, om, fun _ => ⟨a1, fun j hj => a2 j (by have : j < 4 := hj; omega)⟩, fun _ => by omega⟩⟩
      · intro c2 h3 g1 g2
        have e := me_nil g2
        subst e
        refine ⟨_, me_chr_2 (d := d) hS k0 c2, fun w h4 ow hq => ?_⟩
        obtain ⟨rfl, rfl⟩ := hq
        have bc : 0 ≤ ws_2.getD zk.toNat 0 ∧ ws_2.getD zk.toNat 0 ≤ 200 := by
          rcases (show zk = 0 ∨ zk = 1 ∨ zk = 2 ∨ zk = 3 by omega) with rfl | rfl | rfl | rfl <;> decide
        refine mt_h2E (zc := ws_2.getD zk.toNat 0) hS of ot omm ok ⟨by omega, by omega⟩ ⟨⟨by omega, by omega⟩, fun h5 g1 g2 => ?_⟩
        have e := me_nil g2
        subst e
        refine ⟨_, me_cat (d := d + 5) hS ⟨by omega, by omega⟩, fun w h6 ow hq => ?_⟩
        obtain ⟨rfl, rfl⟩ := hq
        have bx := cx_in hS (zf + zk)
        refine mt_h2F (zz := cx_at h6 (zf + zk)) (zc := ws_2.getD zk.toNat 0) hS of ot omm ok ⟨by omega, by omega⟩ ⟨by omega, by omega⟩ ?_ ?_
        · intro c3
          refine ⟨⟨by omega, by omega⟩, fun h7 g1 g2 => ?_⟩
          have e := me_nil g2
          subst e
          refine ih 0 (zk + 1) (by omega) (by omega) (by omega) (Or.inl rfl) (fun x => absurd x (by decide)) (fun _ x => ?_)
          have y := x.2 zk.toNat (by show zk.toNat < 4; omega)
          rw [show ((zk.toNat : Nat) : Int) = zk by omega] at y
          exact c3 y.symm
        · intro c3
          refine ⟨⟨by omega, by omega⟩, fun h7 g1 g2 => ?_⟩
          have e := me_nil g2
          subst e
          refine ih 1 (zk + 1) (by omega) (by omega) (by omega) (Or.inr rfl) (fun _ => ⟨a1, fun j hj => ?_⟩) (fun x => absurd x (by decide))
          by_cases ej : (j : Int) = zk
          · have ej2 : j = zk.toNat := by omega
            rw [ej, ej2]
            exact c3.symm
          · exact a2 j (by omega)
theorem me_has_2 (hS : ab_Sh sx_sk h) (f0 : 0 ≤ zf) (f1 : zf ≤ 300) (t0 : 0 ≤ zt) (t1 : zt ≤ 300) : me_E (d + 6) 26 0 [some (.inr (.inr 52)), some (.inr (.inr 2)), some (.inl zf), some (.inl zt), none, none] [] h (hs_Q h zf zt ws_2) := by
  have of : mi_in zf := ⟨by omega, by omega⟩
  have ot : mi_in zt := ⟨by omega, by omega⟩
  refine mt_h2A hS of ot ⟨⟨by omega, by omega⟩, fun h1 g1 g2 => ?_⟩
  have e := me_nil g2
  subst e
  refine ⟨_, me_len_2 (d := d) hS, fun w h2 ow hq => ?_⟩
  obtain ⟨rfl, rfl⟩ := hq
  refine mt_h2B (zl := 4) (zs := zt - zf) hS of ot ⟨by decide, by decide⟩ ⟨by omega, by omega⟩ ?_ ?_
  · intro c h3 g1 g2
    have e := me_nil g2
    subst e
    exact hs20_2 hS f0 f1 t0 t1 10 0 0 (by decide) (by decide) (by decide) (Or.inl rfl) (fun x => absurd x (by decide)) (fun _ x => c x.1)
  · intro c h3 g1 g2
    have e := me_nil g2
    subst e
    exact hs20_2 hS f0 f1 t0 t1 10 1 0 (by decide) (by decide) (by decide) (Or.inr rfl) (fun _ => ⟨c, fun j hj => by omega⟩) (fun x => absurd x (by decide))
end HS2
def ws_3 : List Int := [101, 109, 112, 116, 121]
def xc_len_3 : ab_C := (27, [(3, 3, 0, [])], [], [((1, 5, 5, []), [])], [], 5)
theorem xo_len_3 : ab_Ok sc_P sx_sk xc_len_3 := ab_good_ok (env := []) (heads := []) (fuel := 40) (by decide +kernel) (fun _ h => absurd h List.not_mem_nil)
def xc_chr_3_0 : ab_C := (29, [(3, 3, 0, []), (1, 0, 0, [])], [], [((1, 101, 101, []), [])], [], 5)
theorem xo_chr_3_0 : ab_Ok sc_P sx_sk xc_chr_3_0 := ab_good_ok (env := []) (heads := []) (fuel := 60) (by decide +kernel) (fun _ h => absurd h List.not_mem_nil)
def xc_chr_3_1 : ab_C := (29, [(3, 3, 0, []), (1, 1, 1, [])], [], [((1, 109, 109, []), [])], [], 5)
theorem xo_chr_3_1 : ab_Ok sc_P sx_sk xc_chr_3_1 := ab_good_ok (env := []) (heads := []) (fuel := 60) (by decide +kernel) (fun _ h => absurd h List.not_mem_nil)
def xc_chr_3_2 : ab_C := (29, [(3, 3, 0, []), (1, 2, 2, [])], [], [((1, 112, 112, []), [])], [], 5)
theorem xo_chr_3_2 : ab_Ok sc_P sx_sk xc_chr_3_2 := ab_good_ok (env := []) (heads := []) (fuel := 60) (by decide +kernel) (fun _ h => absurd h List.not_mem_nil)
def xc_chr_3_3 : ab_C := (29, [(3, 3, 0, []), (1, 3, 3, [])], [], [((1, 116, 116, []), [])], [], 5)
theorem xo_chr_3_3 : ab_Ok sc_P sx_sk xc_chr_3_3 := ab_good_ok (env := []) (heads := []) (fuel := 60) (by decide +kernel) (fun _ h => absurd h List.not_mem_nil)
def xc_chr_3_4 : ab_C := (29, [(3, 3, 0, []), (1, 4, 4, [])], [], [((1, 121, 121, []), [])], [], 5)
theorem xo_chr_3_4 : ab_Ok sc_P sx_sk xc_chr_3_4 := ab_good_ok (env := []) (heads := []) (fuel := 60) (by decide +kernel) (fun _ h => absurd h List.not_mem_nil)
section HS3
variable {d : Nat} {h : sm_H} {zf zt : Int}
theorem me_len_3 (hS : ab_Sh sx_sk h) : me_E (d + 5) 27 0 [some (.inr (.inr 3))] [] h (fun w h' => h' = h ∧ w = some (.inl 5)) := me_abs1 (m := 27) (M := (1, 1, sb_27)) (as := [.inr (.inr 3)]) xo_len_3 rfl rfl (by decide) hS ⟨rfl, trivial⟩
theorem me_chr_3 {zk : Int} (hS : ab_Sh sx_sk h) (k0 : 0 ≤ zk) (k1 : zk < 5) : me_E (d + 5) 29 0 [some (.inr (.inr 3)), some (.inl zk)] [] h (fun w h' => h' = h ∧ w = some (.inl (ws_3.getD zk.toNat 0))) := by
  rcases (show zk = 0 ∨ zk = 1 ∨ zk = 2 ∨ zk = 3 ∨ zk = 4 by omega) with rfl | rfl | rfl | rfl | rfl
  · exact me_abs1 (m := 29) (M := (2, 5, sb_29)) (as := [.inr (.inr 3), .inl 0]) (z := 101) xo_chr_3_0 rfl rfl (by decide) hS ⟨rfl, me_nv1 ⟨by decide, by decide⟩ (by decide) (by decide), trivial⟩
  · exact me_abs1 (m := 29) (M := (2, 5, sb_29)) (as := [.inr (.inr 3), .inl 1]) (z := 109) xo_chr_3_1 rfl rfl (by decide) hS ⟨rfl, me_nv1 ⟨by decide, by decide⟩ (by decide) (by decide), trivial⟩
  · exact me_abs1 (m := 29) (M := (2, 5, sb_29)) (as := [.inr (.inr 3), .inl 2]) (z := 112) xo_chr_3_2 rfl rfl (by decide) hS ⟨rfl, me_nv1 ⟨by decide, by decide⟩ (by decide) (by decide), trivial⟩
  · exact me_abs1 (m := 29) (M := (2, 5, sb_29)) (as := [.inr (.inr 3), .inl 3]) (z := 116) xo_chr_3_3 rfl rfl (by decide) hS ⟨rfl, me_nv1 ⟨by decide, by decide⟩ (by decide) (by decide), trivial⟩
  · exact me_abs1 (m := 29) (M := (2, 5, sb_29)) (as := [.inr (.inr 3), .inl 4]) (z := 121) xo_chr_3_4 rfl rfl (by decide) hS ⟨rfl, me_nv1 ⟨by decide, by decide⟩ (by decide) (by decide), trivial⟩
theorem hs20_3 (hS : ab_Sh sx_sk h) (f0 : 0 ≤ zf) (f1 : zf ≤ 300) (t0 : 0 ≤ zt) (t1 : zt ≤ 300) : ∀ (N : Nat) (zm zk : Int), 5 - zk < N → 0 ≤ zk → zk ≤ 5 → (zm = 0 ∨ zm = 1) → (zm = 1 → zt - zf = 5 ∧ ∀ j : Nat, (j : Int) < zk → cx_at h (zf + j) = ws_3.getD j 0) → (zm = 0 → ¬ (zt - zf = 5 ∧ wd_m h zf ws_3)) → me_E (d + 6) 26 20 [some (.inr (.inr 52)), some (.inr (.inr 3)), some (.inl zf), some (.inl zt), some (.inl zm), some (.inl zk)] [] h (hs_Q h zf zt ws_3) := by
  intro N
  induction N with
  | zero => intro zm zk hN k0 k1; exfalso; omega
  | succ N ih =>
    intro zm zk hN k0 k1 om hA hB
    have of : mi_in zf := ⟨by omega, by omega⟩
    have ot : mi_in zt := ⟨by omega, by omega⟩
    have omm : mi_in zm := ⟨by omega, by omega⟩
    have ok : mi_in zk := ⟨by omega, by omega⟩
    refine mt_h3C hS of ot omm ok ?_ ?_
    · intro c
      refine ⟨om, fun h1 g1 g2 => ⟨me_nil g2, zm, rfl, om, fun x => by omega, fun x => absurd x (hB c)⟩⟩
    · intro c h1 g1 g2
      have e := me_nil g2
      subst e
      refine ⟨_, me_len_3 (d := d) hS, fun w h2 ow hq => ?_⟩
      obtain ⟨rfl, rfl⟩ := hq
      obtain ⟨a1, a2⟩ := hA (by omega)
      refine mt_h3D (zl := 5) (zy := zk) hS of ot omm ok ⟨by decide, by decide⟩ ok ?_ ?_
      · intro c2
        refine ⟨om, fun h3 g1 g2 => ⟨me_nil g2, zm, rfl, om, fun _ => ⟨a1, fun j hj => a2 j (by have : j < 5 := hj; omega)⟩, fun _ => by omega⟩⟩
      · intro c2 h3 g1 g2
        have e := me_nil g2
        subst e
        refine ⟨_, me_chr_3 (d := d) hS k0 c2, fun w h4 ow hq => ?_⟩
        obtain ⟨rfl, rfl⟩ := hq
        have bc : 0 ≤ ws_3.getD zk.toNat 0 ∧ ws_3.getD zk.toNat 0 ≤ 200 := by
          rcases (show zk = 0 ∨ zk = 1 ∨ zk = 2 ∨ zk = 3 ∨ zk = 4 by omega) with rfl | rfl | rfl | rfl | rfl <;> decide
        refine mt_h3E (zc := ws_3.getD zk.toNat 0) hS of ot omm ok ⟨by omega, by omega⟩ ⟨⟨by omega, by omega⟩, fun h5 g1 g2 => ?_⟩
        have e := me_nil g2
        subst e
        refine ⟨_, me_cat (d := d + 5) hS ⟨by omega, by omega⟩, fun w h6 ow hq => ?_⟩
        obtain ⟨rfl, rfl⟩ := hq
        have bx := cx_in hS (zf + zk)
        refine mt_h3F (zz := cx_at h6 (zf + zk)) (zc := ws_3.getD zk.toNat 0) hS of ot omm ok ⟨by omega, by omega⟩ ⟨by omega, by omega⟩ ?_ ?_
        · intro c3
          refine ⟨⟨by omega, by omega⟩, fun h7 g1 g2 => ?_⟩
          have e := me_nil g2
          subst e
          refine ih 0 (zk + 1) (by omega) (by omega) (by omega) (Or.inl rfl) (fun x => absurd x (by decide)) (fun _ x => ?_)
          have y := x.2 zk.toNat (by show zk.toNat < 5; omega)
          rw [show ((zk.toNat : Nat) : Int) = zk by omega] at y
          exact c3 y.symm
        · intro c3
          refine ⟨⟨by omega, by omega⟩, fun h7 g1 g2 => ?_⟩
          have e := me_nil g2
          subst e
          refine ih 1 (zk + 1) (by omega) (by omega) (by omega) (Or.inr rfl) (fun _ => ⟨a1, fun j hj => ?_⟩) (fun x => absurd x (by decide))
          by_cases ej : (j : Int) = zk
          · have ej2 : j = zk.toNat := by omega
            rw [ej, ej2]
            exact c3.symm
          · exact a2 j (by omega)
theorem me_has_3 (hS : ab_Sh sx_sk h) (f0 : 0 ≤ zf) (f1 : zf ≤ 300) (t0 : 0 ≤ zt) (t1 : zt ≤ 300) : me_E (d + 6) 26 0 [some (.inr (.inr 52)), some (.inr (.inr 3)), some (.inl zf), some (.inl zt), none, none] [] h (hs_Q h zf zt ws_3) := by
  have of : mi_in zf := ⟨by omega, by omega⟩
  have ot : mi_in zt := ⟨by omega, by omega⟩
  refine mt_h3A hS of ot ⟨⟨by omega, by omega⟩, fun h1 g1 g2 => ?_⟩
  have e := me_nil g2
  subst e
  refine ⟨_, me_len_3 (d := d) hS, fun w h2 ow hq => ?_⟩
  obtain ⟨rfl, rfl⟩ := hq
  refine mt_h3B (zl := 5) (zs := zt - zf) hS of ot ⟨by decide, by decide⟩ ⟨by omega, by omega⟩ ?_ ?_
  · intro c h3 g1 g2
    have e := me_nil g2
    subst e
    exact hs20_3 hS f0 f1 t0 t1 10 0 0 (by decide) (by decide) (by decide) (Or.inl rfl) (fun x => absurd x (by decide)) (fun _ x => c x.1)
  · intro c h3 g1 g2
    have e := me_nil g2
    subst e
    exact hs20_3 hS f0 f1 t0 t1 10 1 0 (by decide) (by decide) (by decide) (Or.inr rfl) (fun _ => ⟨c, fun j hj => by omega⟩) (fun x => absurd x (by decide))
end HS3
def ws_4 : List Int := [98, 108, 97, 110, 107]
def xc_len_4 : ab_C := (27, [(3, 4, 0, [])], [], [((1, 5, 5, []), [])], [], 5)
theorem xo_len_4 : ab_Ok sc_P sx_sk xc_len_4 := ab_good_ok (env := []) (heads := []) (fuel := 40) (by decide +kernel) (fun _ h => absurd h List.not_mem_nil)
def xc_chr_4_0 : ab_C := (29, [(3, 4, 0, []), (1, 0, 0, [])], [], [((1, 98, 98, []), [])], [], 5)
theorem xo_chr_4_0 : ab_Ok sc_P sx_sk xc_chr_4_0 := ab_good_ok (env := []) (heads := []) (fuel := 60) (by decide +kernel) (fun _ h => absurd h List.not_mem_nil)
def xc_chr_4_1 : ab_C := (29, [(3, 4, 0, []), (1, 1, 1, [])], [], [((1, 108, 108, []), [])], [], 5)
theorem xo_chr_4_1 : ab_Ok sc_P sx_sk xc_chr_4_1 := ab_good_ok (env := []) (heads := []) (fuel := 60) (by decide +kernel) (fun _ h => absurd h List.not_mem_nil)
def xc_chr_4_2 : ab_C := (29, [(3, 4, 0, []), (1, 2, 2, [])], [], [((1, 97, 97, []), [])], [], 5)
theorem xo_chr_4_2 : ab_Ok sc_P sx_sk xc_chr_4_2 := ab_good_ok (env := []) (heads := []) (fuel := 60) (by decide +kernel) (fun _ h => absurd h List.not_mem_nil)
def xc_chr_4_3 : ab_C := (29, [(3, 4, 0, []), (1, 3, 3, [])], [], [((1, 110, 110, []), [])], [], 5)
theorem xo_chr_4_3 : ab_Ok sc_P sx_sk xc_chr_4_3 := ab_good_ok (env := []) (heads := []) (fuel := 60) (by decide +kernel) (fun _ h => absurd h List.not_mem_nil)
def xc_chr_4_4 : ab_C := (29, [(3, 4, 0, []), (1, 4, 4, [])], [], [((1, 107, 107, []), [])], [], 5)
theorem xo_chr_4_4 : ab_Ok sc_P sx_sk xc_chr_4_4 := ab_good_ok (env := []) (heads := []) (fuel := 60) (by decide +kernel) (fun _ h => absurd h List.not_mem_nil)
section HS4
variable {d : Nat} {h : sm_H} {zf zt : Int}
theorem me_len_4 (hS : ab_Sh sx_sk h) : me_E (d + 5) 27 0 [some (.inr (.inr 4))] [] h (fun w h' => h' = h ∧ w = some (.inl 5)) := me_abs1 (m := 27) (M := (1, 1, sb_27)) (as := [.inr (.inr 4)]) xo_len_4 rfl rfl (by decide) hS ⟨rfl, trivial⟩
theorem me_chr_4 {zk : Int} (hS : ab_Sh sx_sk h) (k0 : 0 ≤ zk) (k1 : zk < 5) : me_E (d + 5) 29 0 [some (.inr (.inr 4)), some (.inl zk)] [] h (fun w h' => h' = h ∧ w = some (.inl (ws_4.getD zk.toNat 0))) := by
  rcases (show zk = 0 ∨ zk = 1 ∨ zk = 2 ∨ zk = 3 ∨ zk = 4 by omega) with rfl | rfl | rfl | rfl | rfl
  · exact me_abs1 (m := 29) (M := (2, 5, sb_29)) (as := [.inr (.inr 4), .inl 0]) (z := 98) xo_chr_4_0 rfl rfl (by decide) hS ⟨rfl, me_nv1 ⟨by decide, by decide⟩ (by decide) (by decide), trivial⟩
  · exact me_abs1 (m := 29) (M := (2, 5, sb_29)) (as := [.inr (.inr 4), .inl 1]) (z := 108) xo_chr_4_1 rfl rfl (by decide) hS ⟨rfl, me_nv1 ⟨by decide, by decide⟩ (by decide) (by decide), trivial⟩
  · exact me_abs1 (m := 29) (M := (2, 5, sb_29)) (as := [.inr (.inr 4), .inl 2]) (z := 97) xo_chr_4_2 rfl rfl (by decide) hS ⟨rfl, me_nv1 ⟨by decide, by decide⟩ (by decide) (by decide), trivial⟩
  · exact me_abs1 (m := 29) (M := (2, 5, sb_29)) (as := [.inr (.inr 4), .inl 3]) (z := 110) xo_chr_4_3 rfl rfl (by decide) hS ⟨rfl, me_nv1 ⟨by decide, by decide⟩ (by decide) (by decide), trivial⟩
  · exact me_abs1 (m := 29) (M := (2, 5, sb_29)) (as := [.inr (.inr 4), .inl 4]) (z := 107) xo_chr_4_4 rfl rfl (by decide) hS ⟨rfl, me_nv1 ⟨by decide, by decide⟩ (by decide) (by decide), trivial⟩
theorem hs20_4 (hS : ab_Sh sx_sk h) (f0 : 0 ≤ zf) (f1 : zf ≤ 300) (t0 : 0 ≤ zt) (t1 : zt ≤ 300) : ∀ (N : Nat) (zm zk : Int), 5 - zk < N → 0 ≤ zk → zk ≤ 5 → (zm = 0 ∨ zm = 1) → (zm = 1 → zt - zf = 5 ∧ ∀ j : Nat, (j : Int) < zk → cx_at h (zf + j) = ws_4.getD j 0) → (zm = 0 → ¬ (zt - zf = 5 ∧ wd_m h zf ws_4)) → me_E (d + 6) 26 20 [some (.inr (.inr 52)), some (.inr (.inr 4)), some (.inl zf), some (.inl zt), some (.inl zm), some (.inl zk)] [] h (hs_Q h zf zt ws_4) := by
  intro N
  induction N with
  | zero => intro zm zk hN k0 k1; exfalso; omega
  | succ N ih =>
    intro zm zk hN k0 k1 om hA hB
    have of : mi_in zf := ⟨by omega, by omega⟩
    have ot : mi_in zt := ⟨by omega, by omega⟩
    have omm : mi_in zm := ⟨by omega, by omega⟩
    have ok : mi_in zk := ⟨by omega, by omega⟩
    refine mt_h4C hS of ot omm ok ?_ ?_
    · intro c
      refine ⟨om, fun h1 g1 g2 => ⟨me_nil g2, zm, rfl, om, fun x => by omega, fun x => absurd x (hB c)⟩⟩
    · intro c h1 g1 g2
      have e := me_nil g2
      subst e
      refine ⟨_, me_len_4 (d := d) hS, fun w h2 ow hq => ?_⟩
      obtain ⟨rfl, rfl⟩ := hq
      obtain ⟨a1, a2⟩ := hA (by omega)
      refine mt_h4D (zl := 5) (zy := zk) hS of ot omm ok ⟨by decide, by decide⟩ ok ?_ ?_
      · intro c2
        refine ⟨om, fun h3 g1 g2 => ⟨me_nil g2, zm, rfl, om, fun _ => ⟨a1, fun j hj => a2 j (by have : j < 5 := hj; omega)⟩, fun _ => by omega⟩⟩
      · intro c2 h3 g1 g2
        have e := me_nil g2
        subst e
        refine ⟨_, me_chr_4 (d := d) hS k0 c2, fun w h4 ow hq => ?_⟩
        obtain ⟨rfl, rfl⟩ := hq
        have bc : 0 ≤ ws_4.getD zk.toNat 0 ∧ ws_4.getD zk.toNat 0 ≤ 200 := by
          rcases (show zk = 0 ∨ zk = 1 ∨ zk = 2 ∨ zk = 3 ∨ zk = 4 by omega) with rfl | rfl | rfl | rfl | rfl <;> decide
        refine mt_h4E (zc := ws_4.getD zk.toNat 0) hS of ot omm ok ⟨by omega, by omega⟩ ⟨⟨by omega, by omega⟩, fun h5 g1 g2 => ?_⟩
        have e := me_nil g2
        subst e
        refine ⟨_, me_cat (d := d + 5) hS ⟨by omega, by omega⟩, fun w h6 ow hq => ?_⟩
        obtain ⟨rfl, rfl⟩ := hq
        have bx := cx_in hS (zf + zk)
        refine mt_h4F (zz := cx_at h6 (zf + zk)) (zc := ws_4.getD zk.toNat 0) hS of ot omm ok ⟨by omega, by omega⟩ ⟨by omega, by omega⟩ ?_ ?_
        · intro c3
          refine ⟨⟨by omega, by omega⟩, fun h7 g1 g2 => ?_⟩
          have e := me_nil g2
          subst e
          refine ih 0 (zk + 1) (by omega) (by omega) (by omega) (Or.inl rfl) (fun x => absurd x (by decide)) (fun _ x => ?_)
          have y := x.2 zk.toNat (by show zk.toNat < 5; omega)
          rw [show ((zk.toNat : Nat) : Int) = zk by omega] at y
          exact c3 y.symm
        · intro c3
          refine ⟨⟨by omega, by omega⟩, fun h7 g1 g2 => ?_⟩
          have e := me_nil g2
          subst e
          refine ih 1 (zk + 1) (by omega) (by omega) (by omega) (Or.inr rfl) (fun _ => ⟨a1, fun j hj => ?_⟩) (fun x => absurd x (by decide))
          by_cases ej : (j : Int) = zk
          · have ej2 : j = zk.toNat := by omega
            rw [ej, ej2]
            exact c3.symm
          · exact a2 j (by omega)
theorem me_has_4 (hS : ab_Sh sx_sk h) (f0 : 0 ≤ zf) (f1 : zf ≤ 300) (t0 : 0 ≤ zt) (t1 : zt ≤ 300) : me_E (d + 6) 26 0 [some (.inr (.inr 52)), some (.inr (.inr 4)), some (.inl zf), some (.inl zt), none, none] [] h (hs_Q h zf zt ws_4) := by
  have of : mi_in zf := ⟨by omega, by omega⟩
  have ot : mi_in zt := ⟨by omega, by omega⟩
  refine mt_h4A hS of ot ⟨⟨by omega, by omega⟩, fun h1 g1 g2 => ?_⟩
  have e := me_nil g2
  subst e
  refine ⟨_, me_len_4 (d := d) hS, fun w h2 ow hq => ?_⟩
  obtain ⟨rfl, rfl⟩ := hq
  refine mt_h4B (zl := 5) (zs := zt - zf) hS of ot ⟨by decide, by decide⟩ ⟨by omega, by omega⟩ ?_ ?_
  · intro c h3 g1 g2
    have e := me_nil g2
    subst e
    exact hs20_4 hS f0 f1 t0 t1 10 0 0 (by decide) (by decide) (by decide) (Or.inl rfl) (fun x => absurd x (by decide)) (fun _ x => c x.1)
  · intro c h3 g1 g2
    have e := me_nil g2
    subst e
    exact hs20_4 hS f0 f1 t0 t1 10 1 0 (by decide) (by decide) (by decide) (Or.inr rfl) (fun _ => ⟨c, fun j hj => by omega⟩) (fun x => absurd x (by decide))
end HS4
def ws_5 : List Int := [108, 105, 110, 101]
def xc_len_5 : ab_C := (27, [(3, 5, 0, [])], [], [((1, 4, 4, []), [])], [], 5)
theorem xo_len_5 : ab_Ok sc_P sx_sk xc_len_5 := ab_good_ok (env := []) (heads := []) (fuel := 40) (by decide +kernel) (fun _ h => absurd h List.not_mem_nil)
def xc_chr_5_0 : ab_C := (29, [(3, 5, 0, []), (1, 0, 0, [])], [], [((1, 108, 108, []), [])], [], 5)
theorem xo_chr_5_0 : ab_Ok sc_P sx_sk xc_chr_5_0 := ab_good_ok (env := []) (heads := []) (fuel := 60) (by decide +kernel) (fun _ h => absurd h List.not_mem_nil)
def xc_chr_5_1 : ab_C := (29, [(3, 5, 0, []), (1, 1, 1, [])], [], [((1, 105, 105, []), [])], [], 5)
theorem xo_chr_5_1 : ab_Ok sc_P sx_sk xc_chr_5_1 := ab_good_ok (env := []) (heads := []) (fuel := 60) (by decide +kernel) (fun _ h => absurd h List.not_mem_nil)
def xc_chr_5_2 : ab_C := (29, [(3, 5, 0, []), (1, 2, 2, [])], [], [((1, 110, 110, []), [])], [], 5)
theorem xo_chr_5_2 : ab_Ok sc_P sx_sk xc_chr_5_2 := ab_good_ok (env := []) (heads := []) (fuel := 60) (by decide +kernel) (fun _ h => absurd h List.not_mem_nil)
def xc_chr_5_3 : ab_C := (29, [(3, 5, 0, []), (1, 3, 3, [])], [], [((1, 101, 101, []), [])], [], 5)
theorem xo_chr_5_3 : ab_Ok sc_P sx_sk xc_chr_5_3 := ab_good_ok (env := []) (heads := []) (fuel := 60) (by decide +kernel) (fun _ h => absurd h List.not_mem_nil)
section HS5
variable {d : Nat} {h : sm_H} {zf zt : Int}
theorem me_len_5 (hS : ab_Sh sx_sk h) : me_E (d + 5) 27 0 [some (.inr (.inr 5))] [] h (fun w h' => h' = h ∧ w = some (.inl 4)) := me_abs1 (m := 27) (M := (1, 1, sb_27)) (as := [.inr (.inr 5)]) xo_len_5 rfl rfl (by decide) hS ⟨rfl, trivial⟩
theorem me_chr_5 {zk : Int} (hS : ab_Sh sx_sk h) (k0 : 0 ≤ zk) (k1 : zk < 4) : me_E (d + 5) 29 0 [some (.inr (.inr 5)), some (.inl zk)] [] h (fun w h' => h' = h ∧ w = some (.inl (ws_5.getD zk.toNat 0))) := by
  rcases (show zk = 0 ∨ zk = 1 ∨ zk = 2 ∨ zk = 3 by omega) with rfl | rfl | rfl | rfl
  · exact me_abs1 (m := 29) (M := (2, 5, sb_29)) (as := [.inr (.inr 5), .inl 0]) (z := 108) xo_chr_5_0 rfl rfl (by decide) hS ⟨rfl, me_nv1 ⟨by decide, by decide⟩ (by decide) (by decide), trivial⟩
  · exact me_abs1 (m := 29) (M := (2, 5, sb_29)) (as := [.inr (.inr 5), .inl 1]) (z := 105) xo_chr_5_1 rfl rfl (by decide) hS ⟨rfl, me_nv1 ⟨by decide, by decide⟩ (by decide) (by decide), trivial⟩
  · exact me_abs1 (m := 29) (M := (2, 5, sb_29)) (as := [.inr (.inr 5), .inl 2]) (z := 110) xo_chr_5_2 rfl rfl (by decide) hS ⟨rfl, me_nv1 ⟨by decide, by decide⟩ (by decide) (by decide), trivial⟩
  · exact me_abs1 (m := 29) (M := (2, 5, sb_29)) (as := [.inr (.inr 5), .inl 3]) (z := 101) xo_chr_5_3 rfl rfl (by decide) hS ⟨rfl, me_nv1 ⟨by decide, by decide⟩ (by decide) (by decide), trivial⟩
theorem hs20_5 (hS : ab_Sh sx_sk h) (f0 : 0 ≤ zf) (f1 : zf ≤ 300) (t0 : 0 ≤ zt) (t1 : zt ≤ 300) : ∀ (N : Nat) (zm zk : Int), 4 - zk < N → 0 ≤ zk → zk ≤ 4 → (zm = 0 ∨ zm = 1) → (zm = 1 → zt - zf = 4 ∧ ∀ j : Nat, (j : Int) < zk → cx_at h (zf + j) = ws_5.getD j 0) → (zm = 0 → ¬ (zt - zf = 4 ∧ wd_m h zf ws_5)) → me_E (d + 6) 26 20 [some (.inr (.inr 52)), some (.inr (.inr 5)), some (.inl zf), some (.inl zt), some (.inl zm), some (.inl zk)] [] h (hs_Q h zf zt ws_5) := by
  intro N
  induction N with
  | zero => intro zm zk hN k0 k1; exfalso; omega
  | succ N ih =>
    intro zm zk hN k0 k1 om hA hB
    have of : mi_in zf := ⟨by omega, by omega⟩
    have ot : mi_in zt := ⟨by omega, by omega⟩
    have omm : mi_in zm := ⟨by omega, by omega⟩
    have ok : mi_in zk := ⟨by omega, by omega⟩
    refine mt_h5C hS of ot omm ok ?_ ?_
    · intro c
      refine ⟨om, fun h1 g1 g2 => ⟨me_nil g2, zm, rfl, om, fun x => by omega, fun x => absurd x (hB c)⟩⟩
    · intro c h1 g1 g2
      have e := me_nil g2
      subst e
      refine ⟨_, me_len_5 (d := d) hS, fun w h2 ow hq => ?_⟩
      obtain ⟨rfl, rfl⟩ := hq
      obtain ⟨a1, a2⟩ := hA (by omega)
      refine mt_h5D (zl := 4) (zy := zk) hS of ot omm ok ⟨by decide, by decide⟩ ok ?_ ?_
      · intro c2
        refine ⟨om, fun h3 g1 g2 => ⟨me_nil g2, zm, rfl, om, fun _ => ⟨a1, fun j hj => a2 j (by have : j < 4 := hj; omega)⟩, fun _ => by omega⟩⟩
      · intro c2 h3 g1 g2
        have e := me_nil g2
        subst e
        refine ⟨_, me_chr_5 (d := d) hS k0 c2, fun w h4 ow hq => ?_⟩
        obtain ⟨rfl, rfl⟩ := hq
        have bc : 0 ≤ ws_5.getD zk.toNat 0 ∧ ws_5.getD zk.toNat 0 ≤ 200 := by
          rcases (show zk = 0 ∨ zk = 1 ∨ zk = 2 ∨ zk = 3 by omega) with rfl | rfl | rfl | rfl <;> decide
        refine mt_h5E (zc := ws_5.getD zk.toNat 0) hS of ot omm ok ⟨by omega, by omega⟩ ⟨⟨by omega, by omega⟩, fun h5 g1 g2 => ?_⟩
        have e := me_nil g2
        subst e
        refine ⟨_, me_cat (d := d + 5) hS ⟨by omega, by omega⟩, fun w h6 ow hq => ?_⟩
        obtain ⟨rfl, rfl⟩ := hq
        have bx := cx_in hS (zf + zk)
        refine mt_h5F (zz := cx_at h6 (zf + zk)) (zc := ws_5.getD zk.toNat 0) hS of ot omm ok ⟨by omega, by omega⟩ ⟨by omega, by omega⟩ ?_ ?_
        · intro c3
          refine ⟨⟨by omega, by omega⟩, fun h7 g1 g2 => ?_⟩
          have e := me_nil g2
          subst e
          refine ih 0 (zk + 1) (by omega) (by omega) (by omega) (Or.inl rfl) (fun x => absurd x (by decide)) (fun _ x => ?_)
          have y := x.2 zk.toNat (by show zk.toNat < 4; omega)
          rw [show ((zk.toNat : Nat) : Int) = zk by omega] at y
          exact c3 y.symm
        · intro c3
          refine ⟨⟨by omega, by omega⟩, fun h7 g1 g2 => ?_⟩
          have e := me_nil g2
          subst e
          refine ih 1 (zk + 1) (by omega) (by omega) (by omega) (Or.inr rfl) (fun _ => ⟨a1, fun j hj => ?_⟩) (fun x => absurd x (by decide))
          by_cases ej : (j : Int) = zk
          · have ej2 : j = zk.toNat := by omega
            rw [ej, ej2]
            exact c3.symm
          · exact a2 j (by omega)
theorem me_has_5 (hS : ab_Sh sx_sk h) (f0 : 0 ≤ zf) (f1 : zf ≤ 300) (t0 : 0 ≤ zt) (t1 : zt ≤ 300) : me_E (d + 6) 26 0 [some (.inr (.inr 52)), some (.inr (.inr 5)), some (.inl zf), some (.inl zt), none, none] [] h (hs_Q h zf zt ws_5) := by
  have of : mi_in zf := ⟨by omega, by omega⟩
  have ot : mi_in zt := ⟨by omega, by omega⟩
  refine mt_h5A hS of ot ⟨⟨by omega, by omega⟩, fun h1 g1 g2 => ?_⟩
  have e := me_nil g2
  subst e
  refine ⟨_, me_len_5 (d := d) hS, fun w h2 ow hq => ?_⟩
  obtain ⟨rfl, rfl⟩ := hq
  refine mt_h5B (zl := 4) (zs := zt - zf) hS of ot ⟨by decide, by decide⟩ ⟨by omega, by omega⟩ ?_ ?_
  · intro c h3 g1 g2
    have e := me_nil g2
    subst e
    exact hs20_5 hS f0 f1 t0 t1 10 0 0 (by decide) (by decide) (by decide) (Or.inl rfl) (fun x => absurd x (by decide)) (fun _ x => c x.1)
  · intro c h3 g1 g2
    have e := me_nil g2
    subst e
    exact hs20_5 hS f0 f1 t0 t1 10 1 0 (by decide) (by decide) (by decide) (Or.inr rfl) (fun _ => ⟨c, fun j hj => by omega⟩) (fun x => absurd x (by decide))
end HS5
def ws_6 : List Int := [100, 101, 101, 112, 101, 114]
def xc_len_6 : ab_C := (27, [(3, 6, 0, [])], [], [((1, 6, 6, []), [])], [], 5)
theorem xo_len_6 : ab_Ok sc_P sx_sk xc_len_6 := ab_good_ok (env := []) (heads := []) (fuel := 40) (by decide +kernel) (fun _ h => absurd h List.not_mem_nil)
def xc_chr_6_0 : ab_C := (29, [(3, 6, 0, []), (1, 0, 0, [])], [], [((1, 100, 100, []), [])], [], 5)
theorem xo_chr_6_0 : ab_Ok sc_P sx_sk xc_chr_6_0 := ab_good_ok (env := []) (heads := []) (fuel := 60) (by decide +kernel) (fun _ h => absurd h List.not_mem_nil)
def xc_chr_6_1 : ab_C := (29, [(3, 6, 0, []), (1, 1, 1, [])], [], [((1, 101, 101, []), [])], [], 5)
theorem xo_chr_6_1 : ab_Ok sc_P sx_sk xc_chr_6_1 := ab_good_ok (env := []) (heads := []) (fuel := 60) (by decide +kernel) (fun _ h => absurd h List.not_mem_nil)
def xc_chr_6_2 : ab_C := (29, [(3, 6, 0, []), (1, 2, 2, [])], [], [((1, 101, 101, []), [])], [], 5)
theorem xo_chr_6_2 : ab_Ok sc_P sx_sk xc_chr_6_2 := ab_good_ok (env := []) (heads := []) (fuel := 60) (by decide +kernel) (fun _ h => absurd h List.not_mem_nil)
def xc_chr_6_3 : ab_C := (29, [(3, 6, 0, []), (1, 3, 3, [])], [], [((1, 112, 112, []), [])], [], 5)
theorem xo_chr_6_3 : ab_Ok sc_P sx_sk xc_chr_6_3 := ab_good_ok (env := []) (heads := []) (fuel := 60) (by decide +kernel) (fun _ h => absurd h List.not_mem_nil)
def xc_chr_6_4 : ab_C := (29, [(3, 6, 0, []), (1, 4, 4, [])], [], [((1, 101, 101, []), [])], [], 5)
theorem xo_chr_6_4 : ab_Ok sc_P sx_sk xc_chr_6_4 := ab_good_ok (env := []) (heads := []) (fuel := 60) (by decide +kernel) (fun _ h => absurd h List.not_mem_nil)
def xc_chr_6_5 : ab_C := (29, [(3, 6, 0, []), (1, 5, 5, [])], [], [((1, 114, 114, []), [])], [], 5)
theorem xo_chr_6_5 : ab_Ok sc_P sx_sk xc_chr_6_5 := ab_good_ok (env := []) (heads := []) (fuel := 60) (by decide +kernel) (fun _ h => absurd h List.not_mem_nil)
section HS6
variable {d : Nat} {h : sm_H} {zf zt : Int}
theorem me_len_6 (hS : ab_Sh sx_sk h) : me_E (d + 5) 27 0 [some (.inr (.inr 6))] [] h (fun w h' => h' = h ∧ w = some (.inl 6)) := me_abs1 (m := 27) (M := (1, 1, sb_27)) (as := [.inr (.inr 6)]) xo_len_6 rfl rfl (by decide) hS ⟨rfl, trivial⟩
theorem me_chr_6 {zk : Int} (hS : ab_Sh sx_sk h) (k0 : 0 ≤ zk) (k1 : zk < 6) : me_E (d + 5) 29 0 [some (.inr (.inr 6)), some (.inl zk)] [] h (fun w h' => h' = h ∧ w = some (.inl (ws_6.getD zk.toNat 0))) := by
  rcases (show zk = 0 ∨ zk = 1 ∨ zk = 2 ∨ zk = 3 ∨ zk = 4 ∨ zk = 5 by omega) with rfl | rfl | rfl | rfl | rfl | rfl
  · exact me_abs1 (m := 29) (M := (2, 5, sb_29)) (as := [.inr (.inr 6), .inl 0]) (z := 100) xo_chr_6_0 rfl rfl (by decide) hS ⟨rfl, me_nv1 ⟨by decide, by decide⟩ (by decide) (by decide), trivial⟩
  · exact me_abs1 (m := 29) (M := (2, 5, sb_29)) (as := [.inr (.inr 6), .inl 1]) (z := 101) xo_chr_6_1 rfl rfl (by decide) hS ⟨rfl, me_nv1 ⟨by decide, by decide⟩ (by decide) (by decide), trivial⟩
  · exact me_abs1 (m := 29) (M := (2, 5, sb_29)) (as := [.inr (.inr 6), .inl 2]) (z := 101) xo_chr_6_2 rfl rfl (by decide) hS ⟨rfl, me_nv1 ⟨by decide, by decide⟩ (by decide) (by decide), trivial⟩
  · exact me_abs1 (m := 29) (M := (2, 5, sb_29)) (as := [.inr (.inr 6), .inl 3]) (z := 112) xo_chr_6_3 rfl rfl (by decide) hS ⟨rfl, me_nv1 ⟨by decide, by decide⟩ (by decide) (by decide), trivial⟩
  · exact me_abs1 (m := 29) (M := (2, 5, sb_29)) (as := [.inr (.inr 6), .inl 4]) (z := 101) xo_chr_6_4 rfl rfl (by decide) hS ⟨rfl, me_nv1 ⟨by decide, by decide⟩ (by decide) (by decide), trivial⟩
  · exact me_abs1 (m := 29) (M := (2, 5, sb_29)) (as := [.inr (.inr 6), .inl 5]) (z := 114) xo_chr_6_5 rfl rfl (by decide) hS ⟨rfl, me_nv1 ⟨by decide, by decide⟩ (by decide) (by decide), trivial⟩
theorem hs20_6 (hS : ab_Sh sx_sk h) (f0 : 0 ≤ zf) (f1 : zf ≤ 300) (t0 : 0 ≤ zt) (t1 : zt ≤ 300) : ∀ (N : Nat) (zm zk : Int), 6 - zk < N → 0 ≤ zk → zk ≤ 6 → (zm = 0 ∨ zm = 1) → (zm = 1 → zt - zf = 6 ∧ ∀ j : Nat, (j : Int) < zk → cx_at h (zf + j) = ws_6.getD j 0) → (zm = 0 → ¬ (zt - zf = 6 ∧ wd_m h zf ws_6)) → me_E (d + 6) 26 20 [some (.inr (.inr 52)), some (.inr (.inr 6)), some (.inl zf), some (.inl zt), some (.inl zm), some (.inl zk)] [] h (hs_Q h zf zt ws_6) := by
  intro N
  induction N with
  | zero => intro zm zk hN k0 k1; exfalso; omega
  | succ N ih =>
    intro zm zk hN k0 k1 om hA hB
    have of : mi_in zf := ⟨by omega, by omega⟩
    have ot : mi_in zt := ⟨by omega, by omega⟩
    have omm : mi_in zm := ⟨by omega, by omega⟩
    have ok : mi_in zk := ⟨by omega, by omega⟩
    refine mt_h6C hS of ot omm ok ?_ ?_
    · intro c
      refine ⟨om, fun h1 g1 g2 => ⟨me_nil g2, zm, rfl, om, fun x => by omega, fun x => absurd x (hB c)⟩⟩
    · intro c h1 g1 g2
      have e := me_nil g2
      subst e
      refine ⟨_, me_len_6 (d := d) hS, fun w h2 ow hq => ?_⟩
      obtain ⟨rfl, rfl⟩ := hq
      obtain ⟨a1, a2⟩ := hA (by omega)
      refine mt_h6D (zl := 6) (zy := zk) hS of ot omm ok ⟨by decide, by decide⟩ ok ?_ ?_
      · intro c2
        refine ⟨om, fun h3 g1 g2 => ⟨me_nil g2, zm, rfl, om, fun _ => ⟨a1, fun j hj => a2 j (by have : j < 6 := hj; omega)⟩, fun _ => by omega⟩⟩
      · intro c2 h3 g1 g2
        have e := me_nil g2
        subst e
        refine ⟨_, me_chr_6 (d := d) hS k0 c2, fun w h4 ow hq => ?_⟩
        obtain ⟨rfl, rfl⟩ := hq
        have bc : 0 ≤ ws_6.getD zk.toNat 0 ∧ ws_6.getD zk.toNat 0 ≤ 200 := by
          rcases (show zk = 0 ∨ zk = 1 ∨ zk = 2 ∨ zk = 3 ∨ zk = 4 ∨ zk = 5 by omega) with rfl | rfl | rfl | rfl | rfl | rfl <;> decide
        refine mt_h6E (zc := ws_6.getD zk.toNat 0) hS of ot omm ok ⟨by omega, by omega⟩ ⟨⟨by omega, by omega⟩, fun h5 g1 g2 => ?_⟩
        have e := me_nil g2
        subst e
        refine ⟨_, me_cat (d := d + 5) hS ⟨by omega, by omega⟩, fun w h6 ow hq => ?_⟩
        obtain ⟨rfl, rfl⟩ := hq
        have bx := cx_in hS (zf + zk)
        refine mt_h6F (zz := cx_at h6 (zf + zk)) (zc := ws_6.getD zk.toNat 0) hS of ot omm ok ⟨by omega, by omega⟩ ⟨by omega, by omega⟩ ?_ ?_
        · intro c3
          refine ⟨⟨by omega, by omega⟩, fun h7 g1 g2 => ?_⟩
          have e := me_nil g2
          subst e
          refine ih 0 (zk + 1) (by omega) (by omega) (by omega) (Or.inl rfl) (fun x => absurd x (by decide)) (fun _ x => ?_)
          have y := x.2 zk.toNat (by show zk.toNat < 6; omega)
          rw [show ((zk.toNat : Nat) : Int) = zk by omega] at y
          exact c3 y.symm
        · intro c3
          refine ⟨⟨by omega, by omega⟩, fun h7 g1 g2 => ?_⟩
          have e := me_nil g2
          subst e
          refine ih 1 (zk + 1) (by omega) (by omega) (by omega) (Or.inr rfl) (fun _ => ⟨a1, fun j hj => ?_⟩) (fun x => absurd x (by decide))
          by_cases ej : (j : Int) = zk
          · have ej2 : j = zk.toNat := by omega
            rw [ej, ej2]
            exact c3.symm
          · exact a2 j (by omega)
theorem me_has_6 (hS : ab_Sh sx_sk h) (f0 : 0 ≤ zf) (f1 : zf ≤ 300) (t0 : 0 ≤ zt) (t1 : zt ≤ 300) : me_E (d + 6) 26 0 [some (.inr (.inr 52)), some (.inr (.inr 6)), some (.inl zf), some (.inl zt), none, none] [] h (hs_Q h zf zt ws_6) := by
  have of : mi_in zf := ⟨by omega, by omega⟩
  have ot : mi_in zt := ⟨by omega, by omega⟩
  refine mt_h6A hS of ot ⟨⟨by omega, by omega⟩, fun h1 g1 g2 => ?_⟩
  have e := me_nil g2
  subst e
  refine ⟨_, me_len_6 (d := d) hS, fun w h2 ow hq => ?_⟩
  obtain ⟨rfl, rfl⟩ := hq
  refine mt_h6B (zl := 6) (zs := zt - zf) hS of ot ⟨by decide, by decide⟩ ⟨by omega, by omega⟩ ?_ ?_
  · intro c h3 g1 g2
    have e := me_nil g2
    subst e
    exact hs20_6 hS f0 f1 t0 t1 10 0 0 (by decide) (by decide) (by decide) (Or.inl rfl) (fun x => absurd x (by decide)) (fun _ x => c x.1)
  · intro c h3 g1 g2
    have e := me_nil g2
    subst e
    exact hs20_6 hS f0 f1 t0 t1 10 1 0 (by decide) (by decide) (by decide) (Or.inr rfl) (fun _ => ⟨c, fun j hj => by omega⟩) (fun x => absurd x (by decide))
end HS6
def ws_7 : List Int := [98, 97, 99, 107]
def xc_len_7 : ab_C := (27, [(3, 7, 0, [])], [], [((1, 4, 4, []), [])], [], 5)
theorem xo_len_7 : ab_Ok sc_P sx_sk xc_len_7 := ab_good_ok (env := []) (heads := []) (fuel := 40) (by decide +kernel) (fun _ h => absurd h List.not_mem_nil)
def xc_chr_7_0 : ab_C := (29, [(3, 7, 0, []), (1, 0, 0, [])], [], [((1, 98, 98, []), [])], [], 5)
theorem xo_chr_7_0 : ab_Ok sc_P sx_sk xc_chr_7_0 := ab_good_ok (env := []) (heads := []) (fuel := 60) (by decide +kernel) (fun _ h => absurd h List.not_mem_nil)
def xc_chr_7_1 : ab_C := (29, [(3, 7, 0, []), (1, 1, 1, [])], [], [((1, 97, 97, []), [])], [], 5)
theorem xo_chr_7_1 : ab_Ok sc_P sx_sk xc_chr_7_1 := ab_good_ok (env := []) (heads := []) (fuel := 60) (by decide +kernel) (fun _ h => absurd h List.not_mem_nil)
def xc_chr_7_2 : ab_C := (29, [(3, 7, 0, []), (1, 2, 2, [])], [], [((1, 99, 99, []), [])], [], 5)
theorem xo_chr_7_2 : ab_Ok sc_P sx_sk xc_chr_7_2 := ab_good_ok (env := []) (heads := []) (fuel := 60) (by decide +kernel) (fun _ h => absurd h List.not_mem_nil)
def xc_chr_7_3 : ab_C := (29, [(3, 7, 0, []), (1, 3, 3, [])], [], [((1, 107, 107, []), [])], [], 5)
theorem xo_chr_7_3 : ab_Ok sc_P sx_sk xc_chr_7_3 := ab_good_ok (env := []) (heads := []) (fuel := 60) (by decide +kernel) (fun _ h => absurd h List.not_mem_nil)
section HS7
variable {d : Nat} {h : sm_H} {zf zt : Int}
theorem me_len_7 (hS : ab_Sh sx_sk h) : me_E (d + 5) 27 0 [some (.inr (.inr 7))] [] h (fun w h' => h' = h ∧ w = some (.inl 4)) := me_abs1 (m := 27) (M := (1, 1, sb_27)) (as := [.inr (.inr 7)]) xo_len_7 rfl rfl (by decide) hS ⟨rfl, trivial⟩
theorem me_chr_7 {zk : Int} (hS : ab_Sh sx_sk h) (k0 : 0 ≤ zk) (k1 : zk < 4) : me_E (d + 5) 29 0 [some (.inr (.inr 7)), some (.inl zk)] [] h (fun w h' => h' = h ∧ w = some (.inl (ws_7.getD zk.toNat 0))) := by
  rcases (show zk = 0 ∨ zk = 1 ∨ zk = 2 ∨ zk = 3 by omega) with rfl | rfl | rfl | rfl
  · exact me_abs1 (m := 29) (M := (2, 5, sb_29)) (as := [.inr (.inr 7), .inl 0]) (z := 98) xo_chr_7_0 rfl rfl (by decide) hS ⟨rfl, me_nv1 ⟨by decide, by decide⟩ (by decide) (by decide), trivial⟩
  · exact me_abs1 (m := 29) (M := (2, 5, sb_29)) (as := [.inr (.inr 7), .inl 1]) (z := 97) xo_chr_7_1 rfl rfl (by decide) hS ⟨rfl, me_nv1 ⟨by decide, by decide⟩ (by decide) (by decide), trivial⟩
  · exact me_abs1 (m := 29) (M := (2, 5, sb_29)) (as := [.inr (.inr 7), .inl 2]) (z := 99) xo_chr_7_2 rfl rfl (by decide) hS ⟨rfl, me_nv1 ⟨by decide, by decide⟩ (by decide) (by decide), trivial⟩
  · exact me_abs1 (m := 29) (M := (2, 5, sb_29)) (as := [.inr (.inr 7), .inl 3]) (z := 107) xo_chr_7_3 rfl rfl (by decide) hS ⟨rfl, me_nv1 ⟨by decide, by decide⟩ (by decide) (by decide), trivial⟩
theorem hs20_7 (hS : ab_Sh sx_sk h) (f0 : 0 ≤ zf) (f1 : zf ≤ 300) (t0 : 0 ≤ zt) (t1 : zt ≤ 300) : ∀ (N : Nat) (zm zk : Int), 4 - zk < N → 0 ≤ zk → zk ≤ 4 → (zm = 0 ∨ zm = 1) → (zm = 1 → zt - zf = 4 ∧ ∀ j : Nat, (j : Int) < zk → cx_at h (zf + j) = ws_7.getD j 0) → (zm = 0 → ¬ (zt - zf = 4 ∧ wd_m h zf ws_7)) → me_E (d + 6) 26 20 [some (.inr (.inr 52)), some (.inr (.inr 7)), some (.inl zf), some (.inl zt), some (.inl zm), some (.inl zk)] [] h (hs_Q h zf zt ws_7) := by
  intro N
  induction N with
  | zero => intro zm zk hN k0 k1; exfalso; omega
  | succ N ih =>
    intro zm zk hN k0 k1 om hA hB
    have of : mi_in zf := ⟨by omega, by omega⟩
    have ot : mi_in zt := ⟨by omega, by omega⟩
    have omm : mi_in zm := ⟨by omega, by omega⟩
    have ok : mi_in zk := ⟨by omega, by omega⟩
    refine mt_h7C hS of ot omm ok ?_ ?_
    · intro c
      refine ⟨om, fun h1 g1 g2 => ⟨me_nil g2, zm, rfl, om, fun x => by omega, fun x => absurd x (hB c)⟩⟩
    · intro c h1 g1 g2
      have e := me_nil g2
      subst e
      refine ⟨_, me_len_7 (d := d) hS, fun w h2 ow hq => ?_⟩
      obtain ⟨rfl, rfl⟩ := hq
      obtain ⟨a1, a2⟩ := hA (by omega)
      refine mt_h7D (zl := 4) (zy := zk) hS of ot omm ok ⟨by decide, by decide⟩ ok ?_ ?_
      · intro c2
        refine ⟨om, fun h3 g1 g2 => ⟨me_nil g2, zm, rfl, om, fun _ => ⟨a1, fun j hj => a2 j (by have : j < 4 := hj; omega)⟩, fun _ => by omega⟩⟩
      · intro c2 h3 g1 g2
        have e := me_nil g2
        subst e
        refine ⟨_, me_chr_7 (d := d) hS k0 c2, fun w h4 ow hq => ?_⟩
        obtain ⟨rfl, rfl⟩ := hq
        have bc : 0 ≤ ws_7.getD zk.toNat 0 ∧ ws_7.getD zk.toNat 0 ≤ 200 := by
          rcases (show zk = 0 ∨ zk = 1 ∨ zk = 2 ∨ zk = 3 by omega) with rfl | rfl | rfl | rfl <;> decide
        refine mt_h7E (zc := ws_7.getD zk.toNat 0) hS of ot omm ok ⟨by omega, by omega⟩ ⟨⟨by omega, by omega⟩, fun h5 g1 g2 => ?_⟩
        have e := me_nil g2
        subst e
        refine ⟨_, me_cat (d := d + 5) hS ⟨by omega, by omega⟩, fun w h6 ow hq => ?_⟩
        obtain ⟨rfl, rfl⟩ := hq
        have bx := cx_in hS (zf + zk)
        refine mt_h7F (zz := cx_at h6 (zf + zk)) (zc := ws_7.getD zk.toNat 0) hS of ot omm ok ⟨by omega, by omega⟩ ⟨by omega, by omega⟩ ?_ ?_
        · intro c3
          refine ⟨⟨by omega, by omega⟩, fun h7 g1 g2 => ?_⟩
          have e := me_nil g2
          subst e
          refine ih 0 (zk + 1) (by omega) (by omega) (by omega) (Or.inl rfl) (fun x => absurd x (by decide)) (fun _ x => ?_)
          have y := x.2 zk.toNat (by show zk.toNat < 4; omega)
          rw [show ((zk.toNat : Nat) : Int) = zk by omega] at y
          exact c3 y.symm
        · intro c3
          refine ⟨⟨by omega, by omega⟩, fun h7 g1 g2 => ?_⟩
          have e := me_nil g2
          subst e
          refine ih 1 (zk + 1) (by omega) (by omega) (by omega) (Or.inr rfl) (fun _ => ⟨a1, fun j hj => ?_⟩) (fun x => absurd x (by decide))
          by_cases ej : (j : Int) = zk
          · have ej2 : j = zk.toNat := by omega
            rw [ej, ej2]
            exact c3.symm
          · exact a2 j (by omega)
theorem me_has_7 (hS : ab_Sh sx_sk h) (f0 : 0 ≤ zf) (f1 : zf ≤ 300) (t0 : 0 ≤ zt) (t1 : zt ≤ 300) : me_E (d + 6) 26 0 [some (.inr (.inr 52)), some (.inr (.inr 7)), some (.inl zf), some (.inl zt), none, none] [] h (hs_Q h zf zt ws_7) := by
  have of : mi_in zf := ⟨by omega, by omega⟩
  have ot : mi_in zt := ⟨by omega, by omega⟩
  refine mt_h7A hS of ot ⟨⟨by omega, by omega⟩, fun h1 g1 g2 => ?_⟩
  have e := me_nil g2
  subst e
  refine ⟨_, me_len_7 (d := d) hS, fun w h2 ow hq => ?_⟩
  obtain ⟨rfl, rfl⟩ := hq
  refine mt_h7B (zl := 4) (zs := zt - zf) hS of ot ⟨by decide, by decide⟩ ⟨by omega, by omega⟩ ?_ ?_
  · intro c h3 g1 g2
    have e := me_nil g2
    subst e
    exact hs20_7 hS f0 f1 t0 t1 10 0 0 (by decide) (by decide) (by decide) (Or.inl rfl) (fun x => absurd x (by decide)) (fun _ x => c x.1)
  · intro c h3 g1 g2
    have e := me_nil g2
    subst e
    exact hs20_7 hS f0 f1 t0 t1 10 1 0 (by decide) (by decide) (by decide) (Or.inr rfl) (fun _ => ⟨c, fun j hj => by omega⟩) (fun x => absurd x (by decide))
end HS7
/-! words and their codes -/
theorem tx_code_cg {c c' : Nat → Int} : ∀ (m : Nat) (k k' : Int), (∀ j : Nat, j < m → c (k + j).toNat = c' (k' + j).toNat) → tx_code c k m = tx_code c' k' m := by
  intro m
  induction m with
  | zero => intro k k' _; rfl
  | succ m ih =>
    intro k k' h
    have h0 := h 0 (by omega)
    rw [show k + ((0 : Nat) : Int) = k by omega, show k' + ((0 : Nat) : Int) = k' by omega] at h0
    have := ih (k + 1) (k' + 1) (fun j hj => by
      have := h (j + 1) (by omega)
      rw [show k + ((j + 1 : Nat) : Int) = k + 1 + j by omega, show k' + ((j + 1 : Nat) : Int) = k' + 1 + j by omega] at this
      exact this)
    show (c k.toNat - 96) + 32 * tx_code c (k + 1) m = (c' k'.toNat - 96) + 32 * tx_code c' (k' + 1) m
    rw [h0, this]
theorem tx_code_inj {c c' : Nat → Int} : ∀ (m m' : Nat) (k k' : Int), (∀ j : Nat, j < m → tx_low (c (k + j).toNat)) → (∀ j : Nat, j < m' → tx_low (c' (k' + j).toNat)) → tx_code c k m = tx_code c' k' m' → m = m' ∧ ∀ j : Nat, j < m → c (k + j).toNat = c' (k' + j).toNat := by
  intro m
  induction m with
  | zero =>
    intro m' k k' _ h' e
    cases m' with
    | zero => exact ⟨rfl, fun j hj => by omega⟩
    | succ m' =>
      exfalso
      have h0 := h' 0 (by omega)
      rw [show k' + ((0 : Nat) : Int) = k' by omega] at h0
      have cb := tx_code_b (c := c') m' (k' + 1) (fun j a1 a2 => by
        have := h' (j - k').toNat (by omega)
        rw [show k' + (((j - k').toNat : Nat) : Int) = j by omega] at this
        exact this)
      have e : (0 : Int) = (c' k'.toNat - 96) + 32 * tx_code c' (k' + 1) m' := e
      have := h0.1
      omega
  | succ m ih =>
    intro m' k k' h h' e
    have h0 := h 0 (by omega)
    rw [show k + ((0 : Nat) : Int) = k by omega] at h0
    have cb := tx_code_b (c := c) m (k + 1) (fun j a1 a2 => by
      have := h (j - k).toNat (by omega)
      rw [show k + (((j - k).toNat : Nat) : Int) = j by omega] at this
      exact this)
    cases m' with
    | zero =>
      exfalso
      have e : (c k.toNat - 96) + 32 * tx_code c (k + 1) m = 0 := e
      have := h0.1
      omega
    | succ m' =>
      have h0' := h' 0 (by omega)
      rw [show k' + ((0 : Nat) : Int) = k' by omega] at h0'
      have e : (c k.toNat - 96) + 32 * tx_code c (k + 1) m = (c' k'.toNat - 96) + 32 * tx_code c' (k' + 1) m' := e
      unfold tx_low at h0 h0'
      obtain ⟨i1, i2⟩ := ih m' (k + 1) (k' + 1) (fun j hj => by
        have := h (j + 1) (by omega)
        rw [show k + ((j + 1 : Nat) : Int) = k + 1 + j by omega] at this
        exact this) (fun j hj => by
        have := h' (j + 1) (by omega)
        rw [show k' + ((j + 1 : Nat) : Int) = k' + 1 + j by omega] at this
        exact this) (by omega)
      refine ⟨by omega, fun j hj => ?_⟩
      cases j with
      | zero =>
        rw [show k + ((0 : Nat) : Int) = k by omega, show k' + ((0 : Nat) : Int) = k' by omega]
        omega
      | succ j =>
        rw [show k + ((j + 1 : Nat) : Int) = k + 1 + j by omega, show k' + ((j + 1 : Nat) : Int) = k' + 1 + j by omega]
        exact i2 j (by omega)
/-- a word stands there if its code does -/
theorem wd_iff {h : sm_H} {p e κ : Int} {ws : List Int} (p0 : 0 ≤ p) (he : tx_end tx_low (mi_f h 6657) (mi_a h 53) p e) (hl : ws.length ≤ 6) (hw : ws.all (fun z => decide (97 ≤ z ∧ z ≤ 122)) = true) (hκ : tx_code (fun i => ws.getD i 0) 0 ws.length = κ) : (e - p = (ws.length : Int) ∧ wd_m h p ws) ↔ (e - p ≤ 6 ∧ tx_code (mi_a h 53) p (e - p).toNat = κ) := by
  obtain ⟨e1, e2, e3⟩ := he
  have lowW : ∀ j : Nat, j < ws.length → tx_low ((fun i => ws.getD i 0) ((0 : Int) + j).toNat) := fun j hj => by
    have hm : ws.getD j 0 ∈ ws := by
      rw [List.getD_eq_getElem?_getD, List.getElem?_eq_getElem hj]
      exact List.getElem_mem hj
    have := of_decide_eq_true (List.all_eq_true.mp hw _ hm)
    show tx_low (ws.getD ((0 : Int) + j).toNat 0)
    rw [show ((0 : Int) + j).toNat = j by omega]
    exact this
  have at_ : ∀ j : Nat, (j : Int) < e - p → cx_at h (p + j) = mi_a h 53 (p + j).toNat := fun j hj => by
    have := (e2 (p + j) (by omega) (by omega)).1
    unfold cx_at
    rw [if_pos ⟨by omega, this⟩]
  have lowC : ∀ j : Nat, j < (e - p).toNat → tx_low (mi_a h 53 (p + j).toNat) := fun j hj => (e2 (p + j) (by omega) (by omega)).2
  constructor
  · rintro ⟨a1, a2⟩
    refine ⟨by omega, ?_⟩
    rw [← hκ, a1, show ((ws.length : Int)).toNat = ws.length from rfl]
    refine tx_code_cg ws.length p 0 (fun j hj => ?_)
    rw [← at_ j (by omega), a2 j hj, show ((0 : Int) + j).toNat = j by omega]
  · rintro ⟨a1, a2⟩
    obtain ⟨i1, i2⟩ := tx_code_inj _ _ p 0 lowC lowW (a2.trans hκ.symm)
    refine ⟨by omega, fun j hj => ?_⟩
    rw [at_ j (by omega), i2 j (by omega), show ((0 : Int) + j).toNat = j by omega]
def so_c (v : Int) : Int := if v = 609302190 then 1 else if v = 177198 then 2 else if v = 26886565 then 3 else if v = 11994498 then 4 else if v = 178476 then 5 else if v = 609752228 then 6 else if v = 363554 then 7 else 12
/-! where a character stands among the marks -/
def xc_lat : ab_C := (30, [(3, 8, 0, [])], [], [((1, 1, 1, []), [])], [], 5)
theorem xo_lat : ab_Ok sc_P sx_sk xc_lat := ab_good_ok (env := []) (heads := []) (fuel := 40) (by decide +kernel) (fun _ h => absurd h List.not_mem_nil)
def xc_enc : ab_C := (43, [(1, 0, 126, [])], [], [((1, 1, 1, []), [])], [], 5)
theorem xo_enc : ab_Ok sc_P sx_sk xc_enc := ab_good_ok (env := []) (heads := []) (fuel := 40) (by decide +kernel) (fun _ h => absurd h List.not_mem_nil)
def xc_len_8 : ab_C := (27, [(3, 8, 0, [])], [], [((1, 8, 8, []), [])], [], 5)
theorem xo_len_8 : ab_Ok sc_P sx_sk xc_len_8 := ab_good_ok (env := []) (heads := []) (fuel := 40) (by decide +kernel) (fun _ h => absurd h List.not_mem_nil)
def ix_w : List Int := [61, 59, 124, 42, 63, 41, 126, 43]
def ix_Q (h : sm_H) (zc : Int) (w : Option mi_V) (h' : sm_H) : Prop := h' = h ∧ ∃ z, w = some (.inl z) ∧ mi_in z ∧ (0 ≤ z ↔ tx_own zc ∧ zc ≠ 40)
section IDX
variable {d : Nat} {h : sm_H} {zc : Int}
theorem ix_at (hS : ab_Sh sx_sk h) {i : Nat} (hi : i < 8) : mi_a h 33 i = ix_w.getD i 0 := by
  obtain ⟨f, hh, hf⟩ := mx_arr (a := 33) (t := 4) (n := 8) (lo := -128) (hi := 127) (ex := ix_w) hS rfl (by decide)
  obtain ⟨-, -, e⟩ := hf i hi
  have e1 : mi_a h 33 i = (f i).toInt := by
    unfold mi_a mx_a
    rw [hh]
  rw [e1]
  refine e _ ?_
  rw [List.getD_eq_getElem?_getD, List.getElem?_eq_getElem (show i < ix_w.length from hi)]
  rfl
theorem ix7 (hS : ab_Sh sx_sk h) (c0 : 0 ≤ zc) (c1 : zc ≤ 126) : ∀ (N : Nat) (zi : Int), 8 - zi < N → 0 ≤ zi → zi ≤ 8 → (∀ j : Nat, (j : Int) < zi → ix_w.getD j 0 ≠ zc) → me_E d 44 7 [some (.inr (.inr 33)), some (.inl zc), some (.inl 0), some (.inl 8), some (.inl zc), some (.inl zi)] [] h (ix_Q h zc) := by
  intro N
  induction N with
  | zero => intro zi hN i0 i1; exfalso; omega
  | succ N ih =>
    intro zi hN i0 i1 hn
    have oc : mi_in zc := ⟨by omega, by omega⟩
    refine mt_ixB hS oc ⟨by decide, by decide⟩ ⟨by decide, by decide⟩ oc ⟨by omega, by omega⟩ ?_ ?_ ?_
    · intro c h1 g1 g2
      have n0 : (61 : Int) ≠ zc := hn 0 (by omega)
      have n1 : (59 : Int) ≠ zc := hn 1 (by omega)
      have n2 : (124 : Int) ≠ zc := hn 2 (by omega)
      have n3 : (42 : Int) ≠ zc := hn 3 (by omega)
      have n4 : (63 : Int) ≠ zc := hn 4 (by omega)
      have n5 : (41 : Int) ≠ zc := hn 5 (by omega)
      have n6 : (126 : Int) ≠ zc := hn 6 (by omega)
      have n7 : (43 : Int) ≠ zc := hn 7 (by omega)
      refine ⟨me_nil g2, -1, rfl, ⟨by decide, by decide⟩, fun x => absurd x (by decide), fun x => ?_⟩
      unfold tx_own at x
      omega
    · intro c c2
      rw [ix_at hS (by omega)] at c2
      refine ⟨⟨⟨by omega, by omega⟩, ⟨by omega, by omega⟩⟩, fun h1 g1 g2 => ?_⟩
      have e := me_nil g2
      subst e
      refine ih (zi + 1) (by omega) (by omega) (by omega) (fun j hj => ?_)
      by_cases ej : (j : Int) = zi
      · rw [show j = zi.toNat by omega]
        exact c2
      · exact hn j (by omega)
    · intro c c2
      rw [ix_at hS (by omega)] at c2
      refine ⟨⟨by omega, by omega⟩, fun h1 g1 g2 => ⟨me_nil g2, zi, rfl, ⟨by omega, by omega⟩, fun _ => ?_, fun _ => i0⟩⟩
      rw [← c2]
      rcases (show zi = 0 ∨ zi = 1 ∨ zi = 2 ∨ zi = 3 ∨ zi = 4 ∨ zi = 5 ∨ zi = 6 ∨ zi = 7 by omega) with rfl | rfl | rfl | rfl | rfl | rfl | rfl | rfl <;> exact ⟨by unfold tx_own; decide, by decide⟩
theorem me_idx (hS : ab_Sh sx_sk h) (c0 : 0 ≤ zc) (c1 : zc ≤ 126) : me_E (d + 8) 40 0 [some (.inr (.inr 8)), some (.inl zc)] [] h (ix_Q h zc) := by
  have oc : mi_in zc := ⟨by omega, by omega⟩
  have o0 : mi_in 0 := ⟨by decide, by decide⟩
  have o8 : mi_in 8 := ⟨by decide, by decide⟩
  have A42 : me_E (d + 6) 42 0 [some (.inr (.inr 33)), some (.inl zc), some (.inl 0), some (.inl 8)] [] h (ix_Q h zc) := by
    refine mt_iyA hS oc o0 o8 (fun h1 g1 g2 => ?_)
    have e := me_nil g2
    subst e
    refine ⟨_, me_abs1 (d := d) (m := 43) (M := (1, 4, sb_43)) (as := [.inl zc]) (z := 1) xo_enc rfl rfl (by decide) hS ⟨me_nv1 oc c0 c1, trivial⟩, fun w h2 ow hq => ?_⟩
    obtain ⟨rfl, rfl⟩ := hq
    refine mt_iyB (zz := 1) hS oc o0 o8 ⟨by decide, by decide⟩ ?_ ?_ ?_ ?_ ?_ ?_ ?_ ?_
    · intro _ c; exact absurd c (by decide)
    · intro _ c; exact absurd c (by decide)
    · intro _ c; exact absurd c (by decide)
    · intro _ _ c; exact absurd c (by decide)
    · intro _ _ c; exact absurd c (by decide)
    · intro _ _ _ _ h3 g1 g2
      have e := me_nil g2
      subst e
      refine ⟨ix_Q h3 zc, ?_, fun w h4 ow hq => ?_⟩
      · refine mt_ixA (d := d + 5) hS oc o0 o8 ⟨⟨by omega, by omega⟩, fun h4 g1 g2 => ?_⟩
        have e := me_nil g2
        subst e
        exact ix7 hS c0 c1 10 0 (by decide) (by decide) (by decide) (fun j hj => by omega)
      · obtain ⟨rfl, z, rfl, oz, hz⟩ := hq
        refine mt_iyC (zz := z) hS oc o0 o8 oz (fun h5 g1 g2 => ⟨me_nil g2, z, rfl, oz, hz⟩)
    · intro _ _ _ c; exact absurd c (by decide)
    · intro c; exact absurd c (by decide)
  refine mt_iwA hS oc (fun h1 g1 g2 => ?_)
  have e := me_nil g2
  subst e
  refine ⟨ix_Q h1 zc, ?_, fun w h2 ow hq => ?_⟩
  · refine mt_izA hS oc o0 (fun h2 g1 g2 => ?_)
    have e := me_nil g2
    subst e
    refine ⟨_, me_abs1 (d := d + 1) (m := 30) (M := (1, 4, sb_30)) (as := [.inr (.inr 8)]) (z := 1) xo_lat rfl rfl (by decide) hS ⟨rfl, trivial⟩, fun w h3 ow hq => ?_⟩
    obtain ⟨rfl, rfl⟩ := hq
    refine mt_izB (zz := 1) hS oc o0 ⟨by decide, by decide⟩ (fun c => absurd c (by decide)) (fun _ h4 g1 g2 => ?_)
    have e := me_nil g2
    subst e
    refine ⟨_, me_abs1 (d := d + 1) (m := 27) (M := (1, 1, sb_27)) (as := [.inr (.inr 8)]) (z := 8) xo_len_8 rfl rfl (by decide) hS ⟨rfl, trivial⟩, fun w h5 ow hq => ?_⟩
    obtain ⟨rfl, rfl⟩ := hq
    refine mt_izC hS oc o0 o8 (fun h6 g1 g2 => ?_)
    have e := me_nil g2
    subst e
    refine ⟨_, A42, fun w h7 ow hq => ?_⟩
    obtain ⟨rfl, z, rfl, oz, hz⟩ := hq
    exact mt_izD (zz := z) hS oc o0 oz (fun h8 g1 g2 => ⟨me_nil g2, z, rfl, oz, hz⟩)
  · obtain ⟨rfl, z, rfl, oz, hz⟩ := hq
    exact mt_iwB (zz := z) hS oc oz (fun h3 g1 g2 => ⟨me_nil g2, z, rfl, oz, hz⟩)
end IDX
/-! the class's Tokens, exactly -/
def cs_t (t v : Int) : Int := if t = 0 then 0 else if t = 1 then so_c v else if t = 2 then 9 else if t = 3 ∨ t = 4 then 8 else if t = 5 then 11 else if t = 6 then 12 else if t = 40 then 10 else t
def cc_t (t v : Int) : Int := if t = 2 then v + 65 else if t = 3 then v else if t = 4 then -v else if t = 5 then v else 0
def ca_W : List (Nat × Nat) := [(9857, 9861)]
/-- the characters of the description are those that the document allows -/
def cx_ok (h : sm_H) : Prop := ∀ i : Nat, (i : Int) < mi_f h 6657 → mi_a h 53 i = 10 ∨ (32 ≤ mi_a h 53 i ∧ mi_a h 53 i ≤ 126)
def ca_R (h0 h' : sm_H) (a : Int) : Prop := ∃ t v e, tk_T (mi_f h0 6657) (mi_a h0 53) a t v (mi_f h' 9858) e ∧ mi_f h' 9859 = cs_t t v ∧ (t ≠ 0 → t ≠ 6 → cs_t t v ≠ 12 → mi_f h' 9860 = cc_t t v ∧ mi_f h' 9857 = e)
def ca_Q (h0 : sm_H) (a : Int) (w : Option mi_V) (h' : sm_H) : Prop := w = none ∧ ab_Sh sx_sk h' ∧ ab_Fr ca_W h0 h' ∧ ca_R h0 h' a
/-- a taker begins: the blanks are passed -/
def ca_P (h0 h : sm_H) (a : Int) : Prop := ab_Sh sx_sk h0 ∧ ab_Sh sx_sk h ∧ ab_Fr ca_W h0 h ∧ cx_ok h0 ∧ tx_end tx_blk (mi_f h0 6657) (mi_a h0 53) a (mi_f h 9858) ∧ mi_f h 9858 < mi_f h0 6657 ∧ mi_f h 9860 = 0
section CTK
variable {d : Nat} {h0 h : sm_H} {a : Int}
theorem ca_e (hP : ca_P h0 h a) : mi_f h 6657 = mi_f h0 6657 ∧ mi_a h 53 = mi_a h0 53 := ⟨me_f (c := 6657) hP.2.2.1 hP.1 rfl rfl, funext (fun i => me_a (k := 53) hP.2.2.1 hP.1 rfl rfl)⟩
/-- no token: 12 -/
theorem ca_no (hP : ca_P h0 h a) (ht : ∀ v e, tk_T (mi_f h0 6657) (mi_a h0 53) a 6 v (mi_f h 9858) e) {h1 : sm_H} {wr : List (Nat × Nat)} (hw : ab_sub_wr wr [(9857, 9858), (9859, 9861)] = true) (g1 : ab_Sh sx_sk h1) (g2 : mi_f h1 9859 = 12) (g3 : ab_Fr wr h h1) : ca_Q h0 a none h1 := by
  have g3 : ab_Fr [(9857, 9858), (9859, 9861)] h h1 := g3.wide (fun c hc => ab_swr_ok hw hc)
  have e8 : mi_f h1 9858 = mi_f h 9858 := me_f (c := 9858) g3 hP.2.1 rfl rfl
  refine ⟨rfl, g1, hP.2.2.1.trans (g3.wide (fun c hc => ab_swr_ok (by decide) hc)), 6, 0, 0, ?_, g2, fun _ c => absurd rfl c⟩
  rw [e8]
  exact ht 0 0
theorem me_tword (hP : ca_P h0 h a) (hc : tx_low (mi_a h0 53 (mi_f h 9858).toNat)) : me_E (d + 8) 24 0 [some (.inr (.inr 77))] [] h (ca_Q h0 a) := by
  obtain ⟨en, ea⟩ := ca_e hP
  obtain ⟨hS0, hS, hF, hx, hp, hpn, h60⟩ := hP
  have bn := me_fb (c := 6657) hS0 rfl
  have b8 := me_fb (c := 9858) hS rfl
  refine mt_twA hS (fun h1 g1 g2 => ?_)
  have e := me_nil g2
  subst e
  refine ⟨_, me_cletters (d := d + 6) hS b8.1 (by omega), fun w h2 ow hq => ?_⟩
  obtain ⟨rfl, e, rfl, he⟩ := hq
  rw [en, ea] at he
  have e1 := he.1
  have e2 := tx_end_n he (by omega)
  refine mt_twB (zz := e) hS ⟨by omega, by omega⟩ ⟨⟨by omega, by omega⟩, fun h1 g1 g2 g3 => ?_⟩
  have n8 : mi_f h1 9858 = mi_f h2 9858 := me_f (c := 9858) g3 hS rfl rfl
  have n57 : mi_f h1 6657 = mi_f h0 6657 := (me_f (c := 6657) g3 hS rfl rfl).trans en
  have n53 : mi_a h1 53 = mi_a h0 53 := (funext (fun i => me_a (k := 53) g3 hS rfl rfl)).trans ea
  have n60 : mi_f h1 9860 = 0 := (me_f (c := 9860) g3 hS rfl rfl).trans h60
  have F1 : ab_Fr ca_W h0 h1 := hF.trans (g3.wide (fun c hc => ab_swr_ok (by decide) hc))
  have he1 : tx_end tx_low (mi_f h1 6657) (mi_a h1 53) (mi_f h2 9858) e := by rw [n57, n53]; exact he
  generalize hV : (if 6 < e - mi_f h2 9858 then (-1 : Int) else tx_code (mi_a h0 53) (mi_f h2 9858) (e - mi_f h2 9858).toNat) = V
  have vd : (6 < e - mi_f h2 9858 ∧ V = -1) ∨ (e - mi_f h2 9858 ≤ 6 ∧ V = tx_code (mi_a h0 53) (mi_f h2 9858) (e - mi_f h2 9858).toNat) := by
    rw [← hV]
    split
    · exact Or.inl ⟨by assumption, rfl⟩
    · exact Or.inr ⟨by omega, rfl⟩
  have wd : ∀ {ws : List Int} {κ : Int}, κ ≠ -1 → ws.length ≤ 6 → ws.all (fun z => decide (97 ≤ z ∧ z ≤ 122)) = true → tx_code (fun i => ws.getD i 0) 0 ws.length = κ → ((e - mi_f h2 9858 = (ws.length : Int) ∧ wd_m h1 (mi_f h2 9858) ws) ↔ V = κ) := fun {ws κ} k1 k2 k3 k4 => by
    rw [wd_iff b8.1 he1 k2 k3 k4, n53]
    constructor
    · rintro ⟨x1, x2⟩
      rcases vd with ⟨y1, y2⟩ | ⟨y1, y2⟩
      · omega
      · rw [y2, x2]
    · intro x
      rcases vd with ⟨y1, y2⟩ | ⟨y1, y2⟩
      · exact absurd (x.symm.trans y2) k1
      · exact ⟨y1, y2.symm.trans x⟩
  have fin : ∀ {s : Int} {h4 : sm_H}, so_c V = s → ab_Sh sx_sk h4 → mi_f h4 9859 = s → ab_Fr [(9859, 9860)] h1 h4 → ca_Q h0 a none h4 := fun {s h4} es r1 r2 r3 => by
    have m8 : mi_f h4 9858 = mi_f h2 9858 := (me_f (c := 9858) r3 g1 rfl rfl).trans n8
    have m7 : mi_f h4 9857 = e := (me_f (c := 9857) r3 g1 rfl rfl).trans g2
    have m0 : mi_f h4 9860 = 0 := (me_f (c := 9860) r3 g1 rfl rfl).trans n60
    refine ⟨rfl, r1, F1.trans (r3.wide (fun c hc => ab_swr_ok (by decide) hc)), 1, V, e, ?_, ?_, fun _ _ _ => ⟨m0, m7⟩⟩
    · rw [m8]
      exact ⟨hp, Or.inr ⟨hpn, Or.inl ⟨hc, rfl, he, vd⟩⟩⟩
    · rw [r2, ← es]
      rfl

  have w1 := wd (ws := ws_1) (κ := 609302190) (by decide) (by decide) (by decide) (by decide)
  have w2 := wd (ws := ws_2) (κ := 177198) (by decide) (by decide) (by decide) (by decide)
  have w3 := wd (ws := ws_3) (κ := 26886565) (by decide) (by decide) (by decide) (by decide)
  have w4 := wd (ws := ws_4) (κ := 11994498) (by decide) (by decide) (by decide) (by decide)
  have w5 := wd (ws := ws_5) (κ := 178476) (by decide) (by decide) (by decide) (by decide)
  have w6 := wd (ws := ws_6) (κ := 609752228) (by decide) (by decide) (by decide) (by decide)
  have w7 := wd (ws := ws_7) (κ := 363554) (by decide) (by decide) (by decide) (by decide)
  refine ⟨_, me_has_1 (d := d + 1) g1 b8.1 (by omega) (by omega) (by omega), fun w h3 ow hq => ?_⟩
  obtain ⟨rfl, z, rfl, oz, hz⟩ := hq
  refine mt_tw1 (zz := z) g1 ⟨by omega, by omega⟩ ?_ ?_
  rotate_left
  · intro c h4 r1 r2 r3
    exact fin (s := 1) (by unfold so_c; rw [if_pos (w1.mp (hz.mp (by omega)))]) r1 r2 r3
  intro c h4 r1 r2
  have x := me_nil r2
  subst x
  have n1 : V ≠ 609302190 := fun y => by have := hz.mpr (w1.mpr y); omega
  rw [n8, g2]
  refine ⟨_, me_has_2 (d := d + 1) g1 b8.1 (by omega) (by omega) (by omega), fun w h5 ow hq => ?_⟩
  clear hz oz c
  obtain ⟨rfl, z, rfl, oz, hz⟩ := hq
  refine mt_tw2 (zz := z) g1 ⟨by omega, by omega⟩ ?_ ?_
  rotate_left
  · intro c h4 r1 r2 r3
    exact fin (s := 2) (by unfold so_c; rw [if_neg n1, if_pos (w2.mp (hz.mp (by omega)))]) r1 r2 r3
  intro c h4 r1 r2
  have x := me_nil r2
  subst x
  have n2 : V ≠ 177198 := fun y => by have := hz.mpr (w2.mpr y); omega
  rw [n8, g2]
  refine ⟨_, me_has_3 (d := d + 1) g1 b8.1 (by omega) (by omega) (by omega), fun w h5 ow hq => ?_⟩
  clear hz oz c
  obtain ⟨rfl, z, rfl, oz, hz⟩ := hq
  refine mt_tw3 (zz := z) g1 ⟨by omega, by omega⟩ ?_ ?_
  rotate_left
  · intro c h4 r1 r2 r3
    exact fin (s := 3) (by unfold so_c; rw [if_neg n1, if_neg n2, if_pos (w3.mp (hz.mp (by omega)))]) r1 r2 r3
  intro c h4 r1 r2
  have x := me_nil r2
  subst x
  have n3 : V ≠ 26886565 := fun y => by have := hz.mpr (w3.mpr y); omega
  rw [n8, g2]
  refine ⟨_, me_has_4 (d := d + 1) g1 b8.1 (by omega) (by omega) (by omega), fun w h5 ow hq => ?_⟩
  clear hz oz c
  obtain ⟨rfl, z, rfl, oz, hz⟩ := hq
  refine mt_tw4 (zz := z) g1 ⟨by omega, by omega⟩ ?_ ?_
  rotate_left
  · intro c h4 r1 r2 r3
    exact fin (s := 4) (by unfold so_c; rw [if_neg n1, if_neg n2, if_neg n3, if_pos (w4.mp (hz.mp (by omega)))]) r1 r2 r3
  intro c h4 r1 r2
  have x := me_nil r2
  subst x
  have n4 : V ≠ 11994498 := fun y => by have := hz.mpr (w4.mpr y); omega
  rw [n8, g2]
  refine ⟨_, me_has_5 (d := d + 1) g1 b8.1 (by omega) (by omega) (by omega), fun w h5 ow hq => ?_⟩
  clear hz oz c
  obtain ⟨rfl, z, rfl, oz, hz⟩ := hq
  refine mt_tw5 (zz := z) g1 ⟨by omega, by omega⟩ ?_ ?_
  rotate_left
  · intro c h4 r1 r2 r3
    exact fin (s := 5) (by unfold so_c; rw [if_neg n1, if_neg n2, if_neg n3, if_neg n4, if_pos (w5.mp (hz.mp (by omega)))]) r1 r2 r3
  intro c h4 r1 r2
  have x := me_nil r2
  subst x
  have n5 : V ≠ 178476 := fun y => by have := hz.mpr (w5.mpr y); omega
  rw [n8, g2]
  refine ⟨_, me_has_6 (d := d + 1) g1 b8.1 (by omega) (by omega) (by omega), fun w h5 ow hq => ?_⟩
  clear hz oz c
  obtain ⟨rfl, z, rfl, oz, hz⟩ := hq
  refine mt_tw6 (zz := z) g1 ⟨by omega, by omega⟩ ?_ ?_
  rotate_left
  · intro c h4 r1 r2 r3
    exact fin (s := 6) (by unfold so_c; rw [if_neg n1, if_neg n2, if_neg n3, if_neg n4, if_neg n5, if_pos (w6.mp (hz.mp (by omega)))]) r1 r2 r3
  intro c h4 r1 r2
  have x := me_nil r2
  subst x
  have n6 : V ≠ 609752228 := fun y => by have := hz.mpr (w6.mpr y); omega
  rw [n8, g2]
  refine ⟨_, me_has_7 (d := d + 1) g1 b8.1 (by omega) (by omega) (by omega), fun w h5 ow hq => ?_⟩
  clear hz oz c
  obtain ⟨rfl, z, rfl, oz, hz⟩ := hq
  refine mt_tw7 (zz := z) g1 ⟨by omega, by omega⟩ ?_ ?_
  · intro c h4 r1 r2 r3
    exact fin (s := 12) (by unfold so_c; rw [if_neg n1, if_neg n2, if_neg n3, if_neg n4, if_neg n5, if_neg n6, if_neg (fun y => by have := hz.mpr (w7.mpr y); omega)]) r1 r2 r3
  · intro c h4 r1 r2 r3
    exact fin (s := 7) (by unfold so_c; rw [if_neg n1, if_neg n2, if_neg n3, if_neg n4, if_neg n5, if_neg n6, if_pos (w7.mp (hz.mp (by omega)))]) r1 r2 r3
theorem me_tkeyword (hP : ca_P h0 h a) (hc : mi_a h0 53 (mi_f h 9858).toNat = 34) : me_E (d + 8) 33 0 [some (.inr (.inr 77)), none, none] [] h (ca_Q h0 a) := by
  obtain ⟨en, ea⟩ := ca_e hP
  obtain ⟨hS0, hS, hF, hx, hp, hpn, h60⟩ := id hP
  have bn := me_fb (c := 6657) hS0 rfl
  have b8 := me_fb (c := 9858) hS rfl
  refine mt_tkA hS (fun b => ⟨⟨by omega, by omega⟩, fun h1 g1 g2 => ?_⟩)
  have e := me_nil g2
  subst e
  refine ⟨_, me_cletters (d := d + 6) hS (by omega) (by omega), fun w h2 ow hq => ?_⟩
  obtain ⟨rfl, q, rfl, hq⟩ := hq
  rw [en, ea] at hq
  have q1 := hq.1
  have q2 := tx_end_n hq (by omega)
  have no : ¬ (mi_f h2 9858 + 1 < q ∧ q - (mi_f h2 9858 + 1) < 6 ∧ q < mi_f h0 6657 ∧ mi_a h0 53 q.toNat = 34) → ∀ v e, tk_T (mi_f h0 6657) (mi_a h0 53) a 6 v (mi_f h2 9858) e := fun hn v e => ⟨hp, Or.inr ⟨hpn, Or.inr (Or.inr (Or.inr (Or.inl ⟨hc, q, hq, Or.inr ⟨hn, rfl⟩⟩)))⟩⟩
  have oq : mi_in q := ⟨by omega, by omega⟩
  refine mt_tkB (zz := q) hS oq ?_ ?_ ?_
  · intro b c
    exact ⟨⟨⟨by omega, by omega⟩, ⟨by omega, by omega⟩⟩, fun h3 r1 r2 r3 => ca_no hP (no (fun x => by omega)) (by decide) r1 r2 r3⟩
  · intro b c c2
    exact ⟨⟨⟨by omega, by omega⟩, ⟨by omega, by omega⟩⟩, fun h3 r1 r2 r3 => ca_no hP (no (fun x => by omega)) (by decide) r1 r2 r3⟩
  · intro b c c2
    refine ⟨⟨⟨by omega, by omega⟩, ⟨by omega, by omega⟩⟩, fun h3 r1 r2 => ?_⟩
    have e := me_nil r2
    subst e
    refine ⟨_, me_cat (d := d + 7) hS oq, fun w h4 ow hq2 => ?_⟩
    obtain ⟨rfl, rfl⟩ := hq2
    have bx := cx_in hS q
    refine mt_tkC (zz := cx_at h4 q) hS oq ⟨by omega, by omega⟩ ⟨by omega, by omega⟩ ?_ ?_
    · intro b2 c3
      have qn : q < mi_f h0 6657 ∧ mi_a h0 53 q.toNat = 34 := by
        unfold cx_at at c3
        rw [en, ea] at c3
        by_cases y : 0 ≤ q ∧ q < mi_f h0 6657
        · rw [if_pos y] at c3
          exact ⟨y.2, c3⟩
        · rw [if_neg y] at c3
          omega
      refine ⟨⟨by omega, by omega⟩, fun h5 r1 r2 r3 => ?_⟩
      have n57 : mi_f h5 6657 = mi_f h0 6657 := (me_f (c := 6657) r3 hS rfl rfl).trans en
      have n53 : mi_a h5 53 = mi_a h0 53 := (funext (fun i => me_a (k := 53) r3 hS rfl rfl)).trans ea
      refine ⟨_, me_ccode (d := d + 6) (zf := mi_f h4 9858 + 1) (zt := q) r1 (by omega) (by omega) (by omega) (by omega) (fun j j1 j2 => by rw [n53]; exact (hq.2.1 j j1 j2).2), fun w h6 ow hq2 => ?_⟩
      obtain ⟨rfl, rfl⟩ := hq2
      have cb := tx_code_b (c := mi_a h0 53) (q - (mi_f h4 9858 + 1)).toNat (mi_f h4 9858 + 1) (fun j j1 j2 => (hq.2.1 j j1 (by omega)).2)
      have p5 : (32 : Int) ^ (q - (mi_f h4 9858 + 1)).toNat ≤ 32 ^ 5 := by
        have : (32 : Nat) ^ (q - (mi_f h4 9858 + 1)).toNat ≤ 32 ^ 5 := Nat.pow_le_pow_right (by decide) (by omega)
        exact_mod_cast this
      have e32 : (32 : Int) ^ 5 = 33554432 := by decide
      rw [n53]
      refine mt_tkD (zz := tx_code (mi_a h0 53) (mi_f h4 9858 + 1) (q - (mi_f h4 9858 + 1)).toNat) r1 oq ⟨by omega, by omega⟩ ⟨by omega, by omega⟩ ⟨⟨⟨by omega, by omega⟩, ⟨by omega, by omega⟩⟩, fun h7 u1 u2 u3 u4 => ?_⟩
      have m8 : mi_f h7 9858 = mi_f h4 9858 := (me_f (c := 9858) u4 r1 rfl rfl).trans (me_f (c := 9858) r3 hS rfl rfl)
      have m9 : mi_f h7 9859 = 8 := (me_f (c := 9859) u4 r1 rfl rfl).trans r2
      refine ⟨rfl, u1, (hF.trans (r3.wide (fun c hc => ab_swr_ok (by decide) hc))).trans (u4.wide (fun c hc => ab_swr_ok (by decide) hc)), 3, tx_code (mi_a h0 53) (mi_f h4 9858 + 1) (q - (mi_f h4 9858 + 1)).toNat, q + 1, ?_, m9, fun _ _ _ => ⟨u3, u2⟩⟩
      rw [m8]
      exact ⟨hp, Or.inr ⟨hpn, Or.inr (Or.inr (Or.inr (Or.inl ⟨hc, q, hq, Or.inl ⟨by omega, by omega, qn.1, qn.2, rfl, rfl, rfl⟩⟩)))⟩⟩
    · intro c3 h5 r1 r2 r3
      refine ca_no hP (no (fun x => c3 ?_)) (by decide) r1 r2 r3
      unfold cx_at
      rw [en, ea, if_pos ⟨by omega, x.2.2.1⟩]
      exact x.2.2.2
theorem me_tsign (hP : ca_P h0 h a) (hc : mi_a h0 53 (mi_f h 9858).toNat = 39) : me_E (d + 8) 35 0 [some (.inr (.inr 77)), none] [] h (ca_Q h0 a) := by
  obtain ⟨en, ea⟩ := ca_e hP
  obtain ⟨hS0, hS, hF, hx, hp, hpn, h60⟩ := id hP
  have bn := me_fb (c := 6657) hS0 rfl
  have b8 := me_fb (c := 9858) hS rfl
  refine mt_tsA hS (fun b => ⟨⟨by omega, by omega⟩, fun h1 g1 g2 => ?_⟩)
  have e := me_nil g2
  subst e
  refine ⟨_, me_cat (d := d + 7) hS ⟨by omega, by omega⟩, fun w h2 ow hq => ?_⟩
  obtain ⟨rfl, rfl⟩ := hq
  have bx := cx_in hS (mi_f h2 9858 + 1)
  have ex : (mi_f h2 9858 + 1 < mi_f h0 6657 ∧ cx_at h2 (mi_f h2 9858 + 1) = mi_a h0 53 (mi_f h2 9858 + 1).toNat) ∨ (¬ mi_f h2 9858 + 1 < mi_f h0 6657 ∧ cx_at h2 (mi_f h2 9858 + 1) = 32) := by
    unfold cx_at
    rw [en, ea]
    by_cases y : mi_f h2 9858 + 1 < mi_f h0 6657
    · rw [if_pos ⟨by omega, y⟩]
      exact Or.inl ⟨y, rfl⟩
    · rw [if_neg (fun z => y z.2)]
      exact Or.inr ⟨y, rfl⟩
  generalize cx_at h2 (mi_f h2 9858 + 1) = s at bx ex ⊢
  have no : ¬ tx_sg s → ∀ v e, tk_T (mi_f h0 6657) (mi_a h0 53) a 6 v (mi_f h2 9858) e := fun hn v e => ⟨hp, Or.inr ⟨hpn, Or.inr (Or.inr (Or.inr (Or.inr (Or.inl ⟨hc, Or.inr ⟨fun x => ?_, rfl⟩⟩))))⟩⟩
  rotate_left
  · rcases ex with ⟨y1, y2⟩ | ⟨y1, y2⟩
    · rw [y2] at hn
      exact hn x.2
    · exact y1 x.1
  have os : mi_in s := ⟨by omega, by omega⟩
  unfold tx_sg tx_low tx_dig tx_cap at no
  refine mt_tsB (zz := s) hS os ?_ ?_ ?_ ?_ ?_
  rotate_left
  · intro c1 c2 c3 h3 r1 r2
    have e := me_nil r2
    subst e
    have y : mi_f h3 9858 + 1 < mi_f h0 6657 ∧ s = mi_a h0 53 (mi_f h3 9858 + 1).toNat := by
      rcases ex with x | x
      · exact x
      · exact absurd x.2 c1
    have yx := hx (mi_f h3 9858 + 1).toNat (by omega)
    rw [← y.2] at yx
    have yes : tx_sg s → ∀ h4, ab_Sh sx_sk h4 → mi_f h4 9857 = mi_f h3 9858 + 2 → mi_f h4 9859 = 8 → mi_f h4 9860 = -s → ab_Fr [(9857, 9858), (9859, 9861)] h3 h4 → ca_Q h0 a none h4 := fun hs h4 u1 u2 u3 u4 u5 => by
      have m8 : mi_f h4 9858 = mi_f h3 9858 := me_f (c := 9858) u5 hS rfl rfl
      refine ⟨rfl, u1, hF.trans (u5.wide (fun c hc => ab_swr_ok (by decide) hc)), 4, s, mi_f h3 9858 + 2, ?_, u3, fun _ _ _ => ⟨u4, u2⟩⟩
      rw [m8]
      exact ⟨hp, Or.inr ⟨hpn, Or.inr (Or.inr (Or.inr (Or.inr (Or.inl ⟨hc, Or.inl ⟨y.1, by rw [← y.2]; exact hs, rfl, y.2, rfl⟩⟩))))⟩⟩
    unfold tx_sg tx_low tx_dig tx_cap at yes
    refine mt_tsC (zc := s) hS os ?_ ?_ ?_ ?_ ?_ ?_ ?_
    · intro b c4 c5
      exact ⟨⟨⟨by omega, by omega⟩, ⟨by omega, by omega⟩, ⟨by omega, by omega⟩⟩, yes (by omega)⟩
    · intro b c4 c5 c6
      exact ⟨⟨⟨by omega, by omega⟩, ⟨by omega, by omega⟩, ⟨by omega, by omega⟩⟩, yes (by omega)⟩
    · intro c4 c5 c6 h4 r1 r2 r3
      exact ca_no hP (no (by omega)) (by decide) r1 r2 r3
    · intro b c4 c5 c6; exfalso; omega
    · intro b c4 c5 c6 c7
      exact ⟨⟨⟨by omega, by omega⟩, ⟨by omega, by omega⟩, ⟨by omega, by omega⟩⟩, yes (by omega)⟩
    · intro c4 c5 c6 c7; exfalso; omega
    · intro c4 c5 h4 r1 r2 r3
      exact ca_no hP (no (by omega)) (by decide) r1 r2 r3
  · intro c1 c2 c3 c3b h3 r1 r2
    have e := me_nil r2
    subst e
    have y : mi_f h3 9858 + 1 < mi_f h0 6657 ∧ s = mi_a h0 53 (mi_f h3 9858 + 1).toNat := by
      rcases ex with x | x
      · exact x
      · exact absurd x.2 c1
    have yx := hx (mi_f h3 9858 + 1).toNat (by omega)
    rw [← y.2] at yx
    have yes : tx_sg s → ∀ h4, ab_Sh sx_sk h4 → mi_f h4 9857 = mi_f h3 9858 + 2 → mi_f h4 9859 = 8 → mi_f h4 9860 = -s → ab_Fr [(9857, 9858), (9859, 9861)] h3 h4 → ca_Q h0 a none h4 := fun hs h4 u1 u2 u3 u4 u5 => by
      have m8 : mi_f h4 9858 = mi_f h3 9858 := me_f (c := 9858) u5 hS rfl rfl
      refine ⟨rfl, u1, hF.trans (u5.wide (fun c hc => ab_swr_ok (by decide) hc)), 4, s, mi_f h3 9858 + 2, ?_, u3, fun _ _ _ => ⟨u4, u2⟩⟩
      rw [m8]
      exact ⟨hp, Or.inr ⟨hpn, Or.inr (Or.inr (Or.inr (Or.inr (Or.inl ⟨hc, Or.inl ⟨y.1, by rw [← y.2]; exact hs, rfl, y.2, rfl⟩⟩))))⟩⟩
    unfold tx_sg tx_low tx_dig tx_cap at yes
    refine mt_tsC (zc := s) hS os ?_ ?_ ?_ ?_ ?_ ?_ ?_
    · intro b c4 c5; exfalso; omega
    · intro b c4 c5 c6; exfalso; omega
    · intro c4; exfalso; omega
    · intro b c4 c5 c6; exfalso; omega
    · intro b c4 c5 c6 c7
      exact ⟨⟨⟨by omega, by omega⟩, ⟨by omega, by omega⟩, ⟨by omega, by omega⟩⟩, yes (by omega)⟩
    · intro c4 c5 c6 c7; exfalso; omega
    · intro c4 c5; exfalso; omega
  · intro c1 c2 c3 c4 h3 r1 r2 r3
    exact ca_no hP (no (by omega)) (by decide) r1 r2 r3
  · intro c1 c2 h3 r1 r2 r3
    exact ca_no hP (no (by omega)) (by decide) r1 r2 r3
  · intro c1 h3 r1 r2 r3
    exact ca_no hP (no (by omega)) (by decide) r1 r2 r3
theorem me_tcharacter {zc : Int} (hP : ca_P h0 h a) (hc : zc = mi_a h0 53 (mi_f h 9858).toNat) (n1 : ¬ tx_low zc) (n4 : zc ≠ 34) (n5 : zc ≠ 39) : me_E (d + 9) 39 0 [some (.inr (.inr 77)), some (.inl zc)] [] h (ca_Q h0 a) := by
  obtain ⟨en, ea⟩ := ca_e hP
  obtain ⟨hS0, hS, hF, hx, hp, hpn, h60⟩ := id hP
  have bn := me_fb (c := 6657) hS0 rfl
  have b8 := me_fb (c := 9858) hS rfl
  have yx := hx (mi_f h 9858).toNat (by omega)
  rw [← hc] at yx
  have oc : mi_in zc := ⟨by omega, by omega⟩
  have fin : ∀ {t v : Int} {h1 : sm_H}, tk_T (mi_f h0 6657) (mi_a h0 53) a t v (mi_f h 9858) (mi_f h 9858 + 1) → ab_Sh sx_sk h1 → mi_f h1 9857 = mi_f h 9858 + 1 → mi_f h1 9859 = cs_t t v → mi_f h1 9860 = cc_t t v → ab_Fr [(9857, 9858), (9859, 9861)] h h1 → ca_Q h0 a none h1 := fun {t v h1} ht u1 u2 u3 u4 u5 => by
    have m8 : mi_f h1 9858 = mi_f h 9858 := me_f (c := 9858) u5 hS rfl rfl
    refine ⟨rfl, u1, hF.trans (u5.wide (fun c hc => ab_swr_ok (by decide) hc)), t, v, mi_f h 9858 + 1, ?_, u3, fun _ _ _ => ⟨u4, u2⟩⟩
    rw [m8]
    exact ht
  have own : tx_own zc → tk_T (mi_f h0 6657) (mi_a h0 53) a zc 0 (mi_f h 9858) (mi_f h 9858 + 1) := fun ho => ⟨hp, Or.inr ⟨hpn, Or.inr (Or.inr (Or.inr (Or.inr (Or.inr (Or.inl ⟨by rw [← hc]; exact ho, hc, rfl, rfl⟩)))))⟩⟩
  have call : ¬ tx_cap zc → ¬ tx_dig zc → zc ≠ 40 → (∀ h1, ab_Sh sx_sk h1 → mi_f h1 9857 = mi_f h 9858 + 1 → ab_Fr [(9857, 9858)] h h1 → ∃ Q1, me_E (d + 8) 40 0 (mi_entry 2 [.inr (.inr 8), .inl zc]) [] h1 Q1 ∧ ∀ w h2, (∀ x, w = some x → mi_ok x) → Q1 w h2 → me_E (d + 9) 39 76 [some (.inr (.inr 77)), some (.inl zc)] (mi_back w []) h2 (ca_Q h0 a)) := fun n2 n3 n40 h1 u1 u2 u3 => by
    have m60 : mi_f h1 9860 = 0 := (me_f (c := 9860) u3 hS rfl rfl).trans h60
    refine ⟨_, me_idx (d := d) u1 (by omega) (by omega), fun w h2 ow hq => ?_⟩
    obtain ⟨rfl, z, rfl, oz, hz⟩ := hq
    refine mt_tcB (zz := z) u1 oc oz ?_ ?_
    · intro c h3 r1 r2 r3
      refine ca_no hP (fun v e => ⟨hp, Or.inr ⟨hpn, Or.inr (Or.inr (Or.inr (Or.inr (Or.inr (Or.inr ⟨?_, ?_, ?_, ?_, ?_, ?_, rfl⟩)))))⟩⟩) (wr := [(9857, 9858), (9859, 9860)]) (by decide) r1 r2 ((u3.wide (fun c hc => ab_swr_ok (by decide) hc)).trans (r3.wide (fun c hc => ab_swr_ok (by decide) hc)))
      · rw [← hc]; exact n1
      · rw [← hc]; exact n2
      · rw [← hc]; exact n3
      · rw [← hc]; exact n4
      · rw [← hc]; exact n5
      · rw [← hc]
        intro ho
        have := hz.mpr ⟨ho, n40⟩
        omega
    · intro c h3 r1 r2 r3
      have ho := (hz.mp c).1
      have m7 : mi_f h3 9857 = mi_f h 9858 + 1 := (me_f (c := 9857) r3 u1 rfl rfl).trans u2
      have m0 : mi_f h3 9860 = 0 := (me_f (c := 9860) r3 u1 rfl rfl).trans m60
      refine fin (own ho) r1 m7 ?_ ?_ ((u3.wide (fun c hc => ab_swr_ok (by decide) hc)).trans (r3.wide (fun c hc => ab_swr_ok (by decide) hc)))
      · rw [r2]
        unfold cs_t
        unfold tx_own at ho
        rw [if_neg (by omega), if_neg (by omega), if_neg (by omega), if_neg (by omega), if_neg (by omega), if_neg (by omega), if_neg n40]
      · rw [m0]
        unfold cc_t
        unfold tx_own at ho
        rw [if_neg (by omega), if_neg (by omega), if_neg (by omega), if_neg (by omega)]
  refine mt_tcA hS oc ?_ ?_ ?_ ?_ ?_ ?_ ?_ ?_ ?_ ?_ ?_
  · intro b c1 c2 c3
    exact ⟨⟨⟨by omega, by omega⟩, ⟨by omega, by omega⟩⟩, call (fun x => by have := x.1; omega) (fun x => by have := x.1; omega) c3⟩
  · intro b c1 c2 c3
    refine ⟨⟨⟨by omega, by omega⟩, ⟨by omega, by omega⟩⟩, fun h1 u1 u2 u3 u4 => fin (own (by unfold tx_own; omega)) u1 u2 ?_ ?_ (u4.wide (fun c hc => ab_swr_ok (by decide) hc))⟩
    · rw [u3, c3]; rfl
    · rw [me_f (c := 9860) u4 hS rfl rfl, h60, c3]; rfl
  · intro b c1 c2 c3 c4
    exact ⟨⟨⟨by omega, by omega⟩, ⟨by omega, by omega⟩⟩, call (fun x => by have := x.1; omega) (fun x => by have := x.2; omega) c4⟩
  · intro b c1 c2 c3 c4; exfalso; omega
  · intro b c1 c2 c3
    refine ⟨⟨⟨by omega, by omega⟩, ⟨by omega, by omega⟩, ⟨by omega, by omega⟩⟩, fun h1 u1 u2 u3 u4 u5 => fin (t := 5) (v := zc - 48) ⟨hp, Or.inr ⟨hpn, Or.inr (Or.inr (Or.inl ⟨by rw [← hc]; exact ⟨c2, c3⟩, rfl, by rw [hc], rfl⟩))⟩⟩ u1 u2 u3 u4 u5⟩
  · intro b c1 c2 c3; exfalso; omega
  · intro b c1 c2 c3; exfalso; omega
  · intro b c1 c2 c3 c4 c5
    exact ⟨⟨⟨by omega, by omega⟩, ⟨by omega, by omega⟩⟩, call (fun x => by have := x.2; omega) (fun x => by have := x.2; omega) c5⟩
  · intro b c1 c2 c3 c4 c5; exfalso; omega
  · intro b c1 c2 c3 c4; exfalso; omega
  · intro b c1 c2
    refine ⟨⟨⟨by omega, by omega⟩, ⟨by omega, by omega⟩⟩, fun h1 u1 u2 u3 u4 u5 => fin (t := 2) (v := zc - 65) ⟨hp, Or.inr ⟨hpn, Or.inr (Or.inl ⟨by rw [← hc]; exact ⟨c1, c2⟩, rfl, by rw [hc], rfl⟩)⟩⟩ u1 u2 u3 ?_ u5⟩
    rw [u4]
    show zc = zc - 65 + 65
    omega
/-- advance tells the token at the place where it stands -/
theorem me_advance (hS : ab_Sh sx_sk h0) (hx : cx_ok h0) (ha : mi_f h0 9857 ≤ mi_f h0 6657) : me_E (d + 10) 18 0 [some (.inr (.inr 77)), none] [] h0 (ca_Q h0 (mi_f h0 9857)) := by
  have bn := me_fb (c := 6657) hS rfl
  have b7 := me_fb (c := 9857) hS rfl
  refine mt_avA hS (fun h1 g1 g2 => ?_)
  have e := me_nil g2
  subst e
  refine ⟨_, me_cblanks (d := d + 8) hS b7.1 (by omega), fun w h2 ow hq => ?_⟩
  obtain ⟨rfl, p, rfl, hp⟩ := hq
  have p1 := hp.1
  have p2 := tx_end_n hp ha
  have op : mi_in p := ⟨by omega, by omega⟩
  refine mt_avB (zz := p) hS op ⟨⟨by omega, by omega⟩, fun h1 g1 g2 g3 g4 g5 => ?_⟩
  have n57 : mi_f h1 6657 = mi_f h2 6657 := me_f (c := 6657) g5 hS rfl rfl
  have n53 : mi_a h1 53 = mi_a h2 53 := funext (fun i => me_a (k := 53) g5 hS rfl rfl)
  have F1 : ab_Fr ca_W h2 h1 := g5.wide (fun c hc => ab_swr_ok (by decide) hc)
  refine ⟨_, me_cat (d := d + 9) g1 op, fun w h3 ow hq => ?_⟩
  obtain ⟨rfl, rfl⟩ := hq
  have bx := cx_in g1 p
  have oz : mi_in (cx_at h3 p) := ⟨by omega, by omega⟩
  have hP : p < mi_f h2 6657 → ca_P h2 h3 (mi_f h2 9857) ∧ cx_at h3 p = mi_a h2 53 (mi_f h3 9858).toNat := fun hpn => by
    refine ⟨⟨hS, g1, F1, hx, by rw [g3]; exact hp, by rw [g3]; exact hpn, g4⟩, ?_⟩
    unfold cx_at
    rw [n57, n53, g3, if_pos ⟨by omega, hpn⟩]
  have ret : ∀ {pc : Nat} {w : Option mi_V} {h4 : sm_H}, (∀ {Q : Option mi_V → sm_H → Prop}, ab_Sh sx_sk h4 → (∀ h1, ab_Sh sx_sk h1 → ab_Fr [] h4 h1 → Q none h1) → me_E (d + 10) 18 pc [some (.inr (.inr 77)), some (.inl (cx_at h3 p))] [] h4 Q) → ca_Q h2 (mi_f h2 9857) w h4 → me_E (d + 10) 18 pc [some (.inr (.inr 77)), some (.inl (cx_at h3 p))] (mi_back w []) h4 (ca_Q h2 (mi_f h2 9857)) := fun {pc w h4} k hq => by
    obtain ⟨rfl, q1, q2, q3⟩ := hq
    refine k q1 (fun h5 r1 r2 => ?_)
    have e := me_nil r2
    subst e
    exact ⟨rfl, q1, q2, q3⟩
  refine mt_avC g1 oz ?_ ?_ ?_ ?_ ?_ ?_ ?_ ?_
  · intro b b2 c1 c2 c3 c4 h4 r1 r2
    have e := me_nil r2
    subst e
    obtain ⟨P, ec⟩ := hP (by omega)
    exact ⟨_, me_tcharacter (d := d) P ec (fun x => by have := x.1; omega) c3 c4, fun w h5 ow hq => ret (fun u1 u2 => mt_av107 u1 oz u2) hq⟩
  · intro b b2 c1 c2 c3 c4 h4 r1 r2
    have e := me_nil r2
    subst e
    obtain ⟨P, ec⟩ := hP (by omega)
    exact ⟨_, me_tsign (d := d + 1) P (by rw [← ec]; exact c4), fun w h5 ow hq => ret (fun u1 u2 => mt_av99 u1 oz u2) hq⟩
  · intro b b2 c1 c2 c3 h4 r1 r2
    have e := me_nil r2
    subst e
    obtain ⟨P, ec⟩ := hP (by omega)
    exact ⟨_, me_tkeyword (d := d + 1) P (by rw [← ec]; exact c3), fun w h5 ow hq => ret (fun u1 u2 => mt_av86 u1 oz u2) hq⟩
  · intro b b2 c1 c2 c3 c4 c5 h4 r1 r2
    have e := me_nil r2
    subst e
    obtain ⟨P, ec⟩ := hP (by omega)
    exact ⟨_, me_tcharacter (d := d) P ec (fun x => by have := x.2; omega) c4 c5, fun w h5 ow hq => ret (fun u1 u2 => mt_av107 u1 oz u2) hq⟩
  · intro b b2 c1 c2 c3 c4 c5; exfalso; omega
  · intro b b2 c1 c2 c3 c4; exfalso; omega
  · intro b b2 c1 c2 c3 h4 r1 r2
    have e := me_nil r2
    subst e
    obtain ⟨P, ec⟩ := hP (by omega)
    exact ⟨_, me_tword (d := d + 1) P (by rw [← ec]; exact ⟨c2, c3⟩), fun w h5 ow hq => ret (fun u1 u2 => mt_av73 u1 oz u2) hq⟩
  · intro b b2 c1 h4 r1 r2 r3
    have m8 : mi_f h4 9858 = p := (me_f (c := 9858) r3 g1 rfl rfl).trans g3
    refine ⟨rfl, r1, F1.trans (r3.wide (fun c hc => ab_swr_ok (by decide) hc)), 0, 0, 0, ?_, r2, fun c => absurd rfl c⟩
    rw [m8]
    exact ⟨hp, Or.inl ⟨by omega, rfl⟩⟩
end CTK
/-! segments of the class: Grammar -/
set_option maxRecDepth 20000 in
theorem mp_gdA_0 (h : sm_H) (d : Nat) : mj_path [(15, (2, 0, sb_15))] sx_sk h 17 [] (d + 1, 15, 0, [some (.inr (.inr 60)), none], [], [], []) = some ((d + 1, 15, 27, [some (.inr (.inr 60)), some (.inl ((0 : Int)))], [], [.inl (7698, (0 : Int)), .inl (7690, (0 : Int)), .inl (7686, (0 : Int)), .inl (7685, (0 : Int)), .inl (7680, (0 : Int))], []), []) := rfl
theorem mi_tab_gdA_0 : ∀ e ∈ ([(15, (2, 0, sb_15))] : mi_T), sc_P e.1 = some e.2 := mi_tb mi_P15 (mi_tb_e)
set_option maxRecDepth 20000 in
theorem ms_gdA_0 {h : sm_H} {d : Nat} {Q : Option mi_V → sm_H → Prop} (hS : ab_Sh sx_sk h)  (kon : ∀ h1, me_W [.inl (7698, (0 : Int)), .inl (7690, (0 : Int)), .inl (7686, (0 : Int)), .inl (7685, (0 : Int)), .inl (7680, (0 : Int))] h h1 → me_E (d + 1) 15 27 [some (.inr (.inr 60)), some (.inl ((0 : Int)))] [] h1 Q) : me_E (d + 1) 15 0 [some (.inr (.inr 60)), none] [] h Q := mf_seg (mp_gdA_0 h d ) (mi_tab_gdA_0) hS (mi_okL_c (trivial) (mi_okL_n (mi_okL_e))) (mi_okS_e) (mi_al_e) (fun h1 W _ hst => kon h1 W)
set_option maxRecDepth 20000 in
theorem mt_gdA {h : sm_H} {d : Nat} {Q : Option mi_V → sm_H → Prop} (hS : ab_Sh sx_sk h)  (k0 : (∀ h1, ab_Sh sx_sk h1 → mi_f h1 7680 = (0 : Int) → mi_f h1 7685 = (0 : Int) → mi_f h1 7686 = (0 : Int) → mi_f h1 7690 = (0 : Int) → mi_f h1 7698 = (0 : Int) → ab_Fr [(7680, 7681), (7685, 7687), (7690, 7691), (7698, 7699)] h h1 → me_E (d + 1) 15 27 [some (.inr (.inr 60)), some (.inl ((0 : Int)))] [] h1 Q)) : me_E (d + 1) 15 0 [some (.inr (.inr 60)), none] [] h Q := ms_gdA_0 hS (fun h1 W => (k0) h1 W.1 (W.2.1 7680) (W.2.1 7685) (W.2.1 7686) (W.2.1 7690) (W.2.1 7698) (W.2.2.2.2.2 _ rfl))
set_option maxRecDepth 20000 in
theorem mp_gdB_0 (h : sm_H) (d : Nat) (zf : Int) : mj_path [(15, (2, 0, sb_15)), (16, (3, 0, sb_16))] sx_sk h 3 [1] (d + 1, 15, 27, [some (.inr (.inr 60)), some (.inl (zf))], [], [], []) = some ((d + 1, 15, 57, [some (.inr (.inr 60)), some (.inl (zf))], [], [], []), [((70 : Int)) ≤ zf]) := rfl
theorem mi_tab_gdB_0 : ∀ e ∈ ([(15, (2, 0, sb_15)), (16, (3, 0, sb_16))] : mi_T), sc_P e.1 = some e.2 := mi_tb mi_P15 (mi_tb mi_P16 (mi_tb_e))
set_option maxRecDepth 20000 in
theorem ms_gdB_0 {h : sm_H} {d : Nat} {Q : Option mi_V → sm_H → Prop} {zf : Int} (hS : ab_Sh sx_sk h) (ok_zf : mi_in zf) (ho : (((70 : Int)) ≤ zf)) (kon : ∀ h1, me_W [] h h1 → Q none h1) : me_E (d + 1) 15 27 [some (.inr (.inr 60)), some (.inl (zf))] [] h Q := mf_seg (mp_gdB_0 h d zf) (mi_tab_gdB_0) hS (mi_okL_c (trivial) (mi_okL_c (ok_zf) (mi_okL_e))) (mi_okS_e) (mi_al (ho) (mi_al_e)) (fun h1 W _ hst => mf_ret (M := (2, 0, sb_15)) rfl rfl rfl hst (mi_al_e) (kon h1 W))
set_option maxRecDepth 20000 in
theorem mp_gdB_1 (h : sm_H) (d : Nat) (zf : Int) : mj_path [(15, (2, 0, sb_15)), (16, (3, 0, sb_16))] sx_sk h 21 [0, 1, 1] (d + 1, 15, 27, [some (.inr (.inr 60)), some (.inl (zf))], [], [], []) = some ((d + 1, 15, 27, [some (.inr (.inr 60)), some (.inl (zf + 1))], [], [], []), [zf < ((70 : Int)), zf < ((0 : Int)), zf < ((0 : Int)), -2147483648 ≤ zf + 1 ∧ zf + 1 ≤ 2147483647]) := rfl
theorem mi_tab_gdB_1 : ∀ e ∈ ([(15, (2, 0, sb_15)), (16, (3, 0, sb_16))] : mi_T), sc_P e.1 = some e.2 := mi_tb mi_P15 (mi_tb mi_P16 (mi_tb_e))
set_option maxRecDepth 20000 in
theorem ms_gdB_1 {h : sm_H} {d : Nat} {Q : Option mi_V → sm_H → Prop} {zf : Int} (hS : ab_Sh sx_sk h) (ok_zf : mi_in zf) (ho : (zf < ((70 : Int))) ∧ (zf < ((0 : Int))) ∧ (zf < ((0 : Int))) ∧ (-2147483648 ≤ zf + 1 ∧ zf + 1 ≤ 2147483647)) (kon : ∀ h1, me_W [] h h1 → me_E (d + 1) 15 27 [some (.inr (.inr 60)), some (.inl (zf + 1))] [] h1 Q) : me_E (d + 1) 15 27 [some (.inr (.inr 60)), some (.inl (zf))] [] h Q := mf_seg (mp_gdB_1 h d zf) (mi_tab_gdB_1) hS (mi_okL_c (trivial) (mi_okL_c (ok_zf) (mi_okL_e))) (mi_okS_e) (mi_al (ho.1) (mi_al (ho.2.1) (mi_al (ho.2.2.1) (mi_al (ho.2.2.2) (mi_al_e))))) (fun h1 W _ hst => kon h1 W)
set_option maxRecDepth 20000 in
theorem mp_gdB_2 (h : sm_H) (d : Nat) (zf : Int) : mj_path [(15, (2, 0, sb_15)), (16, (3, 0, sb_16))] sx_sk h 37 [0, 0, 0, 0, 0] (d + 1, 15, 27, [some (.inr (.inr 60)), some (.inl (zf))], [], [], []) = some ((d + 1, 15, 27, [some (.inr (.inr 60)), some (.inl (zf + 1))], [], [.inr (.inr (.inl (64, Int.toNat zf, (0 : Int)))), .inr (.inr (.inl (63, Int.toNat zf, (-1 : Int))))], []), [zf < ((70 : Int)), ((0 : Int)) ≤ zf, zf < ((70 : Int)), 0 ≤ zf ∧ zf < 70, ((0 : Int)) ≤ zf, zf < ((70 : Int)), 0 ≤ zf ∧ zf < 70, -2147483648 ≤ zf + 1 ∧ zf + 1 ≤ 2147483647]) := rfl
theorem mi_tab_gdB_2 : ∀ e ∈ ([(15, (2, 0, sb_15)), (16, (3, 0, sb_16))] : mi_T), sc_P e.1 = some e.2 := mi_tb mi_P15 (mi_tb mi_P16 (mi_tb_e))
set_option maxRecDepth 20000 in
theorem ms_gdB_2 {h : sm_H} {d : Nat} {Q : Option mi_V → sm_H → Prop} {zf : Int} (hS : ab_Sh sx_sk h) (ok_zf : mi_in zf) (ho : (zf < ((70 : Int))) ∧ (((0 : Int)) ≤ zf) ∧ (zf < ((70 : Int))) ∧ (0 ≤ zf ∧ zf < 70) ∧ (((0 : Int)) ≤ zf) ∧ (zf < ((70 : Int))) ∧ (0 ≤ zf ∧ zf < 70) ∧ (-2147483648 ≤ zf + 1 ∧ zf + 1 ≤ 2147483647)) (kon : ∀ h1, me_W [.inr (.inr (.inl (64, Int.toNat zf, (0 : Int)))), .inr (.inr (.inl (63, Int.toNat zf, (-1 : Int))))] h h1 → me_E (d + 1) 15 27 [some (.inr (.inr 60)), some (.inl (zf + 1))] [] h1 Q) : me_E (d + 1) 15 27 [some (.inr (.inr 60)), some (.inl (zf))] [] h Q := mf_seg (mp_gdB_2 h d zf) (mi_tab_gdB_2) hS (mi_okL_c (trivial) (mi_okL_c (ok_zf) (mi_okL_e))) (mi_okS_e) (mi_al (ho.1) (mi_al (ho.2.1) (mi_al (ho.2.2.1) (mi_al (ho.2.2.2.1) (mi_al (ho.2.2.2.2.1) (mi_al (ho.2.2.2.2.2.1) (mi_al (ho.2.2.2.2.2.2.1) (mi_al (ho.2.2.2.2.2.2.2) (mi_al_e))))))))) (fun h1 W _ hst => kon h1 W)
set_option maxRecDepth 20000 in
theorem mt_gdB {h : sm_H} {d : Nat} {Q : Option mi_V → sm_H → Prop} {zf : Int} (hS : ab_Sh sx_sk h) (ok_zf : mi_in zf) (k0 : (((70 : Int)) ≤ zf) → (∀ h1, ab_Sh sx_sk h1 → ab_Fr [] h h1 → Q none h1)) (k1 : (zf < ((70 : Int))) → (zf < ((0 : Int))) → ((-2147483648 ≤ zf + 1 ∧ zf + 1 ≤ 2147483647)) ∧ (∀ h1, ab_Sh sx_sk h1 → ab_Fr [] h h1 → me_E (d + 1) 15 27 [some (.inr (.inr 60)), some (.inl (zf + 1))] [] h1 Q)) (k2 : (zf < ((70 : Int))) → (((0 : Int)) ≤ zf) → ((0 ≤ zf ∧ zf < 70) ∧ (-2147483648 ≤ zf + 1 ∧ zf + 1 ≤ 2147483647)) ∧ (∀ h1, ab_Sh sx_sk h1 → (∀ i, mi_a h1 63 i = if i = Int.toNat zf then (-1 : Int) else (mi_a h 63 i)) → (∀ i, mi_a h1 64 i = if i = Int.toNat zf then (0 : Int) else (mi_a h 64 i)) → ab_Fr [(8064, 8065), (8192, 8193)] h h1 → me_E (d + 1) 15 27 [some (.inr (.inr 60)), some (.inl (zf + 1))] [] h1 Q)) : me_E (d + 1) 15 27 [some (.inr (.inr 60)), some (.inl (zf))] [] h Q := Or.elim (mi_em .ge (zf) (((70 : Int)))) (fun c0 => ms_gdB_0 hS ok_zf (c0) (fun h1 W => (k0 c0) h1 W.1 (W.2.2.2.2.2 _ rfl))) (fun c0 => Or.elim (mi_em .lt (zf) (((0 : Int)))) (fun c1 => ms_gdB_1 hS ok_zf ⟨c0, c1, c1, (k1 c0 c1).1⟩ (fun h1 W => (k1 c0 c1).2 h1 W.1 (W.2.2.2.2.2 _ rfl))) (fun c1 => ms_gdB_2 hS ok_zf ⟨c0, c1, c0, (k2 c0 c1).1.1, c1, c0, (k2 c0 c1).1.1, (k2 c0 c1).1.2⟩ (fun h1 W => (k2 c0 c1).2 h1 W.1 (fun i => W.2.2.1 63 i) (fun i => W.2.2.1 64 i) (W.2.2.2.2.2 _ rfl))))
set_option maxRecDepth 20000 in
theorem mp_gnA_0 (h : sm_H) (d : Nat) (zl : Int) : mj_path [(48, (3, 1, sb_48))] sx_sk h 2 [] (d + 1, 48, 0, [some (.inr (.inr 60)), some (.inl (zl)), none], [], [], []) = some ((d + 1, 48, 2, [some (.inr (.inr 60)), some (.inl (zl)), some (.inl ((0 : Int)))], [], [], []), []) := rfl
theorem mi_tab_gnA_0 : ∀ e ∈ ([(48, (3, 1, sb_48))] : mi_T), sc_P e.1 = some e.2 := mi_tb mi_P48 (mi_tb_e)
set_option maxRecDepth 20000 in
theorem ms_gnA_0 {h : sm_H} {d : Nat} {Q : Option mi_V → sm_H → Prop} {zl : Int} (hS : ab_Sh sx_sk h) (ok_zl : mi_in zl) (kon : ∀ h1, me_W [] h h1 → me_E (d + 1) 48 2 [some (.inr (.inr 60)), some (.inl (zl)), some (.inl ((0 : Int)))] [] h1 Q) : me_E (d + 1) 48 0 [some (.inr (.inr 60)), some (.inl (zl)), none] [] h Q := mf_seg (mp_gnA_0 h d zl) (mi_tab_gnA_0) hS (mi_okL_c (trivial) (mi_okL_c (ok_zl) (mi_okL_n (mi_okL_e)))) (mi_okS_e) (mi_al_e) (fun h1 W _ hst => kon h1 W)
set_option maxRecDepth 20000 in
theorem mt_gnA {h : sm_H} {d : Nat} {Q : Option mi_V → sm_H → Prop} {zl : Int} (hS : ab_Sh sx_sk h) (ok_zl : mi_in zl) (k0 : (∀ h1, ab_Sh sx_sk h1 → ab_Fr [] h h1 → me_E (d + 1) 48 2 [some (.inr (.inr 60)), some (.inl (zl)), some (.inl ((0 : Int)))] [] h1 Q)) : me_E (d + 1) 48 0 [some (.inr (.inr 60)), some (.inl (zl)), none] [] h Q := ms_gnA_0 hS ok_zl (fun h1 W => (k0) h1 W.1 (W.2.2.2.2.2 _ rfl))
set_option maxRecDepth 20000 in
theorem mp_gnB_0 (h : sm_H) (d : Nat) (zl zr : Int) : mj_path [(48, (3, 1, sb_48)), (49, (2, 1, sb_49))] sx_sk h 5 [1] (d + 1, 48, 2, [some (.inr (.inr 60)), some (.inl (zl)), some (.inl (zr))], [], [], []) = some ((d + 1, 48, 31, [some (.inr (.inr 60)), some (.inl (zl)), some (.inl (zr))], [.inl ((-1 : Int))], [], []), [(mi_f h 7680) ≤ zr]) := rfl
theorem mi_tab_gnB_0 : ∀ e ∈ ([(48, (3, 1, sb_48)), (49, (2, 1, sb_49))] : mi_T), sc_P e.1 = some e.2 := mi_tb mi_P48 (mi_tb mi_P49 (mi_tb_e))
set_option maxRecDepth 20000 in
theorem ms_gnB_0 {h : sm_H} {d : Nat} {Q : Option mi_V → sm_H → Prop} {zl zr : Int} (hS : ab_Sh sx_sk h) (ok_zl : mi_in zl) (ok_zr : mi_in zr) (ho : ((mi_f h 7680) ≤ zr)) (kon : ∀ h1, me_W [] h h1 → Q (some (.inl ((-1 : Int)))) h1) : me_E (d + 1) 48 2 [some (.inr (.inr 60)), some (.inl (zl)), some (.inl (zr))] [] h Q := mf_seg (mp_gnB_0 h d zl zr) (mi_tab_gnB_0) hS (mi_okL_c (trivial) (mi_okL_c (ok_zl) (mi_okL_c (ok_zr) (mi_okL_e)))) (mi_okS_e) (mi_al (ho) (mi_al_e)) (fun h1 W _ hst => mf_ret (M := (3, 1, sb_48)) rfl rfl rfl hst (mi_al_e) (kon h1 W))
set_option maxRecDepth 20000 in
theorem mp_gnB_1 (h : sm_H) (d : Nat) (zl zr : Int) : mj_path [(48, (3, 1, sb_48)), (49, (2, 1, sb_49))] sx_sk h 16 [0, 1, 1] (d + 1, 48, 2, [some (.inr (.inr 60)), some (.inl (zl)), some (.inl (zr))], [], [], []) = some ((d + 1, 48, 2, [some (.inr (.inr 60)), some (.inl (zl)), some (.inl (zr + 1))], [], [], []), [zr < (mi_f h 7680), zr < ((0 : Int)), ((0 : Int)) ≠ zl, -2147483648 ≤ zr + 1 ∧ zr + 1 ≤ 2147483647]) := rfl
theorem mi_tab_gnB_1 : ∀ e ∈ ([(48, (3, 1, sb_48)), (49, (2, 1, sb_49))] : mi_T), sc_P e.1 = some e.2 := mi_tb mi_P48 (mi_tb mi_P49 (mi_tb_e))
set_option maxRecDepth 20000 in
theorem ms_gnB_1 {h : sm_H} {d : Nat} {Q : Option mi_V → sm_H → Prop} {zl zr : Int} (hS : ab_Sh sx_sk h) (ok_zl : mi_in zl) (ok_zr : mi_in zr) (ho : (zr < (mi_f h 7680)) ∧ (zr < ((0 : Int))) ∧ (((0 : Int)) ≠ zl) ∧ (-2147483648 ≤ zr + 1 ∧ zr + 1 ≤ 2147483647)) (kon : ∀ h1, me_W [] h h1 → me_E (d + 1) 48 2 [some (.inr (.inr 60)), some (.inl (zl)), some (.inl (zr + 1))] [] h1 Q) : me_E (d + 1) 48 2 [some (.inr (.inr 60)), some (.inl (zl)), some (.inl (zr))] [] h Q := mf_seg (mp_gnB_1 h d zl zr) (mi_tab_gnB_1) hS (mi_okL_c (trivial) (mi_okL_c (ok_zl) (mi_okL_c (ok_zr) (mi_okL_e)))) (mi_okS_e) (mi_al (ho.1) (mi_al (ho.2.1) (mi_al (ho.2.2.1) (mi_al (ho.2.2.2) (mi_al_e))))) (fun h1 W _ hst => kon h1 W)
set_option maxRecDepth 20000 in
theorem mp_gnB_2 (h : sm_H) (d : Nat) (zl zr : Int) : mj_path [(48, (3, 1, sb_48)), (49, (2, 1, sb_49))] sx_sk h 15 [0, 1, 0] (d + 1, 48, 2, [some (.inr (.inr 60)), some (.inl (zl)), some (.inl (zr))], [], [], []) = some ((d + 1, 48, 23, [some (.inr (.inr 60)), some (.inl (zl)), some (.inl (zr))], [.inl (zr)], [], []), [zr < (mi_f h 7680), zr < ((0 : Int)), ((0 : Int)) = zl]) := rfl
theorem mi_tab_gnB_2 : ∀ e ∈ ([(48, (3, 1, sb_48)), (49, (2, 1, sb_49))] : mi_T), sc_P e.1 = some e.2 := mi_tb mi_P48 (mi_tb mi_P49 (mi_tb_e))
set_option maxRecDepth 20000 in
theorem ms_gnB_2 {h : sm_H} {d : Nat} {Q : Option mi_V → sm_H → Prop} {zl zr : Int} (hS : ab_Sh sx_sk h) (ok_zl : mi_in zl) (ok_zr : mi_in zr) (ho : (zr < (mi_f h 7680)) ∧ (zr < ((0 : Int))) ∧ (((0 : Int)) = zl)) (kon : ∀ h1, me_W [] h h1 → Q (some (.inl (zr))) h1) : me_E (d + 1) 48 2 [some (.inr (.inr 60)), some (.inl (zl)), some (.inl (zr))] [] h Q := mf_seg (mp_gnB_2 h d zl zr) (mi_tab_gnB_2) hS (mi_okL_c (trivial) (mi_okL_c (ok_zl) (mi_okL_c (ok_zr) (mi_okL_e)))) (mi_okS_e) (mi_al (ho.1) (mi_al (ho.2.1) (mi_al (ho.2.2) (mi_al_e)))) (fun h1 W _ hst => mf_ret (M := (3, 1, sb_48)) rfl rfl rfl hst (mi_al_e) (kon h1 W))
set_option maxRecDepth 20000 in
theorem mp_gnB_3 (h : sm_H) (d : Nat) (zl zr : Int) : mj_path [(48, (3, 1, sb_48)), (49, (2, 1, sb_49))] sx_sk h 20 [0, 0, 1, 1] (d + 1, 48, 2, [some (.inr (.inr 60)), some (.inl (zl)), some (.inl (zr))], [], [], []) = some ((d + 1, 48, 2, [some (.inr (.inr 60)), some (.inl (zl)), some (.inl (zr + 1))], [], [], []), [zr < (mi_f h 7680), ((0 : Int)) ≤ zr, ((10 : Int)) ≤ zr, ((0 : Int)) ≠ zl, -2147483648 ≤ zr + 1 ∧ zr + 1 ≤ 2147483647]) := rfl
theorem mi_tab_gnB_3 : ∀ e ∈ ([(48, (3, 1, sb_48)), (49, (2, 1, sb_49))] : mi_T), sc_P e.1 = some e.2 := mi_tb mi_P48 (mi_tb mi_P49 (mi_tb_e))
set_option maxRecDepth 20000 in
theorem ms_gnB_3 {h : sm_H} {d : Nat} {Q : Option mi_V → sm_H → Prop} {zl zr : Int} (hS : ab_Sh sx_sk h) (ok_zl : mi_in zl) (ok_zr : mi_in zr) (ho : (zr < (mi_f h 7680)) ∧ (((0 : Int)) ≤ zr) ∧ (((10 : Int)) ≤ zr) ∧ (((0 : Int)) ≠ zl) ∧ (-2147483648 ≤ zr + 1 ∧ zr + 1 ≤ 2147483647)) (kon : ∀ h1, me_W [] h h1 → me_E (d + 1) 48 2 [some (.inr (.inr 60)), some (.inl (zl)), some (.inl (zr + 1))] [] h1 Q) : me_E (d + 1) 48 2 [some (.inr (.inr 60)), some (.inl (zl)), some (.inl (zr))] [] h Q := mf_seg (mp_gnB_3 h d zl zr) (mi_tab_gnB_3) hS (mi_okL_c (trivial) (mi_okL_c (ok_zl) (mi_okL_c (ok_zr) (mi_okL_e)))) (mi_okS_e) (mi_al (ho.1) (mi_al (ho.2.1) (mi_al (ho.2.2.1) (mi_al (ho.2.2.2.1) (mi_al (ho.2.2.2.2) (mi_al_e)))))) (fun h1 W _ hst => kon h1 W)
set_option maxRecDepth 20000 in
theorem mp_gnB_4 (h : sm_H) (d : Nat) (zl zr : Int) : mj_path [(48, (3, 1, sb_48)), (49, (2, 1, sb_49))] sx_sk h 19 [0, 0, 1, 0] (d + 1, 48, 2, [some (.inr (.inr 60)), some (.inl (zl)), some (.inl (zr))], [], [], []) = some ((d + 1, 48, 23, [some (.inr (.inr 60)), some (.inl (zl)), some (.inl (zr))], [.inl (zr)], [], []), [zr < (mi_f h 7680), ((0 : Int)) ≤ zr, ((10 : Int)) ≤ zr, ((0 : Int)) = zl]) := rfl
theorem mi_tab_gnB_4 : ∀ e ∈ ([(48, (3, 1, sb_48)), (49, (2, 1, sb_49))] : mi_T), sc_P e.1 = some e.2 := mi_tb mi_P48 (mi_tb mi_P49 (mi_tb_e))
set_option maxRecDepth 20000 in
theorem ms_gnB_4 {h : sm_H} {d : Nat} {Q : Option mi_V → sm_H → Prop} {zl zr : Int} (hS : ab_Sh sx_sk h) (ok_zl : mi_in zl) (ok_zr : mi_in zr) (ho : (zr < (mi_f h 7680)) ∧ (((0 : Int)) ≤ zr) ∧ (((10 : Int)) ≤ zr) ∧ (((0 : Int)) = zl)) (kon : ∀ h1, me_W [] h h1 → Q (some (.inl (zr))) h1) : me_E (d + 1) 48 2 [some (.inr (.inr 60)), some (.inl (zl)), some (.inl (zr))] [] h Q := mf_seg (mp_gnB_4 h d zl zr) (mi_tab_gnB_4) hS (mi_okL_c (trivial) (mi_okL_c (ok_zl) (mi_okL_c (ok_zr) (mi_okL_e)))) (mi_okS_e) (mi_al (ho.1) (mi_al (ho.2.1) (mi_al (ho.2.2.1) (mi_al (ho.2.2.2) (mi_al_e))))) (fun h1 W _ hst => mf_ret (M := (3, 1, sb_48)) rfl rfl rfl hst (mi_al_e) (kon h1 W))
set_option maxRecDepth 20000 in
theorem mp_gnB_5 (h : sm_H) (d : Nat) (zl zr : Int) : mj_path [(48, (3, 1, sb_48)), (49, (2, 1, sb_49))] sx_sk h 23 [0, 0, 0, 1] (d + 1, 48, 2, [some (.inr (.inr 60)), some (.inl (zl)), some (.inl (zr))], [], [], []) = some ((d + 1, 48, 2, [some (.inr (.inr 60)), some (.inl (zl)), some (.inl (zr + 1))], [], [], []), [zr < (mi_f h 7680), ((0 : Int)) ≤ zr, zr < ((10 : Int)), 0 ≤ zr ∧ zr < 10, (mi_a h 61 (Int.toNat zr)) ≠ zl, -2147483648 ≤ zr + 1 ∧ zr + 1 ≤ 2147483647]) := rfl
theorem mi_tab_gnB_5 : ∀ e ∈ ([(48, (3, 1, sb_48)), (49, (2, 1, sb_49))] : mi_T), sc_P e.1 = some e.2 := mi_tb mi_P48 (mi_tb mi_P49 (mi_tb_e))
set_option maxRecDepth 20000 in
theorem ms_gnB_5 {h : sm_H} {d : Nat} {Q : Option mi_V → sm_H → Prop} {zl zr : Int} (hS : ab_Sh sx_sk h) (ok_zl : mi_in zl) (ok_zr : mi_in zr) (ho : (zr < (mi_f h 7680)) ∧ (((0 : Int)) ≤ zr) ∧ (zr < ((10 : Int))) ∧ (0 ≤ zr ∧ zr < 10) ∧ ((mi_a h 61 (Int.toNat zr)) ≠ zl) ∧ (-2147483648 ≤ zr + 1 ∧ zr + 1 ≤ 2147483647)) (kon : ∀ h1, me_W [] h h1 → me_E (d + 1) 48 2 [some (.inr (.inr 60)), some (.inl (zl)), some (.inl (zr + 1))] [] h1 Q) : me_E (d + 1) 48 2 [some (.inr (.inr 60)), some (.inl (zl)), some (.inl (zr))] [] h Q := mf_seg (mp_gnB_5 h d zl zr) (mi_tab_gnB_5) hS (mi_okL_c (trivial) (mi_okL_c (ok_zl) (mi_okL_c (ok_zr) (mi_okL_e)))) (mi_okS_e) (mi_al (ho.1) (mi_al (ho.2.1) (mi_al (ho.2.2.1) (mi_al (ho.2.2.2.1) (mi_al (ho.2.2.2.2.1) (mi_al (ho.2.2.2.2.2) (mi_al_e))))))) (fun h1 W _ hst => kon h1 W)
set_option maxRecDepth 20000 in
theorem mp_gnB_6 (h : sm_H) (d : Nat) (zl zr : Int) : mj_path [(48, (3, 1, sb_48)), (49, (2, 1, sb_49))] sx_sk h 22 [0, 0, 0, 0] (d + 1, 48, 2, [some (.inr (.inr 60)), some (.inl (zl)), some (.inl (zr))], [], [], []) = some ((d + 1, 48, 23, [some (.inr (.inr 60)), some (.inl (zl)), some (.inl (zr))], [.inl (zr)], [], []), [zr < (mi_f h 7680), ((0 : Int)) ≤ zr, zr < ((10 : Int)), 0 ≤ zr ∧ zr < 10, (mi_a h 61 (Int.toNat zr)) = zl]) := rfl
theorem mi_tab_gnB_6 : ∀ e ∈ ([(48, (3, 1, sb_48)), (49, (2, 1, sb_49))] : mi_T), sc_P e.1 = some e.2 := mi_tb mi_P48 (mi_tb mi_P49 (mi_tb_e))
set_option maxRecDepth 20000 in
theorem ms_gnB_6 {h : sm_H} {d : Nat} {Q : Option mi_V → sm_H → Prop} {zl zr : Int} (hS : ab_Sh sx_sk h) (ok_zl : mi_in zl) (ok_zr : mi_in zr) (ho : (zr < (mi_f h 7680)) ∧ (((0 : Int)) ≤ zr) ∧ (zr < ((10 : Int))) ∧ (0 ≤ zr ∧ zr < 10) ∧ ((mi_a h 61 (Int.toNat zr)) = zl)) (kon : ∀ h1, me_W [] h h1 → Q (some (.inl (zr))) h1) : me_E (d + 1) 48 2 [some (.inr (.inr 60)), some (.inl (zl)), some (.inl (zr))] [] h Q := mf_seg (mp_gnB_6 h d zl zr) (mi_tab_gnB_6) hS (mi_okL_c (trivial) (mi_okL_c (ok_zl) (mi_okL_c (ok_zr) (mi_okL_e)))) (mi_okS_e) (mi_al (ho.1) (mi_al (ho.2.1) (mi_al (ho.2.2.1) (mi_al (ho.2.2.2.1) (mi_al (ho.2.2.2.2) (mi_al_e)))))) (fun h1 W _ hst => mf_ret (M := (3, 1, sb_48)) rfl rfl rfl hst (mi_al_e) (kon h1 W))
set_option maxRecDepth 20000 in
theorem mt_gnB {h : sm_H} {d : Nat} {Q : Option mi_V → sm_H → Prop} {zl zr : Int} (hS : ab_Sh sx_sk h) (ok_zl : mi_in zl) (ok_zr : mi_in zr) (k0 : ((-2147483648) ≤ mi_f h 7680 ∧ mi_f h 7680 ≤ 2147483647) → ((mi_f h 7680) ≤ zr) → (∀ h1, ab_Sh sx_sk h1 → ab_Fr [] h h1 → Q (some (.inl ((-1 : Int)))) h1)) (k1 : ((-2147483648) ≤ mi_f h 7680 ∧ mi_f h 7680 ≤ 2147483647) → (zr < (mi_f h 7680)) → (zr < ((0 : Int))) → (((0 : Int)) ≠ zl) → ((-2147483648 ≤ zr + 1 ∧ zr + 1 ≤ 2147483647)) ∧ (∀ h1, ab_Sh sx_sk h1 → ab_Fr [] h h1 → me_E (d + 1) 48 2 [some (.inr (.inr 60)), some (.inl (zl)), some (.inl (zr + 1))] [] h1 Q)) (k2 : ((-2147483648) ≤ mi_f h 7680 ∧ mi_f h 7680 ≤ 2147483647) → (zr < (mi_f h 7680)) → (zr < ((0 : Int))) → (((0 : Int)) = zl) → (∀ h1, ab_Sh sx_sk h1 → ab_Fr [] h h1 → Q (some (.inl (zr))) h1)) (k3 : ((-2147483648) ≤ mi_f h 7680 ∧ mi_f h 7680 ≤ 2147483647) → (zr < (mi_f h 7680)) → (((0 : Int)) ≤ zr) → (((10 : Int)) ≤ zr) → (((0 : Int)) ≠ zl) → ((-2147483648 ≤ zr + 1 ∧ zr + 1 ≤ 2147483647)) ∧ (∀ h1, ab_Sh sx_sk h1 → ab_Fr [] h h1 → me_E (d + 1) 48 2 [some (.inr (.inr 60)), some (.inl (zl)), some (.inl (zr + 1))] [] h1 Q)) (k4 : ((-2147483648) ≤ mi_f h 7680 ∧ mi_f h 7680 ≤ 2147483647) → (zr < (mi_f h 7680)) → (((0 : Int)) ≤ zr) → (((10 : Int)) ≤ zr) → (((0 : Int)) = zl) → (∀ h1, ab_Sh sx_sk h1 → ab_Fr [] h h1 → Q (some (.inl (zr))) h1)) (k5 : ((-2147483648) ≤ mi_f h 7680 ∧ mi_f h 7680 ≤ 2147483647) → (zr < (mi_f h 7680)) → (((0 : Int)) ≤ zr) → (zr < ((10 : Int))) → ((mi_a h 61 (Int.toNat zr)) ≠ zl) → ((0 ≤ zr ∧ zr < 10) ∧ (-2147483648 ≤ zr + 1 ∧ zr + 1 ≤ 2147483647)) ∧ (∀ h1, ab_Sh sx_sk h1 → ab_Fr [] h h1 → me_E (d + 1) 48 2 [some (.inr (.inr 60)), some (.inl (zl)), some (.inl (zr + 1))] [] h1 Q)) (k6 : ((-2147483648) ≤ mi_f h 7680 ∧ mi_f h 7680 ≤ 2147483647) → (zr < (mi_f h 7680)) → (((0 : Int)) ≤ zr) → (zr < ((10 : Int))) → ((mi_a h 61 (Int.toNat zr)) = zl) → ((0 ≤ zr ∧ zr < 10)) ∧ (∀ h1, ab_Sh sx_sk h1 → ab_Fr [] h h1 → Q (some (.inl (zr))) h1)) : me_E (d + 1) 48 2 [some (.inr (.inr 60)), some (.inl (zl)), some (.inl (zr))] [] h Q := Or.elim (mi_em .ge (zr) ((mi_f h 7680))) (fun c0 => ms_gnB_0 hS ok_zl ok_zr (c0) (fun h1 W => (k0 (me_fb hS rfl) c0) h1 W.1 (W.2.2.2.2.2 _ rfl))) (fun c0 => Or.elim (mi_em .lt (zr) (((0 : Int)))) (fun c1 => Or.elim (mi_em .ne (((0 : Int))) (zl)) (fun c2 => ms_gnB_1 hS ok_zl ok_zr ⟨c0, c1, c2, (k1 (me_fb hS rfl) c0 c1 c2).1⟩ (fun h1 W => (k1 (me_fb hS rfl) c0 c1 c2).2 h1 W.1 (W.2.2.2.2.2 _ rfl))) (fun c2 => ms_gnB_2 hS ok_zl ok_zr ⟨c0, c1, c2⟩ (fun h1 W => (k2 (me_fb hS rfl) c0 c1 c2) h1 W.1 (W.2.2.2.2.2 _ rfl)))) (fun c1 => Or.elim (mi_em .ge (zr) (((10 : Int)))) (fun c2 => Or.elim (mi_em .ne (((0 : Int))) (zl)) (fun c3 => ms_gnB_3 hS ok_zl ok_zr ⟨c0, c1, c2, c3, (k3 (me_fb hS rfl) c0 c1 c2 c3).1⟩ (fun h1 W => (k3 (me_fb hS rfl) c0 c1 c2 c3).2 h1 W.1 (W.2.2.2.2.2 _ rfl))) (fun c3 => ms_gnB_4 hS ok_zl ok_zr ⟨c0, c1, c2, c3⟩ (fun h1 W => (k4 (me_fb hS rfl) c0 c1 c2 c3) h1 W.1 (W.2.2.2.2.2 _ rfl)))) (fun c2 => Or.elim (mi_em .ne ((mi_a h 61 (Int.toNat zr))) (zl)) (fun c3 => ms_gnB_5 hS ok_zl ok_zr ⟨c0, c1, c2, (k5 (me_fb hS rfl) c0 c1 c2 c3).1.1, c3, (k5 (me_fb hS rfl) c0 c1 c2 c3).1.2⟩ (fun h1 W => (k5 (me_fb hS rfl) c0 c1 c2 c3).2 h1 W.1 (W.2.2.2.2.2 _ rfl))) (fun c3 => ms_gnB_6 hS ok_zl ok_zr ⟨c0, c1, c2, (k6 (me_fb hS rfl) c0 c1 c2 c3).1, c3⟩ (fun h1 W => (k6 (me_fb hS rfl) c0 c1 c2 c3).2 h1 W.1 (W.2.2.2.2.2 _ rfl))))))
set_option maxRecDepth 20000 in
theorem mp_glA_0 (h : sm_H) (d : Nat) (zl : Int) : mj_path [(58, (3, 1, sb_58))] sx_sk h 2 [] (d + 1, 58, 0, [some (.inr (.inr 60)), some (.inl (zl)), none], [], [], []) = some ((d + 1, 58, 2, [some (.inr (.inr 60)), some (.inl (zl)), some (.inl ((0 : Int)))], [], [], []), []) := rfl
theorem mi_tab_glA_0 : ∀ e ∈ ([(58, (3, 1, sb_58))] : mi_T), sc_P e.1 = some e.2 := mi_tb mi_P58 (mi_tb_e)
set_option maxRecDepth 20000 in
theorem ms_glA_0 {h : sm_H} {d : Nat} {Q : Option mi_V → sm_H → Prop} {zl : Int} (hS : ab_Sh sx_sk h) (ok_zl : mi_in zl) (kon : ∀ h1, me_W [] h h1 → me_E (d + 1) 58 2 [some (.inr (.inr 60)), some (.inl (zl)), some (.inl ((0 : Int)))] [] h1 Q) : me_E (d + 1) 58 0 [some (.inr (.inr 60)), some (.inl (zl)), none] [] h Q := mf_seg (mp_glA_0 h d zl) (mi_tab_glA_0) hS (mi_okL_c (trivial) (mi_okL_c (ok_zl) (mi_okL_n (mi_okL_e)))) (mi_okS_e) (mi_al_e) (fun h1 W _ hst => kon h1 W)
set_option maxRecDepth 20000 in
theorem mt_glA {h : sm_H} {d : Nat} {Q : Option mi_V → sm_H → Prop} {zl : Int} (hS : ab_Sh sx_sk h) (ok_zl : mi_in zl) (k0 : (∀ h1, ab_Sh sx_sk h1 → ab_Fr [] h h1 → me_E (d + 1) 58 2 [some (.inr (.inr 60)), some (.inl (zl)), some (.inl ((0 : Int)))] [] h1 Q)) : me_E (d + 1) 58 0 [some (.inr (.inr 60)), some (.inl (zl)), none] [] h Q := ms_glA_0 hS ok_zl (fun h1 W => (k0) h1 W.1 (W.2.2.2.2.2 _ rfl))
set_option maxRecDepth 20000 in
theorem mp_glB_0 (h : sm_H) (d : Nat) (zl zr : Int) : mj_path [(58, (3, 1, sb_58)), (49, (2, 1, sb_49))] sx_sk h 5 [1] (d + 1, 58, 2, [some (.inr (.inr 60)), some (.inl (zl)), some (.inl (zr))], [], [], []) = some ((d + 1, 58, 31, [some (.inr (.inr 60)), some (.inl (zl)), some (.inl (zr))], [.inl ((-1 : Int))], [], []), [(mi_f h 7698) ≤ zr]) := rfl
theorem mi_tab_glB_0 : ∀ e ∈ ([(58, (3, 1, sb_58)), (49, (2, 1, sb_49))] : mi_T), sc_P e.1 = some e.2 := mi_tb mi_P58 (mi_tb mi_P49 (mi_tb_e))
set_option maxRecDepth 20000 in
theorem ms_glB_0 {h : sm_H} {d : Nat} {Q : Option mi_V → sm_H → Prop} {zl zr : Int} (hS : ab_Sh sx_sk h) (ok_zl : mi_in zl) (ok_zr : mi_in zr) (ho : ((mi_f h 7698) ≤ zr)) (kon : ∀ h1, me_W [] h h1 → Q (some (.inl ((-1 : Int)))) h1) : me_E (d + 1) 58 2 [some (.inr (.inr 60)), some (.inl (zl)), some (.inl (zr))] [] h Q := mf_seg (mp_glB_0 h d zl zr) (mi_tab_glB_0) hS (mi_okL_c (trivial) (mi_okL_c (ok_zl) (mi_okL_c (ok_zr) (mi_okL_e)))) (mi_okS_e) (mi_al (ho) (mi_al_e)) (fun h1 W _ hst => mf_ret (M := (3, 1, sb_58)) rfl rfl rfl hst (mi_al_e) (kon h1 W))
set_option maxRecDepth 20000 in
theorem mp_glB_1 (h : sm_H) (d : Nat) (zl zr : Int) : mj_path [(58, (3, 1, sb_58)), (49, (2, 1, sb_49))] sx_sk h 16 [0, 1, 1] (d + 1, 58, 2, [some (.inr (.inr 60)), some (.inl (zl)), some (.inl (zr))], [], [], []) = some ((d + 1, 58, 2, [some (.inr (.inr 60)), some (.inl (zl)), some (.inl (zr + 1))], [], [], []), [zr < (mi_f h 7698), zr < ((0 : Int)), ((0 : Int)) ≠ zl, -2147483648 ≤ zr + 1 ∧ zr + 1 ≤ 2147483647]) := rfl
theorem mi_tab_glB_1 : ∀ e ∈ ([(58, (3, 1, sb_58)), (49, (2, 1, sb_49))] : mi_T), sc_P e.1 = some e.2 := mi_tb mi_P58 (mi_tb mi_P49 (mi_tb_e))
set_option maxRecDepth 20000 in
theorem ms_glB_1 {h : sm_H} {d : Nat} {Q : Option mi_V → sm_H → Prop} {zl zr : Int} (hS : ab_Sh sx_sk h) (ok_zl : mi_in zl) (ok_zr : mi_in zr) (ho : (zr < (mi_f h 7698)) ∧ (zr < ((0 : Int))) ∧ (((0 : Int)) ≠ zl) ∧ (-2147483648 ≤ zr + 1 ∧ zr + 1 ≤ 2147483647)) (kon : ∀ h1, me_W [] h h1 → me_E (d + 1) 58 2 [some (.inr (.inr 60)), some (.inl (zl)), some (.inl (zr + 1))] [] h1 Q) : me_E (d + 1) 58 2 [some (.inr (.inr 60)), some (.inl (zl)), some (.inl (zr))] [] h Q := mf_seg (mp_glB_1 h d zl zr) (mi_tab_glB_1) hS (mi_okL_c (trivial) (mi_okL_c (ok_zl) (mi_okL_c (ok_zr) (mi_okL_e)))) (mi_okS_e) (mi_al (ho.1) (mi_al (ho.2.1) (mi_al (ho.2.2.1) (mi_al (ho.2.2.2) (mi_al_e))))) (fun h1 W _ hst => kon h1 W)
set_option maxRecDepth 20000 in
theorem mp_glB_2 (h : sm_H) (d : Nat) (zl zr : Int) : mj_path [(58, (3, 1, sb_58)), (49, (2, 1, sb_49))] sx_sk h 15 [0, 1, 0] (d + 1, 58, 2, [some (.inr (.inr 60)), some (.inl (zl)), some (.inl (zr))], [], [], []) = some ((d + 1, 58, 23, [some (.inr (.inr 60)), some (.inl (zl)), some (.inl (zr))], [.inl (zr)], [], []), [zr < (mi_f h 7698), zr < ((0 : Int)), ((0 : Int)) = zl]) := rfl
theorem mi_tab_glB_2 : ∀ e ∈ ([(58, (3, 1, sb_58)), (49, (2, 1, sb_49))] : mi_T), sc_P e.1 = some e.2 := mi_tb mi_P58 (mi_tb mi_P49 (mi_tb_e))
set_option maxRecDepth 20000 in
theorem ms_glB_2 {h : sm_H} {d : Nat} {Q : Option mi_V → sm_H → Prop} {zl zr : Int} (hS : ab_Sh sx_sk h) (ok_zl : mi_in zl) (ok_zr : mi_in zr) (ho : (zr < (mi_f h 7698)) ∧ (zr < ((0 : Int))) ∧ (((0 : Int)) = zl)) (kon : ∀ h1, me_W [] h h1 → Q (some (.inl (zr))) h1) : me_E (d + 1) 58 2 [some (.inr (.inr 60)), some (.inl (zl)), some (.inl (zr))] [] h Q := mf_seg (mp_glB_2 h d zl zr) (mi_tab_glB_2) hS (mi_okL_c (trivial) (mi_okL_c (ok_zl) (mi_okL_c (ok_zr) (mi_okL_e)))) (mi_okS_e) (mi_al (ho.1) (mi_al (ho.2.1) (mi_al (ho.2.2) (mi_al_e)))) (fun h1 W _ hst => mf_ret (M := (3, 1, sb_58)) rfl rfl rfl hst (mi_al_e) (kon h1 W))
set_option maxRecDepth 20000 in
theorem mp_glB_3 (h : sm_H) (d : Nat) (zl zr : Int) : mj_path [(58, (3, 1, sb_58)), (49, (2, 1, sb_49))] sx_sk h 20 [0, 0, 1, 1] (d + 1, 58, 2, [some (.inr (.inr 60)), some (.inl (zl)), some (.inl (zr))], [], [], []) = some ((d + 1, 58, 2, [some (.inr (.inr 60)), some (.inl (zl)), some (.inl (zr + 1))], [], [], []), [zr < (mi_f h 7698), ((0 : Int)) ≤ zr, ((20 : Int)) ≤ zr, ((0 : Int)) ≠ zl, -2147483648 ≤ zr + 1 ∧ zr + 1 ≤ 2147483647]) := rfl
theorem mi_tab_glB_3 : ∀ e ∈ ([(58, (3, 1, sb_58)), (49, (2, 1, sb_49))] : mi_T), sc_P e.1 = some e.2 := mi_tb mi_P58 (mi_tb mi_P49 (mi_tb_e))
set_option maxRecDepth 20000 in
theorem ms_glB_3 {h : sm_H} {d : Nat} {Q : Option mi_V → sm_H → Prop} {zl zr : Int} (hS : ab_Sh sx_sk h) (ok_zl : mi_in zl) (ok_zr : mi_in zr) (ho : (zr < (mi_f h 7698)) ∧ (((0 : Int)) ≤ zr) ∧ (((20 : Int)) ≤ zr) ∧ (((0 : Int)) ≠ zl) ∧ (-2147483648 ≤ zr + 1 ∧ zr + 1 ≤ 2147483647)) (kon : ∀ h1, me_W [] h h1 → me_E (d + 1) 58 2 [some (.inr (.inr 60)), some (.inl (zl)), some (.inl (zr + 1))] [] h1 Q) : me_E (d + 1) 58 2 [some (.inr (.inr 60)), some (.inl (zl)), some (.inl (zr))] [] h Q := mf_seg (mp_glB_3 h d zl zr) (mi_tab_glB_3) hS (mi_okL_c (trivial) (mi_okL_c (ok_zl) (mi_okL_c (ok_zr) (mi_okL_e)))) (mi_okS_e) (mi_al (ho.1) (mi_al (ho.2.1) (mi_al (ho.2.2.1) (mi_al (ho.2.2.2.1) (mi_al (ho.2.2.2.2) (mi_al_e)))))) (fun h1 W _ hst => kon h1 W)
set_option maxRecDepth 20000 in
theorem mp_glB_4 (h : sm_H) (d : Nat) (zl zr : Int) : mj_path [(58, (3, 1, sb_58)), (49, (2, 1, sb_49))] sx_sk h 19 [0, 0, 1, 0] (d + 1, 58, 2, [some (.inr (.inr 60)), some (.inl (zl)), some (.inl (zr))], [], [], []) = some ((d + 1, 58, 23, [some (.inr (.inr 60)), some (.inl (zl)), some (.inl (zr))], [.inl (zr)], [], []), [zr < (mi_f h 7698), ((0 : Int)) ≤ zr, ((20 : Int)) ≤ zr, ((0 : Int)) = zl]) := rfl
theorem mi_tab_glB_4 : ∀ e ∈ ([(58, (3, 1, sb_58)), (49, (2, 1, sb_49))] : mi_T), sc_P e.1 = some e.2 := mi_tb mi_P58 (mi_tb mi_P49 (mi_tb_e))
set_option maxRecDepth 20000 in
theorem ms_glB_4 {h : sm_H} {d : Nat} {Q : Option mi_V → sm_H → Prop} {zl zr : Int} (hS : ab_Sh sx_sk h) (ok_zl : mi_in zl) (ok_zr : mi_in zr) (ho : (zr < (mi_f h 7698)) ∧ (((0 : Int)) ≤ zr) ∧ (((20 : Int)) ≤ zr) ∧ (((0 : Int)) = zl)) (kon : ∀ h1, me_W [] h h1 → Q (some (.inl (zr))) h1) : me_E (d + 1) 58 2 [some (.inr (.inr 60)), some (.inl (zl)), some (.inl (zr))] [] h Q := mf_seg (mp_glB_4 h d zl zr) (mi_tab_glB_4) hS (mi_okL_c (trivial) (mi_okL_c (ok_zl) (mi_okL_c (ok_zr) (mi_okL_e)))) (mi_okS_e) (mi_al (ho.1) (mi_al (ho.2.1) (mi_al (ho.2.2.1) (mi_al (ho.2.2.2) (mi_al_e))))) (fun h1 W _ hst => mf_ret (M := (3, 1, sb_58)) rfl rfl rfl hst (mi_al_e) (kon h1 W))
set_option maxRecDepth 20000 in
theorem mp_glB_5 (h : sm_H) (d : Nat) (zl zr : Int) : mj_path [(58, (3, 1, sb_58)), (49, (2, 1, sb_49))] sx_sk h 23 [0, 0, 0, 1] (d + 1, 58, 2, [some (.inr (.inr 60)), some (.inl (zl)), some (.inl (zr))], [], [], []) = some ((d + 1, 58, 2, [some (.inr (.inr 60)), some (.inl (zl)), some (.inl (zr + 1))], [], [], []), [zr < (mi_f h 7698), ((0 : Int)) ≤ zr, zr < ((20 : Int)), 0 ≤ zr ∧ zr < 20, (mi_a h 75 (Int.toNat zr)) ≠ zl, -2147483648 ≤ zr + 1 ∧ zr + 1 ≤ 2147483647]) := rfl
theorem mi_tab_glB_5 : ∀ e ∈ ([(58, (3, 1, sb_58)), (49, (2, 1, sb_49))] : mi_T), sc_P e.1 = some e.2 := mi_tb mi_P58 (mi_tb mi_P49 (mi_tb_e))
set_option maxRecDepth 20000 in
theorem ms_glB_5 {h : sm_H} {d : Nat} {Q : Option mi_V → sm_H → Prop} {zl zr : Int} (hS : ab_Sh sx_sk h) (ok_zl : mi_in zl) (ok_zr : mi_in zr) (ho : (zr < (mi_f h 7698)) ∧ (((0 : Int)) ≤ zr) ∧ (zr < ((20 : Int))) ∧ (0 ≤ zr ∧ zr < 20) ∧ ((mi_a h 75 (Int.toNat zr)) ≠ zl) ∧ (-2147483648 ≤ zr + 1 ∧ zr + 1 ≤ 2147483647)) (kon : ∀ h1, me_W [] h h1 → me_E (d + 1) 58 2 [some (.inr (.inr 60)), some (.inl (zl)), some (.inl (zr + 1))] [] h1 Q) : me_E (d + 1) 58 2 [some (.inr (.inr 60)), some (.inl (zl)), some (.inl (zr))] [] h Q := mf_seg (mp_glB_5 h d zl zr) (mi_tab_glB_5) hS (mi_okL_c (trivial) (mi_okL_c (ok_zl) (mi_okL_c (ok_zr) (mi_okL_e)))) (mi_okS_e) (mi_al (ho.1) (mi_al (ho.2.1) (mi_al (ho.2.2.1) (mi_al (ho.2.2.2.1) (mi_al (ho.2.2.2.2.1) (mi_al (ho.2.2.2.2.2) (mi_al_e))))))) (fun h1 W _ hst => kon h1 W)
set_option maxRecDepth 20000 in
theorem mp_glB_6 (h : sm_H) (d : Nat) (zl zr : Int) : mj_path [(58, (3, 1, sb_58)), (49, (2, 1, sb_49))] sx_sk h 22 [0, 0, 0, 0] (d + 1, 58, 2, [some (.inr (.inr 60)), some (.inl (zl)), some (.inl (zr))], [], [], []) = some ((d + 1, 58, 23, [some (.inr (.inr 60)), some (.inl (zl)), some (.inl (zr))], [.inl (zr)], [], []), [zr < (mi_f h 7698), ((0 : Int)) ≤ zr, zr < ((20 : Int)), 0 ≤ zr ∧ zr < 20, (mi_a h 75 (Int.toNat zr)) = zl]) := rfl
theorem mi_tab_glB_6 : ∀ e ∈ ([(58, (3, 1, sb_58)), (49, (2, 1, sb_49))] : mi_T), sc_P e.1 = some e.2 := mi_tb mi_P58 (mi_tb mi_P49 (mi_tb_e))
set_option maxRecDepth 20000 in
theorem ms_glB_6 {h : sm_H} {d : Nat} {Q : Option mi_V → sm_H → Prop} {zl zr : Int} (hS : ab_Sh sx_sk h) (ok_zl : mi_in zl) (ok_zr : mi_in zr) (ho : (zr < (mi_f h 7698)) ∧ (((0 : Int)) ≤ zr) ∧ (zr < ((20 : Int))) ∧ (0 ≤ zr ∧ zr < 20) ∧ ((mi_a h 75 (Int.toNat zr)) = zl)) (kon : ∀ h1, me_W [] h h1 → Q (some (.inl (zr))) h1) : me_E (d + 1) 58 2 [some (.inr (.inr 60)), some (.inl (zl)), some (.inl (zr))] [] h Q := mf_seg (mp_glB_6 h d zl zr) (mi_tab_glB_6) hS (mi_okL_c (trivial) (mi_okL_c (ok_zl) (mi_okL_c (ok_zr) (mi_okL_e)))) (mi_okS_e) (mi_al (ho.1) (mi_al (ho.2.1) (mi_al (ho.2.2.1) (mi_al (ho.2.2.2.1) (mi_al (ho.2.2.2.2) (mi_al_e)))))) (fun h1 W _ hst => mf_ret (M := (3, 1, sb_58)) rfl rfl rfl hst (mi_al_e) (kon h1 W))
set_option maxRecDepth 20000 in
theorem mt_glB {h : sm_H} {d : Nat} {Q : Option mi_V → sm_H → Prop} {zl zr : Int} (hS : ab_Sh sx_sk h) (ok_zl : mi_in zl) (ok_zr : mi_in zr) (k0 : ((-2147483648) ≤ mi_f h 7698 ∧ mi_f h 7698 ≤ 2147483647) → ((mi_f h 7698) ≤ zr) → (∀ h1, ab_Sh sx_sk h1 → ab_Fr [] h h1 → Q (some (.inl ((-1 : Int)))) h1)) (k1 : ((-2147483648) ≤ mi_f h 7698 ∧ mi_f h 7698 ≤ 2147483647) → (zr < (mi_f h 7698)) → (zr < ((0 : Int))) → (((0 : Int)) ≠ zl) → ((-2147483648 ≤ zr + 1 ∧ zr + 1 ≤ 2147483647)) ∧ (∀ h1, ab_Sh sx_sk h1 → ab_Fr [] h h1 → me_E (d + 1) 58 2 [some (.inr (.inr 60)), some (.inl (zl)), some (.inl (zr + 1))] [] h1 Q)) (k2 : ((-2147483648) ≤ mi_f h 7698 ∧ mi_f h 7698 ≤ 2147483647) → (zr < (mi_f h 7698)) → (zr < ((0 : Int))) → (((0 : Int)) = zl) → (∀ h1, ab_Sh sx_sk h1 → ab_Fr [] h h1 → Q (some (.inl (zr))) h1)) (k3 : ((-2147483648) ≤ mi_f h 7698 ∧ mi_f h 7698 ≤ 2147483647) → (zr < (mi_f h 7698)) → (((0 : Int)) ≤ zr) → (((20 : Int)) ≤ zr) → (((0 : Int)) ≠ zl) → ((-2147483648 ≤ zr + 1 ∧ zr + 1 ≤ 2147483647)) ∧ (∀ h1, ab_Sh sx_sk h1 → ab_Fr [] h h1 → me_E (d + 1) 58 2 [some (.inr (.inr 60)), some (.inl (zl)), some (.inl (zr + 1))] [] h1 Q)) (k4 : ((-2147483648) ≤ mi_f h 7698 ∧ mi_f h 7698 ≤ 2147483647) → (zr < (mi_f h 7698)) → (((0 : Int)) ≤ zr) → (((20 : Int)) ≤ zr) → (((0 : Int)) = zl) → (∀ h1, ab_Sh sx_sk h1 → ab_Fr [] h h1 → Q (some (.inl (zr))) h1)) (k5 : ((-2147483648) ≤ mi_f h 7698 ∧ mi_f h 7698 ≤ 2147483647) → (zr < (mi_f h 7698)) → (((0 : Int)) ≤ zr) → (zr < ((20 : Int))) → ((mi_a h 75 (Int.toNat zr)) ≠ zl) → ((0 ≤ zr ∧ zr < 20) ∧ (-2147483648 ≤ zr + 1 ∧ zr + 1 ≤ 2147483647)) ∧ (∀ h1, ab_Sh sx_sk h1 → ab_Fr [] h h1 → me_E (d + 1) 58 2 [some (.inr (.inr 60)), some (.inl (zl)), some (.inl (zr + 1))] [] h1 Q)) (k6 : ((-2147483648) ≤ mi_f h 7698 ∧ mi_f h 7698 ≤ 2147483647) → (zr < (mi_f h 7698)) → (((0 : Int)) ≤ zr) → (zr < ((20 : Int))) → ((mi_a h 75 (Int.toNat zr)) = zl) → ((0 ≤ zr ∧ zr < 20)) ∧ (∀ h1, ab_Sh sx_sk h1 → ab_Fr [] h h1 → Q (some (.inl (zr))) h1)) : me_E (d + 1) 58 2 [some (.inr (.inr 60)), some (.inl (zl)), some (.inl (zr))] [] h Q := Or.elim (mi_em .ge (zr) ((mi_f h 7698))) (fun c0 => ms_glB_0 hS ok_zl ok_zr (c0) (fun h1 W => (k0 (me_fb hS rfl) c0) h1 W.1 (W.2.2.2.2.2 _ rfl))) (fun c0 => Or.elim (mi_em .lt (zr) (((0 : Int)))) (fun c1 => Or.elim (mi_em .ne (((0 : Int))) (zl)) (fun c2 => ms_glB_1 hS ok_zl ok_zr ⟨c0, c1, c2, (k1 (me_fb hS rfl) c0 c1 c2).1⟩ (fun h1 W => (k1 (me_fb hS rfl) c0 c1 c2).2 h1 W.1 (W.2.2.2.2.2 _ rfl))) (fun c2 => ms_glB_2 hS ok_zl ok_zr ⟨c0, c1, c2⟩ (fun h1 W => (k2 (me_fb hS rfl) c0 c1 c2) h1 W.1 (W.2.2.2.2.2 _ rfl)))) (fun c1 => Or.elim (mi_em .ge (zr) (((20 : Int)))) (fun c2 => Or.elim (mi_em .ne (((0 : Int))) (zl)) (fun c3 => ms_glB_3 hS ok_zl ok_zr ⟨c0, c1, c2, c3, (k3 (me_fb hS rfl) c0 c1 c2 c3).1⟩ (fun h1 W => (k3 (me_fb hS rfl) c0 c1 c2 c3).2 h1 W.1 (W.2.2.2.2.2 _ rfl))) (fun c3 => ms_glB_4 hS ok_zl ok_zr ⟨c0, c1, c2, c3⟩ (fun h1 W => (k4 (me_fb hS rfl) c0 c1 c2 c3) h1 W.1 (W.2.2.2.2.2 _ rfl)))) (fun c2 => Or.elim (mi_em .ne ((mi_a h 75 (Int.toNat zr))) (zl)) (fun c3 => ms_glB_5 hS ok_zl ok_zr ⟨c0, c1, c2, (k5 (me_fb hS rfl) c0 c1 c2 c3).1.1, c3, (k5 (me_fb hS rfl) c0 c1 c2 c3).1.2⟩ (fun h1 W => (k5 (me_fb hS rfl) c0 c1 c2 c3).2 h1 W.1 (W.2.2.2.2.2 _ rfl))) (fun c3 => ms_glB_6 hS ok_zl ok_zr ⟨c0, c1, c2, (k6 (me_fb hS rfl) c0 c1 c2 c3).1, c3⟩ (fun h1 W => (k6 (me_fb hS rfl) c0 c1 c2 c3).2 h1 W.1 (W.2.2.2.2.2 _ rfl))))))
set_option maxRecDepth 20000 in
theorem mp_gar_0 (h : sm_H) (d : Nat) (zl zp : Int) : mj_path [(50, (3, 1, sb_50)), (16, (3, 0, sb_16))] sx_sk h 28 [1, 1, 8, 8] (d + 1, 50, 0, [some (.inr (.inr 60)), some (.inl (zl)), some (.inl (zp))], [], [], []) = some ((d + 1, 50, 40, [some (.inr (.inr 60)), some (.inl (zl)), some (.inl (zp))], [.inl (((mi_f h 7680) + ((1 : Int))) - ((1 : Int)))], [.inl (7680, (mi_f h 7680) + ((1 : Int)))], []), [(mi_f h 7680) < ((0 : Int)), (mi_f h 7680) < ((0 : Int)), -2147483648 ≤ (mi_f h 7680) + ((1 : Int)) ∧ (mi_f h 7680) + ((1 : Int)) ≤ 2147483647, -2147483648 ≤ ((mi_f h 7680) + ((1 : Int))) - ((1 : Int)) ∧ ((mi_f h 7680) + ((1 : Int))) - ((1 : Int)) ≤ 2147483647]) := rfl
theorem mi_tab_gar_0 : ∀ e ∈ ([(50, (3, 1, sb_50)), (16, (3, 0, sb_16))] : mi_T), sc_P e.1 = some e.2 := mi_tb mi_P50 (mi_tb mi_P16 (mi_tb_e))
set_option maxRecDepth 20000 in
theorem ms_gar_0 {h : sm_H} {d : Nat} {Q : Option mi_V → sm_H → Prop} {zl zp : Int} (hS : ab_Sh sx_sk h) (ok_zl : mi_in zl) (ok_zp : mi_in zp) (ho : ((mi_f h 7680) < ((0 : Int))) ∧ ((mi_f h 7680) < ((0 : Int))) ∧ (-2147483648 ≤ (mi_f h 7680) + ((1 : Int)) ∧ (mi_f h 7680) + ((1 : Int)) ≤ 2147483647) ∧ (-2147483648 ≤ ((mi_f h 7680) + ((1 : Int))) - ((1 : Int)) ∧ ((mi_f h 7680) + ((1 : Int))) - ((1 : Int)) ≤ 2147483647)) (kon : ∀ h1, me_W [.inl (7680, (mi_f h 7680) + ((1 : Int)))] h h1 → Q (some (.inl (((mi_f h 7680) + ((1 : Int))) - ((1 : Int))))) h1) : me_E (d + 1) 50 0 [some (.inr (.inr 60)), some (.inl (zl)), some (.inl (zp))] [] h Q := mf_seg (mp_gar_0 h d zl zp) (mi_tab_gar_0) hS (mi_okL_c (trivial) (mi_okL_c (ok_zl) (mi_okL_c (ok_zp) (mi_okL_e)))) (mi_okS_e) (mi_al (ho.1) (mi_al (ho.2.1) (mi_al (ho.2.2.1) (mi_al (ho.2.2.2) (mi_al_e))))) (fun h1 W _ hst => mf_ret (M := (3, 1, sb_50)) rfl rfl rfl hst (mi_al_e) (kon h1 W))
set_option maxRecDepth 20000 in
theorem mp_gar_1 (h : sm_H) (d : Nat) (zl zp : Int) : mj_path [(50, (3, 1, sb_50)), (16, (3, 0, sb_16))] sx_sk h 36 [0, 1, 0, 1, 8, 8] (d + 1, 50, 0, [some (.inr (.inr 60)), some (.inl (zl)), some (.inl (zp))], [], [], []) = some ((d + 1, 50, 40, [some (.inr (.inr 60)), some (.inl (zl)), some (.inl (zp))], [.inl (((mi_f h 7680) + ((1 : Int))) - ((1 : Int)))], [.inl (7680, (mi_f h 7680) + ((1 : Int)))], []), [((0 : Int)) ≤ (mi_f h 7680), ((10 : Int)) ≤ (mi_f h 7680), ((0 : Int)) ≤ (mi_f h 7680), ((10 : Int)) ≤ (mi_f h 7680), -2147483648 ≤ (mi_f h 7680) + ((1 : Int)) ∧ (mi_f h 7680) + ((1 : Int)) ≤ 2147483647, -2147483648 ≤ ((mi_f h 7680) + ((1 : Int))) - ((1 : Int)) ∧ ((mi_f h 7680) + ((1 : Int))) - ((1 : Int)) ≤ 2147483647]) := rfl
theorem mi_tab_gar_1 : ∀ e ∈ ([(50, (3, 1, sb_50)), (16, (3, 0, sb_16))] : mi_T), sc_P e.1 = some e.2 := mi_tb mi_P50 (mi_tb mi_P16 (mi_tb_e))
set_option maxRecDepth 20000 in
theorem ms_gar_1 {h : sm_H} {d : Nat} {Q : Option mi_V → sm_H → Prop} {zl zp : Int} (hS : ab_Sh sx_sk h) (ok_zl : mi_in zl) (ok_zp : mi_in zp) (ho : (((0 : Int)) ≤ (mi_f h 7680)) ∧ (((10 : Int)) ≤ (mi_f h 7680)) ∧ (((0 : Int)) ≤ (mi_f h 7680)) ∧ (((10 : Int)) ≤ (mi_f h 7680)) ∧ (-2147483648 ≤ (mi_f h 7680) + ((1 : Int)) ∧ (mi_f h 7680) + ((1 : Int)) ≤ 2147483647) ∧ (-2147483648 ≤ ((mi_f h 7680) + ((1 : Int))) - ((1 : Int)) ∧ ((mi_f h 7680) + ((1 : Int))) - ((1 : Int)) ≤ 2147483647)) (kon : ∀ h1, me_W [.inl (7680, (mi_f h 7680) + ((1 : Int)))] h h1 → Q (some (.inl (((mi_f h 7680) + ((1 : Int))) - ((1 : Int))))) h1) : me_E (d + 1) 50 0 [some (.inr (.inr 60)), some (.inl (zl)), some (.inl (zp))] [] h Q := mf_seg (mp_gar_1 h d zl zp) (mi_tab_gar_1) hS (mi_okL_c (trivial) (mi_okL_c (ok_zl) (mi_okL_c (ok_zp) (mi_okL_e)))) (mi_okS_e) (mi_al (ho.1) (mi_al (ho.2.1) (mi_al (ho.2.2.1) (mi_al (ho.2.2.2.1) (mi_al (ho.2.2.2.2.1) (mi_al (ho.2.2.2.2.2) (mi_al_e))))))) (fun h1 W _ hst => mf_ret (M := (3, 1, sb_50)) rfl rfl rfl hst (mi_al_e) (kon h1 W))
set_option maxRecDepth 20000 in
theorem mp_gar_2 (h : sm_H) (d : Nat) (zl zp : Int) : mj_path [(50, (3, 1, sb_50)), (16, (3, 0, sb_16))] sx_sk h 44 [0, 0, 0, 0, 8, 8] (d + 1, 50, 0, [some (.inr (.inr 60)), some (.inl (zl)), some (.inl (zp))], [], [], []) = some ((d + 1, 50, 40, [some (.inr (.inr 60)), some (.inl (zl)), some (.inl (zp))], [.inl (((mi_f h 7680) + ((1 : Int))) - ((1 : Int)))], [.inl (7680, (mi_f h 7680) + ((1 : Int))), .inr (.inr (.inl (62, Int.toNat (mi_f h 7680), zp))), .inr (.inr (.inl (61, Int.toNat (mi_f h 7680), zl)))], []), [((0 : Int)) ≤ (mi_f h 7680), (mi_f h 7680) < ((10 : Int)), 0 ≤ (mi_f h 7680) ∧ (mi_f h 7680) < 10, ((0 : Int)) ≤ (mi_f h 7680), (mi_f h 7680) < ((10 : Int)), 0 ≤ (mi_f h 7680) ∧ (mi_f h 7680) < 10, -2147483648 ≤ (mi_f h 7680) + ((1 : Int)) ∧ (mi_f h 7680) + ((1 : Int)) ≤ 2147483647, -2147483648 ≤ ((mi_f h 7680) + ((1 : Int))) - ((1 : Int)) ∧ ((mi_f h 7680) + ((1 : Int))) - ((1 : Int)) ≤ 2147483647]) := rfl
theorem mi_tab_gar_2 : ∀ e ∈ ([(50, (3, 1, sb_50)), (16, (3, 0, sb_16))] : mi_T), sc_P e.1 = some e.2 := mi_tb mi_P50 (mi_tb mi_P16 (mi_tb_e))
set_option maxRecDepth 20000 in
theorem ms_gar_2 {h : sm_H} {d : Nat} {Q : Option mi_V → sm_H → Prop} {zl zp : Int} (hS : ab_Sh sx_sk h) (ok_zl : mi_in zl) (ok_zp : mi_in zp) (ho : (((0 : Int)) ≤ (mi_f h 7680)) ∧ ((mi_f h 7680) < ((10 : Int))) ∧ (0 ≤ (mi_f h 7680) ∧ (mi_f h 7680) < 10) ∧ (((0 : Int)) ≤ (mi_f h 7680)) ∧ ((mi_f h 7680) < ((10 : Int))) ∧ (0 ≤ (mi_f h 7680) ∧ (mi_f h 7680) < 10) ∧ (-2147483648 ≤ (mi_f h 7680) + ((1 : Int)) ∧ (mi_f h 7680) + ((1 : Int)) ≤ 2147483647) ∧ (-2147483648 ≤ ((mi_f h 7680) + ((1 : Int))) - ((1 : Int)) ∧ ((mi_f h 7680) + ((1 : Int))) - ((1 : Int)) ≤ 2147483647)) (kon : ∀ h1, me_W [.inl (7680, (mi_f h 7680) + ((1 : Int))), .inr (.inr (.inl (62, Int.toNat (mi_f h 7680), zp))), .inr (.inr (.inl (61, Int.toNat (mi_f h 7680), zl)))] h h1 → Q (some (.inl (((mi_f h 7680) + ((1 : Int))) - ((1 : Int))))) h1) : me_E (d + 1) 50 0 [some (.inr (.inr 60)), some (.inl (zl)), some (.inl (zp))] [] h Q := mf_seg (mp_gar_2 h d zl zp) (mi_tab_gar_2) hS (mi_okL_c (trivial) (mi_okL_c (ok_zl) (mi_okL_c (ok_zp) (mi_okL_e)))) (mi_okS_e) (mi_al (ho.1) (mi_al (ho.2.1) (mi_al (ho.2.2.1) (mi_al (ho.2.2.2.1) (mi_al (ho.2.2.2.2.1) (mi_al (ho.2.2.2.2.2.1) (mi_al (ho.2.2.2.2.2.2.1) (mi_al (ho.2.2.2.2.2.2.2) (mi_al_e))))))))) (fun h1 W _ hst => mf_ret (M := (3, 1, sb_50)) rfl rfl rfl hst (mi_al_e) (kon h1 W))
set_option maxRecDepth 20000 in
theorem mt_gar {h : sm_H} {d : Nat} {Q : Option mi_V → sm_H → Prop} {zl zp : Int} (hS : ab_Sh sx_sk h) (ok_zl : mi_in zl) (ok_zp : mi_in zp) (k0 : ((-2147483648) ≤ mi_f h 7680 ∧ mi_f h 7680 ≤ 2147483647) → ((mi_f h 7680) < ((0 : Int))) → ((-2147483648 ≤ (mi_f h 7680) + ((1 : Int)) ∧ (mi_f h 7680) + ((1 : Int)) ≤ 2147483647) ∧ (-2147483648 ≤ ((mi_f h 7680) + ((1 : Int))) - ((1 : Int)) ∧ ((mi_f h 7680) + ((1 : Int))) - ((1 : Int)) ≤ 2147483647)) ∧ (∀ h1, ab_Sh sx_sk h1 → mi_f h1 7680 = (mi_f h 7680) + ((1 : Int)) → ab_Fr [(7680, 7681)] h h1 → Q (some (.inl (((mi_f h 7680) + ((1 : Int))) - ((1 : Int))))) h1)) (k1 : ((-2147483648) ≤ mi_f h 7680 ∧ mi_f h 7680 ≤ 2147483647) → (((0 : Int)) ≤ (mi_f h 7680)) → (((10 : Int)) ≤ (mi_f h 7680)) → ((-2147483648 ≤ (mi_f h 7680) + ((1 : Int)) ∧ (mi_f h 7680) + ((1 : Int)) ≤ 2147483647) ∧ (-2147483648 ≤ ((mi_f h 7680) + ((1 : Int))) - ((1 : Int)) ∧ ((mi_f h 7680) + ((1 : Int))) - ((1 : Int)) ≤ 2147483647)) ∧ (∀ h1, ab_Sh sx_sk h1 → mi_f h1 7680 = (mi_f h 7680) + ((1 : Int)) → ab_Fr [(7680, 7681)] h h1 → Q (some (.inl (((mi_f h 7680) + ((1 : Int))) - ((1 : Int))))) h1)) (k2 : ((-2147483648) ≤ mi_f h 7680 ∧ mi_f h 7680 ≤ 2147483647) → (((0 : Int)) ≤ (mi_f h 7680)) → ((mi_f h 7680) < ((10 : Int))) → ((0 ≤ (mi_f h 7680) ∧ (mi_f h 7680) < 10) ∧ (-2147483648 ≤ (mi_f h 7680) + ((1 : Int)) ∧ (mi_f h 7680) + ((1 : Int)) ≤ 2147483647) ∧ (-2147483648 ≤ ((mi_f h 7680) + ((1 : Int))) - ((1 : Int)) ∧ ((mi_f h 7680) + ((1 : Int))) - ((1 : Int)) ≤ 2147483647)) ∧ (∀ h1, ab_Sh sx_sk h1 → mi_f h1 7680 = (mi_f h 7680) + ((1 : Int)) → (∀ i, mi_a h1 61 i = if i = Int.toNat (mi_f h 7680) then zl else (mi_a h 61 i)) → (∀ i, mi_a h1 62 i = if i = Int.toNat (mi_f h 7680) then zp else (mi_a h 62 i)) → ab_Fr [(7680, 7681), (7808, 7809), (7936, 7937)] h h1 → Q (some (.inl (((mi_f h 7680) + ((1 : Int))) - ((1 : Int))))) h1)) : me_E (d + 1) 50 0 [some (.inr (.inr 60)), some (.inl (zl)), some (.inl (zp))] [] h Q := Or.elim (mi_em .lt ((mi_f h 7680)) (((0 : Int)))) (fun c0 => ms_gar_0 hS ok_zl ok_zp ⟨c0, c0, (k0 (me_fb hS rfl) c0).1.1, (k0 (me_fb hS rfl) c0).1.2⟩ (fun h1 W => (k0 (me_fb hS rfl) c0).2 h1 W.1 (W.2.1 7680) (W.2.2.2.2.2 _ rfl))) (fun c0 => Or.elim (mi_em .ge ((mi_f h 7680)) (((10 : Int)))) (fun c1 => ms_gar_1 hS ok_zl ok_zp ⟨c0, c1, c0, c1, (k1 (me_fb hS rfl) c0 c1).1.1, (k1 (me_fb hS rfl) c0 c1).1.2⟩ (fun h1 W => (k1 (me_fb hS rfl) c0 c1).2 h1 W.1 (W.2.1 7680) (W.2.2.2.2.2 _ rfl))) (fun c1 => ms_gar_2 hS ok_zl ok_zp ⟨c0, c1, (k2 (me_fb hS rfl) c0 c1).1.1, c0, c1, (k2 (me_fb hS rfl) c0 c1).1.1, (k2 (me_fb hS rfl) c0 c1).1.2.1, (k2 (me_fb hS rfl) c0 c1).1.2.2⟩ (fun h1 W => (k2 (me_fb hS rfl) c0 c1).2 h1 W.1 (W.2.1 7680) (fun i => W.2.2.1 61 i) (fun i => W.2.2.1 62 i) (W.2.2.2.2.2 _ rfl))))
set_option maxRecDepth 20000 in
theorem mp_gag_0 (h : sm_H) (d : Nat) : mj_path [(62, (1, 1, sb_62))] sx_sk h 12 [8, 8, 8] (d + 1, 62, 0, [some (.inr (.inr 60))], [], [], []) = some ((d + 1, 62, 19, [some (.inr (.inr 60))], [.inl ((((10 : Int)) + ((mi_f h 7685) + ((1 : Int)))) - ((1 : Int)))], [.inl (7685, (mi_f h 7685) + ((1 : Int)))], []), [-2147483648 ≤ (mi_f h 7685) + ((1 : Int)) ∧ (mi_f h 7685) + ((1 : Int)) ≤ 2147483647, -2147483648 ≤ ((10 : Int)) + ((mi_f h 7685) + ((1 : Int))) ∧ ((10 : Int)) + ((mi_f h 7685) + ((1 : Int))) ≤ 2147483647, -2147483648 ≤ (((10 : Int)) + ((mi_f h 7685) + ((1 : Int)))) - ((1 : Int)) ∧ (((10 : Int)) + ((mi_f h 7685) + ((1 : Int)))) - ((1 : Int)) ≤ 2147483647]) := rfl
theorem mi_tab_gag_0 : ∀ e ∈ ([(62, (1, 1, sb_62))] : mi_T), sc_P e.1 = some e.2 := mi_tb mi_P62 (mi_tb_e)
set_option maxRecDepth 20000 in
theorem ms_gag_0 {h : sm_H} {d : Nat} {Q : Option mi_V → sm_H → Prop} (hS : ab_Sh sx_sk h)  (ho : (-2147483648 ≤ (mi_f h 7685) + ((1 : Int)) ∧ (mi_f h 7685) + ((1 : Int)) ≤ 2147483647) ∧ (-2147483648 ≤ ((10 : Int)) + ((mi_f h 7685) + ((1 : Int))) ∧ ((10 : Int)) + ((mi_f h 7685) + ((1 : Int))) ≤ 2147483647) ∧ (-2147483648 ≤ (((10 : Int)) + ((mi_f h 7685) + ((1 : Int)))) - ((1 : Int)) ∧ (((10 : Int)) + ((mi_f h 7685) + ((1 : Int)))) - ((1 : Int)) ≤ 2147483647)) (kon : ∀ h1, me_W [.inl (7685, (mi_f h 7685) + ((1 : Int)))] h h1 → Q (some (.inl ((((10 : Int)) + ((mi_f h 7685) + ((1 : Int)))) - ((1 : Int))))) h1) : me_E (d + 1) 62 0 [some (.inr (.inr 60))] [] h Q := mf_seg (mp_gag_0 h d ) (mi_tab_gag_0) hS (mi_okL_c (trivial) (mi_okL_e)) (mi_okS_e) (mi_al (ho.1) (mi_al (ho.2.1) (mi_al (ho.2.2) (mi_al_e)))) (fun h1 W _ hst => mf_ret (M := (1, 1, sb_62)) rfl rfl rfl hst (mi_al_e) (kon h1 W))
set_option maxRecDepth 20000 in
theorem mt_gag {h : sm_H} {d : Nat} {Q : Option mi_V → sm_H → Prop} (hS : ab_Sh sx_sk h)  (k0 : ((-2147483648) ≤ mi_f h 7685 ∧ mi_f h 7685 ≤ 2147483647) → ((-2147483648 ≤ (mi_f h 7685) + ((1 : Int)) ∧ (mi_f h 7685) + ((1 : Int)) ≤ 2147483647) ∧ (-2147483648 ≤ ((10 : Int)) + ((mi_f h 7685) + ((1 : Int))) ∧ ((10 : Int)) + ((mi_f h 7685) + ((1 : Int))) ≤ 2147483647) ∧ (-2147483648 ≤ (((10 : Int)) + ((mi_f h 7685) + ((1 : Int)))) - ((1 : Int)) ∧ (((10 : Int)) + ((mi_f h 7685) + ((1 : Int)))) - ((1 : Int)) ≤ 2147483647)) ∧ (∀ h1, ab_Sh sx_sk h1 → mi_f h1 7685 = (mi_f h 7685) + ((1 : Int)) → ab_Fr [(7685, 7686)] h h1 → Q (some (.inl ((((10 : Int)) + ((mi_f h 7685) + ((1 : Int)))) - ((1 : Int))))) h1)) : me_E (d + 1) 62 0 [some (.inr (.inr 60))] [] h Q := ms_gag_0 hS ⟨(k0 (me_fb hS rfl)).1.1, (k0 (me_fb hS rfl)).1.2.1, (k0 (me_fb hS rfl)).1.2.2⟩ (fun h1 W => (k0 (me_fb hS rfl)).2 h1 W.1 (W.2.1 7685) (W.2.2.2.2.2 _ rfl))
set_option maxRecDepth 20000 in
theorem mp_galA_0 (h : sm_H) (d : Nat) (zl : Int) : mj_path [(61, (3, 1, sb_61))] sx_sk h 2 [] (d + 2, 61, 0, [some (.inr (.inr 60)), some (.inl (zl)), none], [], [], []) = some ((d + 2, 61, 2, [some (.inr (.inr 60)), some (.inl (zl)), none], [.inl (zl), .inr (.inr 60)], [], []), []) := rfl
theorem mi_tab_galA_0 : ∀ e ∈ ([(61, (3, 1, sb_61))] : mi_T), sc_P e.1 = some e.2 := mi_tb mi_P61 (mi_tb_e)
set_option maxRecDepth 20000 in
theorem ms_galA_0 {h : sm_H} {d : Nat} {Q : Option mi_V → sm_H → Prop} {zl : Int} (hS : ab_Sh sx_sk h) (ok_zl : mi_in zl) (kon : ∀ h1, me_W [] h h1 → ∃ Q1, me_E (d + 1) 58 0 (mi_entry 3 [.inr (.inr 60), .inl (zl)]) [] h1 Q1 ∧ ∀ w h2, (∀ x, w = some x → mi_ok x) → Q1 w h2 → me_E (d + 2) 61 5 [some (.inr (.inr 60)), some (.inl (zl)), none] (mi_back w []) h2 Q) : me_E (d + 2) 61 0 [some (.inr (.inr 60)), some (.inl (zl)), none] [] h Q := mf_seg (mp_galA_0 h d zl) (mi_tab_galA_0) hS (mi_okL_c (trivial) (mi_okL_c (ok_zl) (mi_okL_n (mi_okL_e)))) (mi_okS_e) (mi_al_e) (fun h1 W _ hst => let ⟨_, k1, k2⟩ := kon h1 W; mf_call (M := (3, 1, sb_61)) (M' := (3, 1, sb_58)) rfl rfl rfl rfl (Nat.le_of_ble_eq_true rfl) (Nat.le_of_ble_eq_true rfl) W.1 k1 k2)
set_option maxRecDepth 20000 in
theorem mt_galA {h : sm_H} {d : Nat} {Q : Option mi_V → sm_H → Prop} {zl : Int} (hS : ab_Sh sx_sk h) (ok_zl : mi_in zl) (k0 : (∀ h1, ab_Sh sx_sk h1 → ab_Fr [] h h1 → ∃ Q1, me_E (d + 1) 58 0 (mi_entry 3 [.inr (.inr 60), .inl (zl)]) [] h1 Q1 ∧ ∀ w h2, (∀ x, w = some x → mi_ok x) → Q1 w h2 → me_E (d + 2) 61 5 [some (.inr (.inr 60)), some (.inl (zl)), none] (mi_back w []) h2 Q)) : me_E (d + 2) 61 0 [some (.inr (.inr 60)), some (.inl (zl)), none] [] h Q := ms_galA_0 hS ok_zl (fun h1 W => (k0) h1 W.1 (W.2.2.2.2.2 _ rfl))
set_option maxRecDepth 20000 in
theorem mp_galB_0 (h : sm_H) (d : Nat) (zl zz : Int) : mj_path [(61, (3, 1, sb_61)), (16, (3, 0, sb_16))] sx_sk h 23 [1, 1, 8, 8] (d + 2, 61, 5, [some (.inr (.inr 60)), some (.inl (zl)), none], [.inl (zz)], [], []) = some ((d + 2, 61, 41, [some (.inr (.inr 60)), some (.inl (zl)), some (.inl (zz))], [.inl (((mi_f h 7698) + ((1 : Int))) - ((1 : Int)))], [.inl (7698, (mi_f h 7698) + ((1 : Int)))], []), [zz = ((-1 : Int)), (mi_f h 7698) < ((0 : Int)), -2147483648 ≤ (mi_f h 7698) + ((1 : Int)) ∧ (mi_f h 7698) + ((1 : Int)) ≤ 2147483647, -2147483648 ≤ ((mi_f h 7698) + ((1 : Int))) - ((1 : Int)) ∧ ((mi_f h 7698) + ((1 : Int))) - ((1 : Int)) ≤ 2147483647]) := rfl
theorem mi_tab_galB_0 : ∀ e ∈ ([(61, (3, 1, sb_61)), (16, (3, 0, sb_16))] : mi_T), sc_P e.1 = some e.2 := mi_tb mi_P61 (mi_tb mi_P16 (mi_tb_e))
set_option maxRecDepth 20000 in
theorem ms_galB_0 {h : sm_H} {d : Nat} {Q : Option mi_V → sm_H → Prop} {zl zz : Int} (hS : ab_Sh sx_sk h) (ok_zl : mi_in zl) (ok_zz : mi_in zz) (ho : (zz = ((-1 : Int))) ∧ ((mi_f h 7698) < ((0 : Int))) ∧ (-2147483648 ≤ (mi_f h 7698) + ((1 : Int)) ∧ (mi_f h 7698) + ((1 : Int)) ≤ 2147483647) ∧ (-2147483648 ≤ ((mi_f h 7698) + ((1 : Int))) - ((1 : Int)) ∧ ((mi_f h 7698) + ((1 : Int))) - ((1 : Int)) ≤ 2147483647)) (kon : ∀ h1, me_W [.inl (7698, (mi_f h 7698) + ((1 : Int)))] h h1 → Q (some (.inl (((mi_f h 7698) + ((1 : Int))) - ((1 : Int))))) h1) : me_E (d + 2) 61 5 [some (.inr (.inr 60)), some (.inl (zl)), none] [.inl (zz)] h Q := mf_seg (mp_galB_0 h d zl zz) (mi_tab_galB_0) hS (mi_okL_c (trivial) (mi_okL_c (ok_zl) (mi_okL_n (mi_okL_e)))) (mi_okS_cons (ok_zz) (mi_okS_e)) (mi_al (ho.1) (mi_al (ho.2.1) (mi_al (ho.2.2.1) (mi_al (ho.2.2.2) (mi_al_e))))) (fun h1 W _ hst => mf_ret (M := (3, 1, sb_61)) rfl rfl rfl hst (mi_al_e) (kon h1 W))
set_option maxRecDepth 20000 in
theorem mp_galB_1 (h : sm_H) (d : Nat) (zl zz : Int) : mj_path [(61, (3, 1, sb_61)), (16, (3, 0, sb_16))] sx_sk h 27 [1, 0, 1, 8, 8] (d + 2, 61, 5, [some (.inr (.inr 60)), some (.inl (zl)), none], [.inl (zz)], [], []) = some ((d + 2, 61, 41, [some (.inr (.inr 60)), some (.inl (zl)), some (.inl (zz))], [.inl (((mi_f h 7698) + ((1 : Int))) - ((1 : Int)))], [.inl (7698, (mi_f h 7698) + ((1 : Int)))], []), [zz = ((-1 : Int)), ((0 : Int)) ≤ (mi_f h 7698), ((20 : Int)) ≤ (mi_f h 7698), -2147483648 ≤ (mi_f h 7698) + ((1 : Int)) ∧ (mi_f h 7698) + ((1 : Int)) ≤ 2147483647, -2147483648 ≤ ((mi_f h 7698) + ((1 : Int))) - ((1 : Int)) ∧ ((mi_f h 7698) + ((1 : Int))) - ((1 : Int)) ≤ 2147483647]) := rfl
theorem mi_tab_galB_1 : ∀ e ∈ ([(61, (3, 1, sb_61)), (16, (3, 0, sb_16))] : mi_T), sc_P e.1 = some e.2 := mi_tb mi_P61 (mi_tb mi_P16 (mi_tb_e))
set_option maxRecDepth 20000 in
theorem ms_galB_1 {h : sm_H} {d : Nat} {Q : Option mi_V → sm_H → Prop} {zl zz : Int} (hS : ab_Sh sx_sk h) (ok_zl : mi_in zl) (ok_zz : mi_in zz) (ho : (zz = ((-1 : Int))) ∧ (((0 : Int)) ≤ (mi_f h 7698)) ∧ (((20 : Int)) ≤ (mi_f h 7698)) ∧ (-2147483648 ≤ (mi_f h 7698) + ((1 : Int)) ∧ (mi_f h 7698) + ((1 : Int)) ≤ 2147483647) ∧ (-2147483648 ≤ ((mi_f h 7698) + ((1 : Int))) - ((1 : Int)) ∧ ((mi_f h 7698) + ((1 : Int))) - ((1 : Int)) ≤ 2147483647)) (kon : ∀ h1, me_W [.inl (7698, (mi_f h 7698) + ((1 : Int)))] h h1 → Q (some (.inl (((mi_f h 7698) + ((1 : Int))) - ((1 : Int))))) h1) : me_E (d + 2) 61 5 [some (.inr (.inr 60)), some (.inl (zl)), none] [.inl (zz)] h Q := mf_seg (mp_galB_1 h d zl zz) (mi_tab_galB_1) hS (mi_okL_c (trivial) (mi_okL_c (ok_zl) (mi_okL_n (mi_okL_e)))) (mi_okS_cons (ok_zz) (mi_okS_e)) (mi_al (ho.1) (mi_al (ho.2.1) (mi_al (ho.2.2.1) (mi_al (ho.2.2.2.1) (mi_al (ho.2.2.2.2) (mi_al_e)))))) (fun h1 W _ hst => mf_ret (M := (3, 1, sb_61)) rfl rfl rfl hst (mi_al_e) (kon h1 W))
set_option maxRecDepth 20000 in
theorem mp_galB_2 (h : sm_H) (d : Nat) (zl zz : Int) : mj_path [(61, (3, 1, sb_61)), (16, (3, 0, sb_16))] sx_sk h 31 [1, 0, 0, 8, 8] (d + 2, 61, 5, [some (.inr (.inr 60)), some (.inl (zl)), none], [.inl (zz)], [], []) = some ((d + 2, 61, 41, [some (.inr (.inr 60)), some (.inl (zl)), some (.inl (zz))], [.inl (((mi_f h 7698) + ((1 : Int))) - ((1 : Int)))], [.inl (7698, (mi_f h 7698) + ((1 : Int))), .inr (.inr (.inl (75, Int.toNat (mi_f h 7698), zl)))], []), [zz = ((-1 : Int)), ((0 : Int)) ≤ (mi_f h 7698), (mi_f h 7698) < ((20 : Int)), 0 ≤ (mi_f h 7698) ∧ (mi_f h 7698) < 20, -2147483648 ≤ (mi_f h 7698) + ((1 : Int)) ∧ (mi_f h 7698) + ((1 : Int)) ≤ 2147483647, -2147483648 ≤ ((mi_f h 7698) + ((1 : Int))) - ((1 : Int)) ∧ ((mi_f h 7698) + ((1 : Int))) - ((1 : Int)) ≤ 2147483647]) := rfl
theorem mi_tab_galB_2 : ∀ e ∈ ([(61, (3, 1, sb_61)), (16, (3, 0, sb_16))] : mi_T), sc_P e.1 = some e.2 := mi_tb mi_P61 (mi_tb mi_P16 (mi_tb_e))
set_option maxRecDepth 20000 in
theorem ms_galB_2 {h : sm_H} {d : Nat} {Q : Option mi_V → sm_H → Prop} {zl zz : Int} (hS : ab_Sh sx_sk h) (ok_zl : mi_in zl) (ok_zz : mi_in zz) (ho : (zz = ((-1 : Int))) ∧ (((0 : Int)) ≤ (mi_f h 7698)) ∧ ((mi_f h 7698) < ((20 : Int))) ∧ (0 ≤ (mi_f h 7698) ∧ (mi_f h 7698) < 20) ∧ (-2147483648 ≤ (mi_f h 7698) + ((1 : Int)) ∧ (mi_f h 7698) + ((1 : Int)) ≤ 2147483647) ∧ (-2147483648 ≤ ((mi_f h 7698) + ((1 : Int))) - ((1 : Int)) ∧ ((mi_f h 7698) + ((1 : Int))) - ((1 : Int)) ≤ 2147483647)) (kon : ∀ h1, me_W [.inl (7698, (mi_f h 7698) + ((1 : Int))), .inr (.inr (.inl (75, Int.toNat (mi_f h 7698), zl)))] h h1 → Q (some (.inl (((mi_f h 7698) + ((1 : Int))) - ((1 : Int))))) h1) : me_E (d + 2) 61 5 [some (.inr (.inr 60)), some (.inl (zl)), none] [.inl (zz)] h Q := mf_seg (mp_galB_2 h d zl zz) (mi_tab_galB_2) hS (mi_okL_c (trivial) (mi_okL_c (ok_zl) (mi_okL_n (mi_okL_e)))) (mi_okS_cons (ok_zz) (mi_okS_e)) (mi_al (ho.1) (mi_al (ho.2.1) (mi_al (ho.2.2.1) (mi_al (ho.2.2.2.1) (mi_al (ho.2.2.2.2.1) (mi_al (ho.2.2.2.2.2) (mi_al_e))))))) (fun h1 W _ hst => mf_ret (M := (3, 1, sb_61)) rfl rfl rfl hst (mi_al_e) (kon h1 W))
set_option maxRecDepth 20000 in
theorem mp_galB_3 (h : sm_H) (d : Nat) (zl zz : Int) : mj_path [(61, (3, 1, sb_61)), (16, (3, 0, sb_16))] sx_sk h 5 [0] (d + 2, 61, 5, [some (.inr (.inr 60)), some (.inl (zl)), none], [.inl (zz)], [], []) = some ((d + 2, 61, 12, [some (.inr (.inr 60)), some (.inl (zl)), some (.inl (zz))], [.inl (zz)], [], []), [zz ≠ ((-1 : Int))]) := rfl
theorem mi_tab_galB_3 : ∀ e ∈ ([(61, (3, 1, sb_61)), (16, (3, 0, sb_16))] : mi_T), sc_P e.1 = some e.2 := mi_tb mi_P61 (mi_tb mi_P16 (mi_tb_e))
set_option maxRecDepth 20000 in
theorem ms_galB_3 {h : sm_H} {d : Nat} {Q : Option mi_V → sm_H → Prop} {zl zz : Int} (hS : ab_Sh sx_sk h) (ok_zl : mi_in zl) (ok_zz : mi_in zz) (ho : (zz ≠ ((-1 : Int)))) (kon : ∀ h1, me_W [] h h1 → Q (some (.inl (zz))) h1) : me_E (d + 2) 61 5 [some (.inr (.inr 60)), some (.inl (zl)), none] [.inl (zz)] h Q := mf_seg (mp_galB_3 h d zl zz) (mi_tab_galB_3) hS (mi_okL_c (trivial) (mi_okL_c (ok_zl) (mi_okL_n (mi_okL_e)))) (mi_okS_cons (ok_zz) (mi_okS_e)) (mi_al (ho) (mi_al_e)) (fun h1 W _ hst => mf_ret (M := (3, 1, sb_61)) rfl rfl rfl hst (mi_al_e) (kon h1 W))
set_option maxRecDepth 20000 in
theorem mt_galB {h : sm_H} {d : Nat} {Q : Option mi_V → sm_H → Prop} {zl zz : Int} (hS : ab_Sh sx_sk h) (ok_zl : mi_in zl) (ok_zz : mi_in zz) (k0 : ((-2147483648) ≤ mi_f h 7698 ∧ mi_f h 7698 ≤ 2147483647) → (zz = ((-1 : Int))) → ((mi_f h 7698) < ((0 : Int))) → ((-2147483648 ≤ (mi_f h 7698) + ((1 : Int)) ∧ (mi_f h 7698) + ((1 : Int)) ≤ 2147483647) ∧ (-2147483648 ≤ ((mi_f h 7698) + ((1 : Int))) - ((1 : Int)) ∧ ((mi_f h 7698) + ((1 : Int))) - ((1 : Int)) ≤ 2147483647)) ∧ (∀ h1, ab_Sh sx_sk h1 → mi_f h1 7698 = (mi_f h 7698) + ((1 : Int)) → ab_Fr [(7698, 7699)] h h1 → Q (some (.inl (((mi_f h 7698) + ((1 : Int))) - ((1 : Int))))) h1)) (k1 : ((-2147483648) ≤ mi_f h 7698 ∧ mi_f h 7698 ≤ 2147483647) → (zz = ((-1 : Int))) → (((0 : Int)) ≤ (mi_f h 7698)) → (((20 : Int)) ≤ (mi_f h 7698)) → ((-2147483648 ≤ (mi_f h 7698) + ((1 : Int)) ∧ (mi_f h 7698) + ((1 : Int)) ≤ 2147483647) ∧ (-2147483648 ≤ ((mi_f h 7698) + ((1 : Int))) - ((1 : Int)) ∧ ((mi_f h 7698) + ((1 : Int))) - ((1 : Int)) ≤ 2147483647)) ∧ (∀ h1, ab_Sh sx_sk h1 → mi_f h1 7698 = (mi_f h 7698) + ((1 : Int)) → ab_Fr [(7698, 7699)] h h1 → Q (some (.inl (((mi_f h 7698) + ((1 : Int))) - ((1 : Int))))) h1)) (k2 : ((-2147483648) ≤ mi_f h 7698 ∧ mi_f h 7698 ≤ 2147483647) → (zz = ((-1 : Int))) → (((0 : Int)) ≤ (mi_f h 7698)) → ((mi_f h 7698) < ((20 : Int))) → ((0 ≤ (mi_f h 7698) ∧ (mi_f h 7698) < 20) ∧ (-2147483648 ≤ (mi_f h 7698) + ((1 : Int)) ∧ (mi_f h 7698) + ((1 : Int)) ≤ 2147483647) ∧ (-2147483648 ≤ ((mi_f h 7698) + ((1 : Int))) - ((1 : Int)) ∧ ((mi_f h 7698) + ((1 : Int))) - ((1 : Int)) ≤ 2147483647)) ∧ (∀ h1, ab_Sh sx_sk h1 → mi_f h1 7698 = (mi_f h 7698) + ((1 : Int)) → (∀ i, mi_a h1 75 i = if i = Int.toNat (mi_f h 7698) then zl else (mi_a h 75 i)) → ab_Fr [(7698, 7699), (9600, 9601)] h h1 → Q (some (.inl (((mi_f h 7698) + ((1 : Int))) - ((1 : Int))))) h1)) (k3 : (zz ≠ ((-1 : Int))) → (∀ h1, ab_Sh sx_sk h1 → ab_Fr [] h h1 → Q (some (.inl (zz))) h1)) : me_E (d + 2) 61 5 [some (.inr (.inr 60)), some (.inl (zl)), none] [.inl (zz)] h Q := Or.elim (mi_em .eq (zz) (((-1 : Int)))) (fun c0 => Or.elim (mi_em .lt ((mi_f h 7698)) (((0 : Int)))) (fun c1 => ms_galB_0 hS ok_zl ok_zz ⟨c0, c1, (k0 (me_fb hS rfl) c0 c1).1.1, (k0 (me_fb hS rfl) c0 c1).1.2⟩ (fun h1 W => (k0 (me_fb hS rfl) c0 c1).2 h1 W.1 (W.2.1 7698) (W.2.2.2.2.2 _ rfl))) (fun c1 => Or.elim (mi_em .ge ((mi_f h 7698)) (((20 : Int)))) (fun c2 => ms_galB_1 hS ok_zl ok_zz ⟨c0, c1, c2, (k1 (me_fb hS rfl) c0 c1 c2).1.1, (k1 (me_fb hS rfl) c0 c1 c2).1.2⟩ (fun h1 W => (k1 (me_fb hS rfl) c0 c1 c2).2 h1 W.1 (W.2.1 7698) (W.2.2.2.2.2 _ rfl))) (fun c2 => ms_galB_2 hS ok_zl ok_zz ⟨c0, c1, c2, (k2 (me_fb hS rfl) c0 c1 c2).1.1, (k2 (me_fb hS rfl) c0 c1 c2).1.2.1, (k2 (me_fb hS rfl) c0 c1 c2).1.2.2⟩ (fun h1 W => (k2 (me_fb hS rfl) c0 c1 c2).2 h1 W.1 (W.2.1 7698) (fun i => W.2.2.1 75 i) (W.2.2.2.2.2 _ rfl))))) (fun c0 => ms_galB_3 hS ok_zl ok_zz (c0) (fun h1 W => (k3 c0) h1 W.1 (W.2.2.2.2.2 _ rfl)))
set_option maxRecDepth 20000 in
theorem mp_gaaA_0 (h : sm_H) (d : Nat) (zf zb zp : Int) : mj_path [(53, (5, 1, sb_53)), (16, (3, 0, sb_16))] sx_sk h 33 [8, 1, 1, 1] (d + 1, 53, 0, [some (.inr (.inr 60)), some (.inl (zf)), some (.inl (zb)), some (.inl (zp)), none], [], [], []) = some ((d + 1, 53, 46, [some (.inr (.inr 60)), some (.inl (zf)), some (.inl (zb)), some (.inl (zp)), some (.inl (mi_f h 7686))], [], [.inl (7686, (mi_f h 7686) + ((1 : Int)))], []), [-2147483648 ≤ (mi_f h 7686) + ((1 : Int)) ∧ (mi_f h 7686) + ((1 : Int)) ≤ 2147483647, (mi_f h 7686) < ((0 : Int)), (mi_f h 7686) < ((0 : Int)), (mi_f h 7686) < ((0 : Int))]) := rfl
theorem mi_tab_gaaA_0 : ∀ e ∈ ([(53, (5, 1, sb_53)), (16, (3, 0, sb_16))] : mi_T), sc_P e.1 = some e.2 := mi_tb mi_P53 (mi_tb mi_P16 (mi_tb_e))
set_option maxRecDepth 20000 in
theorem ms_gaaA_0 {h : sm_H} {d : Nat} {Q : Option mi_V → sm_H → Prop} {zf zb zp : Int} (hS : ab_Sh sx_sk h) (ok_zf : mi_in zf) (ok_zb : mi_in zb) (ok_zp : mi_in zp) (ho : (-2147483648 ≤ (mi_f h 7686) + ((1 : Int)) ∧ (mi_f h 7686) + ((1 : Int)) ≤ 2147483647) ∧ ((mi_f h 7686) < ((0 : Int))) ∧ ((mi_f h 7686) < ((0 : Int))) ∧ ((mi_f h 7686) < ((0 : Int)))) (kon : ∀ h1, me_W [.inl (7686, (mi_f h 7686) + ((1 : Int)))] h h1 → me_E (d + 1) 53 46 [some (.inr (.inr 60)), some (.inl (zf)), some (.inl (zb)), some (.inl (zp)), some (.inl (mi_f h 7686))] [] h1 Q) : me_E (d + 1) 53 0 [some (.inr (.inr 60)), some (.inl (zf)), some (.inl (zb)), some (.inl (zp)), none] [] h Q := mf_seg (mp_gaaA_0 h d zf zb zp) (mi_tab_gaaA_0) hS (mi_okL_c (trivial) (mi_okL_c (ok_zf) (mi_okL_c (ok_zb) (mi_okL_c (ok_zp) (mi_okL_n (mi_okL_e)))))) (mi_okS_e) (mi_al (ho.1) (mi_al (ho.2.1) (mi_al (ho.2.2.1) (mi_al (ho.2.2.2) (mi_al_e))))) (fun h1 W _ hst => kon h1 W)
set_option maxRecDepth 20000 in
theorem mp_gaaA_1 (h : sm_H) (d : Nat) (zf zb zp : Int) : mj_path [(53, (5, 1, sb_53)), (16, (3, 0, sb_16))] sx_sk h 45 [8, 0, 1, 0, 1, 0, 1] (d + 1, 53, 0, [some (.inr (.inr 60)), some (.inl (zf)), some (.inl (zb)), some (.inl (zp)), none], [], [], []) = some ((d + 1, 53, 46, [some (.inr (.inr 60)), some (.inl (zf)), some (.inl (zb)), some (.inl (zp)), some (.inl (mi_f h 7686))], [], [.inl (7686, (mi_f h 7686) + ((1 : Int)))], []), [-2147483648 ≤ (mi_f h 7686) + ((1 : Int)) ∧ (mi_f h 7686) + ((1 : Int)) ≤ 2147483647, ((0 : Int)) ≤ (mi_f h 7686), ((66 : Int)) ≤ (mi_f h 7686), ((0 : Int)) ≤ (mi_f h 7686), ((66 : Int)) ≤ (mi_f h 7686), ((0 : Int)) ≤ (mi_f h 7686), ((66 : Int)) ≤ (mi_f h 7686)]) := rfl
theorem mi_tab_gaaA_1 : ∀ e ∈ ([(53, (5, 1, sb_53)), (16, (3, 0, sb_16))] : mi_T), sc_P e.1 = some e.2 := mi_tb mi_P53 (mi_tb mi_P16 (mi_tb_e))
set_option maxRecDepth 20000 in
theorem ms_gaaA_1 {h : sm_H} {d : Nat} {Q : Option mi_V → sm_H → Prop} {zf zb zp : Int} (hS : ab_Sh sx_sk h) (ok_zf : mi_in zf) (ok_zb : mi_in zb) (ok_zp : mi_in zp) (ho : (-2147483648 ≤ (mi_f h 7686) + ((1 : Int)) ∧ (mi_f h 7686) + ((1 : Int)) ≤ 2147483647) ∧ (((0 : Int)) ≤ (mi_f h 7686)) ∧ (((66 : Int)) ≤ (mi_f h 7686)) ∧ (((0 : Int)) ≤ (mi_f h 7686)) ∧ (((66 : Int)) ≤ (mi_f h 7686)) ∧ (((0 : Int)) ≤ (mi_f h 7686)) ∧ (((66 : Int)) ≤ (mi_f h 7686))) (kon : ∀ h1, me_W [.inl (7686, (mi_f h 7686) + ((1 : Int)))] h h1 → me_E (d + 1) 53 46 [some (.inr (.inr 60)), some (.inl (zf)), some (.inl (zb)), some (.inl (zp)), some (.inl (mi_f h 7686))] [] h1 Q) : me_E (d + 1) 53 0 [some (.inr (.inr 60)), some (.inl (zf)), some (.inl (zb)), some (.inl (zp)), none] [] h Q := mf_seg (mp_gaaA_1 h d zf zb zp) (mi_tab_gaaA_1) hS (mi_okL_c (trivial) (mi_okL_c (ok_zf) (mi_okL_c (ok_zb) (mi_okL_c (ok_zp) (mi_okL_n (mi_okL_e)))))) (mi_okS_e) (mi_al (ho.1) (mi_al (ho.2.1) (mi_al (ho.2.2.1) (mi_al (ho.2.2.2.1) (mi_al (ho.2.2.2.2.1) (mi_al (ho.2.2.2.2.2.1) (mi_al (ho.2.2.2.2.2.2) (mi_al_e)))))))) (fun h1 W _ hst => kon h1 W)
set_option maxRecDepth 20000 in
theorem mp_gaaA_2 (h : sm_H) (d : Nat) (zf zb zp : Int) : mj_path [(53, (5, 1, sb_53)), (16, (3, 0, sb_16))] sx_sk h 57 [8, 0, 0, 0, 0, 0, 0] (d + 1, 53, 0, [some (.inr (.inr 60)), some (.inl (zf)), some (.inl (zb)), some (.inl (zp)), none], [], [], []) = some ((d + 1, 53, 46, [some (.inr (.inr 60)), some (.inl (zf)), some (.inl (zb)), some (.inl (zp)), some (.inl (mi_f h 7686))], [], [.inr (.inr (.inl (67, Int.toNat (mi_f h 7686), zp))), .inr (.inr (.inl (66, Int.toNat (mi_f h 7686), (-1 : Int)))), .inr (.inr (.inl (65, Int.toNat (mi_f h 7686), (-1 : Int)))), .inl (7686, (mi_f h 7686) + ((1 : Int)))], []), [-2147483648 ≤ (mi_f h 7686) + ((1 : Int)) ∧ (mi_f h 7686) + ((1 : Int)) ≤ 2147483647, ((0 : Int)) ≤ (mi_f h 7686), (mi_f h 7686) < ((66 : Int)), 0 ≤ (mi_f h 7686) ∧ (mi_f h 7686) < 66, ((0 : Int)) ≤ (mi_f h 7686), (mi_f h 7686) < ((66 : Int)), 0 ≤ (mi_f h 7686) ∧ (mi_f h 7686) < 66, ((0 : Int)) ≤ (mi_f h 7686), (mi_f h 7686) < ((66 : Int)), 0 ≤ (mi_f h 7686) ∧ (mi_f h 7686) < 66]) := rfl
theorem mi_tab_gaaA_2 : ∀ e ∈ ([(53, (5, 1, sb_53)), (16, (3, 0, sb_16))] : mi_T), sc_P e.1 = some e.2 := mi_tb mi_P53 (mi_tb mi_P16 (mi_tb_e))
set_option maxRecDepth 20000 in
theorem ms_gaaA_2 {h : sm_H} {d : Nat} {Q : Option mi_V → sm_H → Prop} {zf zb zp : Int} (hS : ab_Sh sx_sk h) (ok_zf : mi_in zf) (ok_zb : mi_in zb) (ok_zp : mi_in zp) (ho : (-2147483648 ≤ (mi_f h 7686) + ((1 : Int)) ∧ (mi_f h 7686) + ((1 : Int)) ≤ 2147483647) ∧ (((0 : Int)) ≤ (mi_f h 7686)) ∧ ((mi_f h 7686) < ((66 : Int))) ∧ (0 ≤ (mi_f h 7686) ∧ (mi_f h 7686) < 66) ∧ (((0 : Int)) ≤ (mi_f h 7686)) ∧ ((mi_f h 7686) < ((66 : Int))) ∧ (0 ≤ (mi_f h 7686) ∧ (mi_f h 7686) < 66) ∧ (((0 : Int)) ≤ (mi_f h 7686)) ∧ ((mi_f h 7686) < ((66 : Int))) ∧ (0 ≤ (mi_f h 7686) ∧ (mi_f h 7686) < 66)) (kon : ∀ h1, me_W [.inr (.inr (.inl (67, Int.toNat (mi_f h 7686), zp))), .inr (.inr (.inl (66, Int.toNat (mi_f h 7686), (-1 : Int)))), .inr (.inr (.inl (65, Int.toNat (mi_f h 7686), (-1 : Int)))), .inl (7686, (mi_f h 7686) + ((1 : Int)))] h h1 → me_E (d + 1) 53 46 [some (.inr (.inr 60)), some (.inl (zf)), some (.inl (zb)), some (.inl (zp)), some (.inl (mi_f h 7686))] [] h1 Q) : me_E (d + 1) 53 0 [some (.inr (.inr 60)), some (.inl (zf)), some (.inl (zb)), some (.inl (zp)), none] [] h Q := mf_seg (mp_gaaA_2 h d zf zb zp) (mi_tab_gaaA_2) hS (mi_okL_c (trivial) (mi_okL_c (ok_zf) (mi_okL_c (ok_zb) (mi_okL_c (ok_zp) (mi_okL_n (mi_okL_e)))))) (mi_okS_e) (mi_al (ho.1) (mi_al (ho.2.1) (mi_al (ho.2.2.1) (mi_al (ho.2.2.2.1) (mi_al (ho.2.2.2.2.1) (mi_al (ho.2.2.2.2.2.1) (mi_al (ho.2.2.2.2.2.2.1) (mi_al (ho.2.2.2.2.2.2.2.1) (mi_al (ho.2.2.2.2.2.2.2.2.1) (mi_al (ho.2.2.2.2.2.2.2.2.2) (mi_al_e))))))))))) (fun h1 W _ hst => kon h1 W)
set_option maxRecDepth 20000 in
theorem mt_gaaA {h : sm_H} {d : Nat} {Q : Option mi_V → sm_H → Prop} {zf zb zp : Int} (hS : ab_Sh sx_sk h) (ok_zf : mi_in zf) (ok_zb : mi_in zb) (ok_zp : mi_in zp) (k0 : ((-2147483648) ≤ mi_f h 7686 ∧ mi_f h 7686 ≤ 2147483647) → ((mi_f h 7686) < ((0 : Int))) → ((-2147483648 ≤ (mi_f h 7686) + ((1 : Int)) ∧ (mi_f h 7686) + ((1 : Int)) ≤ 2147483647)) ∧ (∀ h1, ab_Sh sx_sk h1 → mi_f h1 7686 = (mi_f h 7686) + ((1 : Int)) → ab_Fr [(7686, 7687)] h h1 → me_E (d + 1) 53 46 [some (.inr (.inr 60)), some (.inl (zf)), some (.inl (zb)), some (.inl (zp)), some (.inl (mi_f h 7686))] [] h1 Q)) (k1 : ((-2147483648) ≤ mi_f h 7686 ∧ mi_f h 7686 ≤ 2147483647) → (((0 : Int)) ≤ (mi_f h 7686)) → (((66 : Int)) ≤ (mi_f h 7686)) → ((-2147483648 ≤ (mi_f h 7686) + ((1 : Int)) ∧ (mi_f h 7686) + ((1 : Int)) ≤ 2147483647)) ∧ (∀ h1, ab_Sh sx_sk h1 → mi_f h1 7686 = (mi_f h 7686) + ((1 : Int)) → ab_Fr [(7686, 7687)] h h1 → me_E (d + 1) 53 46 [some (.inr (.inr 60)), some (.inl (zf)), some (.inl (zb)), some (.inl (zp)), some (.inl (mi_f h 7686))] [] h1 Q)) (k2 : ((-2147483648) ≤ mi_f h 7686 ∧ mi_f h 7686 ≤ 2147483647) → (((0 : Int)) ≤ (mi_f h 7686)) → ((mi_f h 7686) < ((66 : Int))) → ((-2147483648 ≤ (mi_f h 7686) + ((1 : Int)) ∧ (mi_f h 7686) + ((1 : Int)) ≤ 2147483647) ∧ (0 ≤ (mi_f h 7686) ∧ (mi_f h 7686) < 66)) ∧ (∀ h1, ab_Sh sx_sk h1 → mi_f h1 7686 = (mi_f h 7686) + ((1 : Int)) → (∀ i, mi_a h1 65 i = if i = Int.toNat (mi_f h 7686) then (-1 : Int) else (mi_a h 65 i)) → (∀ i, mi_a h1 66 i = if i = Int.toNat (mi_f h 7686) then (-1 : Int) else (mi_a h 66 i)) → (∀ i, mi_a h1 67 i = if i = Int.toNat (mi_f h 7686) then zp else (mi_a h 67 i)) → ab_Fr [(7686, 7687), (8320, 8321), (8448, 8449), (8576, 8577)] h h1 → me_E (d + 1) 53 46 [some (.inr (.inr 60)), some (.inl (zf)), some (.inl (zb)), some (.inl (zp)), some (.inl (mi_f h 7686))] [] h1 Q)) : me_E (d + 1) 53 0 [some (.inr (.inr 60)), some (.inl (zf)), some (.inl (zb)), some (.inl (zp)), none] [] h Q := Or.elim (mi_em .lt ((mi_f h 7686)) (((0 : Int)))) (fun c0 => ms_gaaA_0 hS ok_zf ok_zb ok_zp ⟨(k0 (me_fb hS rfl) c0).1, c0, c0, c0⟩ (fun h1 W => (k0 (me_fb hS rfl) c0).2 h1 W.1 (W.2.1 7686) (W.2.2.2.2.2 _ rfl))) (fun c0 => Or.elim (mi_em .ge ((mi_f h 7686)) (((66 : Int)))) (fun c1 => ms_gaaA_1 hS ok_zf ok_zb ok_zp ⟨(k1 (me_fb hS rfl) c0 c1).1, c0, c1, c0, c1, c0, c1⟩ (fun h1 W => (k1 (me_fb hS rfl) c0 c1).2 h1 W.1 (W.2.1 7686) (W.2.2.2.2.2 _ rfl))) (fun c1 => ms_gaaA_2 hS ok_zf ok_zb ok_zp ⟨(k2 (me_fb hS rfl) c0 c1).1.1, c0, c1, (k2 (me_fb hS rfl) c0 c1).1.2, c0, c1, (k2 (me_fb hS rfl) c0 c1).1.2, c0, c1, (k2 (me_fb hS rfl) c0 c1).1.2⟩ (fun h1 W => (k2 (me_fb hS rfl) c0 c1).2 h1 W.1 (W.2.1 7686) (fun i => W.2.2.1 65 i) (fun i => W.2.2.1 66 i) (fun i => W.2.2.1 67 i) (W.2.2.2.2.2 _ rfl))))
set_option maxRecDepth 20000 in
theorem mp_gaaB_0 (h : sm_H) (d : Nat) (zf zb zp za : Int) : mj_path [(53, (5, 1, sb_53)), (16, (3, 0, sb_16)), (49, (2, 1, sb_49))] sx_sk h 17 [1, 8, 1] (d + 1, 53, 46, [some (.inr (.inr 60)), some (.inl (zf)), some (.inl (zb)), some (.inl (zp)), some (.inl (za))], [], [], []) = some ((d + 1, 53, 64, [some (.inr (.inr 60)), some (.inl (zf)), some (.inl (zb)), some (.inl (zp)), some (.inl (za))], [], [], []), [zf < ((0 : Int)), -2147483648 ≤ ((0 : Int)) + ((1 : Int)) ∧ ((0 : Int)) + ((1 : Int)) ≤ 2147483647, zf < ((0 : Int))]) := rfl
theorem mi_tab_gaaB_0 : ∀ e ∈ ([(53, (5, 1, sb_53)), (16, (3, 0, sb_16)), (49, (2, 1, sb_49))] : mi_T), sc_P e.1 = some e.2 := mi_tb mi_P53 (mi_tb mi_P16 (mi_tb mi_P49 (mi_tb_e)))
set_option maxRecDepth 20000 in
theorem ms_gaaB_0 {h : sm_H} {d : Nat} {Q : Option mi_V → sm_H → Prop} {zf zb zp za : Int} (hS : ab_Sh sx_sk h) (ok_zf : mi_in zf) (ok_zb : mi_in zb) (ok_zp : mi_in zp) (ok_za : mi_in za) (ho : (zf < ((0 : Int))) ∧ (-2147483648 ≤ ((0 : Int)) + ((1 : Int)) ∧ ((0 : Int)) + ((1 : Int)) ≤ 2147483647) ∧ (zf < ((0 : Int)))) (kon : ∀ h1, me_W [] h h1 → me_E (d + 1) 53 64 [some (.inr (.inr 60)), some (.inl (zf)), some (.inl (zb)), some (.inl (zp)), some (.inl (za))] [] h1 Q) : me_E (d + 1) 53 46 [some (.inr (.inr 60)), some (.inl (zf)), some (.inl (zb)), some (.inl (zp)), some (.inl (za))] [] h Q := mf_seg (mp_gaaB_0 h d zf zb zp za) (mi_tab_gaaB_0) hS (mi_okL_c (trivial) (mi_okL_c (ok_zf) (mi_okL_c (ok_zb) (mi_okL_c (ok_zp) (mi_okL_c (ok_za) (mi_okL_e)))))) (mi_okS_e) (mi_al (ho.1) (mi_al (ho.2.1) (mi_al (ho.2.2) (mi_al_e)))) (fun h1 W _ hst => kon h1 W)
set_option maxRecDepth 20000 in
theorem mp_gaaB_1 (h : sm_H) (d : Nat) (zf zb zp za : Int) : mj_path [(53, (5, 1, sb_53)), (16, (3, 0, sb_16)), (49, (2, 1, sb_49))] sx_sk h 25 [0, 1, 8, 0, 1] (d + 1, 53, 46, [some (.inr (.inr 60)), some (.inl (zf)), some (.inl (zb)), some (.inl (zp)), some (.inl (za))], [], [], []) = some ((d + 1, 53, 64, [some (.inr (.inr 60)), some (.inl (zf)), some (.inl (zb)), some (.inl (zp)), some (.inl (za))], [], [], []), [((0 : Int)) ≤ zf, ((70 : Int)) ≤ zf, -2147483648 ≤ ((0 : Int)) + ((1 : Int)) ∧ ((0 : Int)) + ((1 : Int)) ≤ 2147483647, ((0 : Int)) ≤ zf, ((70 : Int)) ≤ zf]) := rfl
theorem mi_tab_gaaB_1 : ∀ e ∈ ([(53, (5, 1, sb_53)), (16, (3, 0, sb_16)), (49, (2, 1, sb_49))] : mi_T), sc_P e.1 = some e.2 := mi_tb mi_P53 (mi_tb mi_P16 (mi_tb mi_P49 (mi_tb_e)))
set_option maxRecDepth 20000 in
theorem ms_gaaB_1 {h : sm_H} {d : Nat} {Q : Option mi_V → sm_H → Prop} {zf zb zp za : Int} (hS : ab_Sh sx_sk h) (ok_zf : mi_in zf) (ok_zb : mi_in zb) (ok_zp : mi_in zp) (ok_za : mi_in za) (ho : (((0 : Int)) ≤ zf) ∧ (((70 : Int)) ≤ zf) ∧ (-2147483648 ≤ ((0 : Int)) + ((1 : Int)) ∧ ((0 : Int)) + ((1 : Int)) ≤ 2147483647) ∧ (((0 : Int)) ≤ zf) ∧ (((70 : Int)) ≤ zf)) (kon : ∀ h1, me_W [] h h1 → me_E (d + 1) 53 64 [some (.inr (.inr 60)), some (.inl (zf)), some (.inl (zb)), some (.inl (zp)), some (.inl (za))] [] h1 Q) : me_E (d + 1) 53 46 [some (.inr (.inr 60)), some (.inl (zf)), some (.inl (zb)), some (.inl (zp)), some (.inl (za))] [] h Q := mf_seg (mp_gaaB_1 h d zf zb zp za) (mi_tab_gaaB_1) hS (mi_okL_c (trivial) (mi_okL_c (ok_zf) (mi_okL_c (ok_zb) (mi_okL_c (ok_zp) (mi_okL_c (ok_za) (mi_okL_e)))))) (mi_okS_e) (mi_al (ho.1) (mi_al (ho.2.1) (mi_al (ho.2.2.1) (mi_al (ho.2.2.2.1) (mi_al (ho.2.2.2.2) (mi_al_e)))))) (fun h1 W _ hst => kon h1 W)
set_option maxRecDepth 20000 in
theorem mp_gaaB_2 (h : sm_H) (d : Nat) (zf zb zp za : Int) : mj_path [(53, (5, 1, sb_53)), (16, (3, 0, sb_16)), (49, (2, 1, sb_49))] sx_sk h 32 [0, 0, 8, 0, 0] (d + 1, 53, 46, [some (.inr (.inr 60)), some (.inl (zf)), some (.inl (zb)), some (.inl (zp)), some (.inl (za))], [], [], []) = some ((d + 1, 53, 64, [some (.inr (.inr 60)), some (.inl (zf)), some (.inl (zb)), some (.inl (zp)), some (.inl (za))], [], [.inr (.inr (.inl (64, Int.toNat zf, (mi_a h 64 (Int.toNat zf)) + ((1 : Int)))))], []), [((0 : Int)) ≤ zf, zf < ((70 : Int)), 0 ≤ zf ∧ zf < 70, -2147483648 ≤ (mi_a h 64 (Int.toNat zf)) + ((1 : Int)) ∧ (mi_a h 64 (Int.toNat zf)) + ((1 : Int)) ≤ 2147483647, ((0 : Int)) ≤ zf, zf < ((70 : Int)), 0 ≤ zf ∧ zf < 70]) := rfl
theorem mi_tab_gaaB_2 : ∀ e ∈ ([(53, (5, 1, sb_53)), (16, (3, 0, sb_16)), (49, (2, 1, sb_49))] : mi_T), sc_P e.1 = some e.2 := mi_tb mi_P53 (mi_tb mi_P16 (mi_tb mi_P49 (mi_tb_e)))
set_option maxRecDepth 20000 in
theorem ms_gaaB_2 {h : sm_H} {d : Nat} {Q : Option mi_V → sm_H → Prop} {zf zb zp za : Int} (hS : ab_Sh sx_sk h) (ok_zf : mi_in zf) (ok_zb : mi_in zb) (ok_zp : mi_in zp) (ok_za : mi_in za) (ho : (((0 : Int)) ≤ zf) ∧ (zf < ((70 : Int))) ∧ (0 ≤ zf ∧ zf < 70) ∧ (-2147483648 ≤ (mi_a h 64 (Int.toNat zf)) + ((1 : Int)) ∧ (mi_a h 64 (Int.toNat zf)) + ((1 : Int)) ≤ 2147483647) ∧ (((0 : Int)) ≤ zf) ∧ (zf < ((70 : Int))) ∧ (0 ≤ zf ∧ zf < 70)) (kon : ∀ h1, me_W [.inr (.inr (.inl (64, Int.toNat zf, (mi_a h 64 (Int.toNat zf)) + ((1 : Int)))))] h h1 → me_E (d + 1) 53 64 [some (.inr (.inr 60)), some (.inl (zf)), some (.inl (zb)), some (.inl (zp)), some (.inl (za))] [] h1 Q) : me_E (d + 1) 53 46 [some (.inr (.inr 60)), some (.inl (zf)), some (.inl (zb)), some (.inl (zp)), some (.inl (za))] [] h Q := mf_seg (mp_gaaB_2 h d zf zb zp za) (mi_tab_gaaB_2) hS (mi_okL_c (trivial) (mi_okL_c (ok_zf) (mi_okL_c (ok_zb) (mi_okL_c (ok_zp) (mi_okL_c (ok_za) (mi_okL_e)))))) (mi_okS_e) (mi_al (ho.1) (mi_al (ho.2.1) (mi_al (ho.2.2.1) (mi_al (ho.2.2.2.1) (mi_al (ho.2.2.2.2.1) (mi_al (ho.2.2.2.2.2.1) (mi_al (ho.2.2.2.2.2.2) (mi_al_e)))))))) (fun h1 W _ hst => kon h1 W)
set_option maxRecDepth 20000 in
theorem mt_gaaB {h : sm_H} {d : Nat} {Q : Option mi_V → sm_H → Prop} {zf zb zp za : Int} (hS : ab_Sh sx_sk h) (ok_zf : mi_in zf) (ok_zb : mi_in zb) (ok_zp : mi_in zp) (ok_za : mi_in za) (k0 : (zf < ((0 : Int))) → ((-2147483648 ≤ ((0 : Int)) + ((1 : Int)) ∧ ((0 : Int)) + ((1 : Int)) ≤ 2147483647)) ∧ (∀ h1, ab_Sh sx_sk h1 → ab_Fr [] h h1 → me_E (d + 1) 53 64 [some (.inr (.inr 60)), some (.inl (zf)), some (.inl (zb)), some (.inl (zp)), some (.inl (za))] [] h1 Q)) (k1 : (((0 : Int)) ≤ zf) → (((70 : Int)) ≤ zf) → ((-2147483648 ≤ ((0 : Int)) + ((1 : Int)) ∧ ((0 : Int)) + ((1 : Int)) ≤ 2147483647)) ∧ (∀ h1, ab_Sh sx_sk h1 → ab_Fr [] h h1 → me_E (d + 1) 53 64 [some (.inr (.inr 60)), some (.inl (zf)), some (.inl (zb)), some (.inl (zp)), some (.inl (za))] [] h1 Q)) (k2 : (((0 : Int)) ≤ zf) → (zf < ((70 : Int))) → ((0 ≤ zf ∧ zf < 70) ∧ (-2147483648 ≤ (mi_a h 64 (Int.toNat zf)) + ((1 : Int)) ∧ (mi_a h 64 (Int.toNat zf)) + ((1 : Int)) ≤ 2147483647)) ∧ (∀ h1, ab_Sh sx_sk h1 → (∀ i, mi_a h1 64 i = if i = Int.toNat zf then (mi_a h 64 (Int.toNat zf)) + ((1 : Int)) else (mi_a h 64 i)) → ab_Fr [(8192, 8193)] h h1 → me_E (d + 1) 53 64 [some (.inr (.inr 60)), some (.inl (zf)), some (.inl (zb)), some (.inl (zp)), some (.inl (za))] [] h1 Q)) : me_E (d + 1) 53 46 [some (.inr (.inr 60)), some (.inl (zf)), some (.inl (zb)), some (.inl (zp)), some (.inl (za))] [] h Q := Or.elim (mi_em .lt (zf) (((0 : Int)))) (fun c0 => ms_gaaB_0 hS ok_zf ok_zb ok_zp ok_za ⟨c0, (k0 c0).1, c0⟩ (fun h1 W => (k0 c0).2 h1 W.1 (W.2.2.2.2.2 _ rfl))) (fun c0 => Or.elim (mi_em .ge (zf) (((70 : Int)))) (fun c1 => ms_gaaB_1 hS ok_zf ok_zb ok_zp ok_za ⟨c0, c1, (k1 c0 c1).1, c0, c1⟩ (fun h1 W => (k1 c0 c1).2 h1 W.1 (W.2.2.2.2.2 _ rfl))) (fun c1 => ms_gaaB_2 hS ok_zf ok_zb ok_zp ok_za ⟨c0, c1, (k2 c0 c1).1.1, (k2 c0 c1).1.2, c0, c1, (k2 c0 c1).1.1⟩ (fun h1 W => (k2 c0 c1).2 h1 W.1 (fun i => W.2.2.1 64 i) (W.2.2.2.2.2 _ rfl))))
set_option maxRecDepth 20000 in
theorem mp_gaaC_0 (h : sm_H) (d : Nat) (zf zb zp za : Int) : mj_path [(53, (5, 1, sb_53)), (16, (3, 0, sb_16))] sx_sk h 12 [1, 1] (d + 1, 53, 64, [some (.inr (.inr 60)), some (.inl (zf)), some (.inl (zb)), some (.inl (zp)), some (.inl (za))], [], [], []) = some ((d + 1, 53, 94, [some (.inr (.inr 60)), some (.inl (zf)), some (.inl (zb)), some (.inl (zp)), some (.inl (za))], [.inl (za)], [], []), [zb ≠ ((-1 : Int)), zb < ((0 : Int))]) := rfl
theorem mi_tab_gaaC_0 : ∀ e ∈ ([(53, (5, 1, sb_53)), (16, (3, 0, sb_16))] : mi_T), sc_P e.1 = some e.2 := mi_tb mi_P53 (mi_tb mi_P16 (mi_tb_e))
set_option maxRecDepth 20000 in
theorem ms_gaaC_0 {h : sm_H} {d : Nat} {Q : Option mi_V → sm_H → Prop} {zf zb zp za : Int} (hS : ab_Sh sx_sk h) (ok_zf : mi_in zf) (ok_zb : mi_in zb) (ok_zp : mi_in zp) (ok_za : mi_in za) (ho : (zb ≠ ((-1 : Int))) ∧ (zb < ((0 : Int)))) (kon : ∀ h1, me_W [] h h1 → Q (some (.inl (za))) h1) : me_E (d + 1) 53 64 [some (.inr (.inr 60)), some (.inl (zf)), some (.inl (zb)), some (.inl (zp)), some (.inl (za))] [] h Q := mf_seg (mp_gaaC_0 h d zf zb zp za) (mi_tab_gaaC_0) hS (mi_okL_c (trivial) (mi_okL_c (ok_zf) (mi_okL_c (ok_zb) (mi_okL_c (ok_zp) (mi_okL_c (ok_za) (mi_okL_e)))))) (mi_okS_e) (mi_al (ho.1) (mi_al (ho.2) (mi_al_e))) (fun h1 W _ hst => mf_ret (M := (5, 1, sb_53)) rfl rfl rfl hst (mi_al_e) (kon h1 W))
set_option maxRecDepth 20000 in
theorem mp_gaaC_1 (h : sm_H) (d : Nat) (zf zb zp za : Int) : mj_path [(53, (5, 1, sb_53)), (16, (3, 0, sb_16))] sx_sk h 16 [1, 0, 1] (d + 1, 53, 64, [some (.inr (.inr 60)), some (.inl (zf)), some (.inl (zb)), some (.inl (zp)), some (.inl (za))], [], [], []) = some ((d + 1, 53, 94, [some (.inr (.inr 60)), some (.inl (zf)), some (.inl (zb)), some (.inl (zp)), some (.inl (za))], [.inl (za)], [], []), [zb ≠ ((-1 : Int)), ((0 : Int)) ≤ zb, ((66 : Int)) ≤ zb]) := rfl
theorem mi_tab_gaaC_1 : ∀ e ∈ ([(53, (5, 1, sb_53)), (16, (3, 0, sb_16))] : mi_T), sc_P e.1 = some e.2 := mi_tb mi_P53 (mi_tb mi_P16 (mi_tb_e))
set_option maxRecDepth 20000 in
theorem ms_gaaC_1 {h : sm_H} {d : Nat} {Q : Option mi_V → sm_H → Prop} {zf zb zp za : Int} (hS : ab_Sh sx_sk h) (ok_zf : mi_in zf) (ok_zb : mi_in zb) (ok_zp : mi_in zp) (ok_za : mi_in za) (ho : (zb ≠ ((-1 : Int))) ∧ (((0 : Int)) ≤ zb) ∧ (((66 : Int)) ≤ zb)) (kon : ∀ h1, me_W [] h h1 → Q (some (.inl (za))) h1) : me_E (d + 1) 53 64 [some (.inr (.inr 60)), some (.inl (zf)), some (.inl (zb)), some (.inl (zp)), some (.inl (za))] [] h Q := mf_seg (mp_gaaC_1 h d zf zb zp za) (mi_tab_gaaC_1) hS (mi_okL_c (trivial) (mi_okL_c (ok_zf) (mi_okL_c (ok_zb) (mi_okL_c (ok_zp) (mi_okL_c (ok_za) (mi_okL_e)))))) (mi_okS_e) (mi_al (ho.1) (mi_al (ho.2.1) (mi_al (ho.2.2) (mi_al_e)))) (fun h1 W _ hst => mf_ret (M := (5, 1, sb_53)) rfl rfl rfl hst (mi_al_e) (kon h1 W))
set_option maxRecDepth 20000 in
theorem mp_gaaC_2 (h : sm_H) (d : Nat) (zf zb zp za : Int) : mj_path [(53, (5, 1, sb_53)), (16, (3, 0, sb_16))] sx_sk h 20 [1, 0, 0] (d + 1, 53, 64, [some (.inr (.inr 60)), some (.inl (zf)), some (.inl (zb)), some (.inl (zp)), some (.inl (za))], [], [], []) = some ((d + 1, 53, 94, [some (.inr (.inr 60)), some (.inl (zf)), some (.inl (zb)), some (.inl (zp)), some (.inl (za))], [.inl (za)], [.inr (.inr (.inl (66, Int.toNat zb, za)))], []), [zb ≠ ((-1 : Int)), ((0 : Int)) ≤ zb, zb < ((66 : Int)), 0 ≤ zb ∧ zb < 66]) := rfl
theorem mi_tab_gaaC_2 : ∀ e ∈ ([(53, (5, 1, sb_53)), (16, (3, 0, sb_16))] : mi_T), sc_P e.1 = some e.2 := mi_tb mi_P53 (mi_tb mi_P16 (mi_tb_e))
set_option maxRecDepth 20000 in
theorem ms_gaaC_2 {h : sm_H} {d : Nat} {Q : Option mi_V → sm_H → Prop} {zf zb zp za : Int} (hS : ab_Sh sx_sk h) (ok_zf : mi_in zf) (ok_zb : mi_in zb) (ok_zp : mi_in zp) (ok_za : mi_in za) (ho : (zb ≠ ((-1 : Int))) ∧ (((0 : Int)) ≤ zb) ∧ (zb < ((66 : Int))) ∧ (0 ≤ zb ∧ zb < 66)) (kon : ∀ h1, me_W [.inr (.inr (.inl (66, Int.toNat zb, za)))] h h1 → Q (some (.inl (za))) h1) : me_E (d + 1) 53 64 [some (.inr (.inr 60)), some (.inl (zf)), some (.inl (zb)), some (.inl (zp)), some (.inl (za))] [] h Q := mf_seg (mp_gaaC_2 h d zf zb zp za) (mi_tab_gaaC_2) hS (mi_okL_c (trivial) (mi_okL_c (ok_zf) (mi_okL_c (ok_zb) (mi_okL_c (ok_zp) (mi_okL_c (ok_za) (mi_okL_e)))))) (mi_okS_e) (mi_al (ho.1) (mi_al (ho.2.1) (mi_al (ho.2.2.1) (mi_al (ho.2.2.2) (mi_al_e))))) (fun h1 W _ hst => mf_ret (M := (5, 1, sb_53)) rfl rfl rfl hst (mi_al_e) (kon h1 W))
set_option maxRecDepth 20000 in
theorem mp_gaaC_3 (h : sm_H) (d : Nat) (zf zb zp za : Int) : mj_path [(53, (5, 1, sb_53)), (16, (3, 0, sb_16))] sx_sk h 13 [0, 1] (d + 1, 53, 64, [some (.inr (.inr 60)), some (.inl (zf)), some (.inl (zb)), some (.inl (zp)), some (.inl (za))], [], [], []) = some ((d + 1, 53, 94, [some (.inr (.inr 60)), some (.inl (zf)), some (.inl (zb)), some (.inl (zp)), some (.inl (za))], [.inl (za)], [], []), [zb = ((-1 : Int)), zf < ((0 : Int))]) := rfl
theorem mi_tab_gaaC_3 : ∀ e ∈ ([(53, (5, 1, sb_53)), (16, (3, 0, sb_16))] : mi_T), sc_P e.1 = some e.2 := mi_tb mi_P53 (mi_tb mi_P16 (mi_tb_e))
set_option maxRecDepth 20000 in
theorem ms_gaaC_3 {h : sm_H} {d : Nat} {Q : Option mi_V → sm_H → Prop} {zf zb zp za : Int} (hS : ab_Sh sx_sk h) (ok_zf : mi_in zf) (ok_zb : mi_in zb) (ok_zp : mi_in zp) (ok_za : mi_in za) (ho : (zb = ((-1 : Int))) ∧ (zf < ((0 : Int)))) (kon : ∀ h1, me_W [] h h1 → Q (some (.inl (za))) h1) : me_E (d + 1) 53 64 [some (.inr (.inr 60)), some (.inl (zf)), some (.inl (zb)), some (.inl (zp)), some (.inl (za))] [] h Q := mf_seg (mp_gaaC_3 h d zf zb zp za) (mi_tab_gaaC_3) hS (mi_okL_c (trivial) (mi_okL_c (ok_zf) (mi_okL_c (ok_zb) (mi_okL_c (ok_zp) (mi_okL_c (ok_za) (mi_okL_e)))))) (mi_okS_e) (mi_al (ho.1) (mi_al (ho.2) (mi_al_e))) (fun h1 W _ hst => mf_ret (M := (5, 1, sb_53)) rfl rfl rfl hst (mi_al_e) (kon h1 W))
set_option maxRecDepth 20000 in
theorem mp_gaaC_4 (h : sm_H) (d : Nat) (zf zb zp za : Int) : mj_path [(53, (5, 1, sb_53)), (16, (3, 0, sb_16))] sx_sk h 17 [0, 0, 1] (d + 1, 53, 64, [some (.inr (.inr 60)), some (.inl (zf)), some (.inl (zb)), some (.inl (zp)), some (.inl (za))], [], [], []) = some ((d + 1, 53, 94, [some (.inr (.inr 60)), some (.inl (zf)), some (.inl (zb)), some (.inl (zp)), some (.inl (za))], [.inl (za)], [], []), [zb = ((-1 : Int)), ((0 : Int)) ≤ zf, ((70 : Int)) ≤ zf]) := rfl
theorem mi_tab_gaaC_4 : ∀ e ∈ ([(53, (5, 1, sb_53)), (16, (3, 0, sb_16))] : mi_T), sc_P e.1 = some e.2 := mi_tb mi_P53 (mi_tb mi_P16 (mi_tb_e))
set_option maxRecDepth 20000 in
theorem ms_gaaC_4 {h : sm_H} {d : Nat} {Q : Option mi_V → sm_H → Prop} {zf zb zp za : Int} (hS : ab_Sh sx_sk h) (ok_zf : mi_in zf) (ok_zb : mi_in zb) (ok_zp : mi_in zp) (ok_za : mi_in za) (ho : (zb = ((-1 : Int))) ∧ (((0 : Int)) ≤ zf) ∧ (((70 : Int)) ≤ zf)) (kon : ∀ h1, me_W [] h h1 → Q (some (.inl (za))) h1) : me_E (d + 1) 53 64 [some (.inr (.inr 60)), some (.inl (zf)), some (.inl (zb)), some (.inl (zp)), some (.inl (za))] [] h Q := mf_seg (mp_gaaC_4 h d zf zb zp za) (mi_tab_gaaC_4) hS (mi_okL_c (trivial) (mi_okL_c (ok_zf) (mi_okL_c (ok_zb) (mi_okL_c (ok_zp) (mi_okL_c (ok_za) (mi_okL_e)))))) (mi_okS_e) (mi_al (ho.1) (mi_al (ho.2.1) (mi_al (ho.2.2) (mi_al_e)))) (fun h1 W _ hst => mf_ret (M := (5, 1, sb_53)) rfl rfl rfl hst (mi_al_e) (kon h1 W))
set_option maxRecDepth 20000 in
theorem mp_gaaC_5 (h : sm_H) (d : Nat) (zf zb zp za : Int) : mj_path [(53, (5, 1, sb_53)), (16, (3, 0, sb_16))] sx_sk h 21 [0, 0, 0] (d + 1, 53, 64, [some (.inr (.inr 60)), some (.inl (zf)), some (.inl (zb)), some (.inl (zp)), some (.inl (za))], [], [], []) = some ((d + 1, 53, 94, [some (.inr (.inr 60)), some (.inl (zf)), some (.inl (zb)), some (.inl (zp)), some (.inl (za))], [.inl (za)], [.inr (.inr (.inl (63, Int.toNat zf, za)))], []), [zb = ((-1 : Int)), ((0 : Int)) ≤ zf, zf < ((70 : Int)), 0 ≤ zf ∧ zf < 70]) := rfl
theorem mi_tab_gaaC_5 : ∀ e ∈ ([(53, (5, 1, sb_53)), (16, (3, 0, sb_16))] : mi_T), sc_P e.1 = some e.2 := mi_tb mi_P53 (mi_tb mi_P16 (mi_tb_e))
set_option maxRecDepth 20000 in
theorem ms_gaaC_5 {h : sm_H} {d : Nat} {Q : Option mi_V → sm_H → Prop} {zf zb zp za : Int} (hS : ab_Sh sx_sk h) (ok_zf : mi_in zf) (ok_zb : mi_in zb) (ok_zp : mi_in zp) (ok_za : mi_in za) (ho : (zb = ((-1 : Int))) ∧ (((0 : Int)) ≤ zf) ∧ (zf < ((70 : Int))) ∧ (0 ≤ zf ∧ zf < 70)) (kon : ∀ h1, me_W [.inr (.inr (.inl (63, Int.toNat zf, za)))] h h1 → Q (some (.inl (za))) h1) : me_E (d + 1) 53 64 [some (.inr (.inr 60)), some (.inl (zf)), some (.inl (zb)), some (.inl (zp)), some (.inl (za))] [] h Q := mf_seg (mp_gaaC_5 h d zf zb zp za) (mi_tab_gaaC_5) hS (mi_okL_c (trivial) (mi_okL_c (ok_zf) (mi_okL_c (ok_zb) (mi_okL_c (ok_zp) (mi_okL_c (ok_za) (mi_okL_e)))))) (mi_okS_e) (mi_al (ho.1) (mi_al (ho.2.1) (mi_al (ho.2.2.1) (mi_al (ho.2.2.2) (mi_al_e))))) (fun h1 W _ hst => mf_ret (M := (5, 1, sb_53)) rfl rfl rfl hst (mi_al_e) (kon h1 W))
set_option maxRecDepth 20000 in
theorem mt_gaaC {h : sm_H} {d : Nat} {Q : Option mi_V → sm_H → Prop} {zf zb zp za : Int} (hS : ab_Sh sx_sk h) (ok_zf : mi_in zf) (ok_zb : mi_in zb) (ok_zp : mi_in zp) (ok_za : mi_in za) (k0 : (zb ≠ ((-1 : Int))) → (zb < ((0 : Int))) → (∀ h1, ab_Sh sx_sk h1 → ab_Fr [] h h1 → Q (some (.inl (za))) h1)) (k1 : (zb ≠ ((-1 : Int))) → (((0 : Int)) ≤ zb) → (((66 : Int)) ≤ zb) → (∀ h1, ab_Sh sx_sk h1 → ab_Fr [] h h1 → Q (some (.inl (za))) h1)) (k2 : (zb ≠ ((-1 : Int))) → (((0 : Int)) ≤ zb) → (zb < ((66 : Int))) → ((0 ≤ zb ∧ zb < 66)) ∧ (∀ h1, ab_Sh sx_sk h1 → (∀ i, mi_a h1 66 i = if i = Int.toNat zb then za else (mi_a h 66 i)) → ab_Fr [(8448, 8449)] h h1 → Q (some (.inl (za))) h1)) (k3 : (zb = ((-1 : Int))) → (zf < ((0 : Int))) → (∀ h1, ab_Sh sx_sk h1 → ab_Fr [] h h1 → Q (some (.inl (za))) h1)) (k4 : (zb = ((-1 : Int))) → (((0 : Int)) ≤ zf) → (((70 : Int)) ≤ zf) → (∀ h1, ab_Sh sx_sk h1 → ab_Fr [] h h1 → Q (some (.inl (za))) h1)) (k5 : (zb = ((-1 : Int))) → (((0 : Int)) ≤ zf) → (zf < ((70 : Int))) → ((0 ≤ zf ∧ zf < 70)) ∧ (∀ h1, ab_Sh sx_sk h1 → (∀ i, mi_a h1 63 i = if i = Int.toNat zf then za else (mi_a h 63 i)) → ab_Fr [(8064, 8065)] h h1 → Q (some (.inl (za))) h1)) : me_E (d + 1) 53 64 [some (.inr (.inr 60)), some (.inl (zf)), some (.inl (zb)), some (.inl (zp)), some (.inl (za))] [] h Q := Or.elim (mi_em .ne (zb) (((-1 : Int)))) (fun c0 => Or.elim (mi_em .lt (zb) (((0 : Int)))) (fun c1 => ms_gaaC_0 hS ok_zf ok_zb ok_zp ok_za ⟨c0, c1⟩ (fun h1 W => (k0 c0 c1) h1 W.1 (W.2.2.2.2.2 _ rfl))) (fun c1 => Or.elim (mi_em .ge (zb) (((66 : Int)))) (fun c2 => ms_gaaC_1 hS ok_zf ok_zb ok_zp ok_za ⟨c0, c1, c2⟩ (fun h1 W => (k1 c0 c1 c2) h1 W.1 (W.2.2.2.2.2 _ rfl))) (fun c2 => ms_gaaC_2 hS ok_zf ok_zb ok_zp ok_za ⟨c0, c1, c2, (k2 c0 c1 c2).1⟩ (fun h1 W => (k2 c0 c1 c2).2 h1 W.1 (fun i => W.2.2.1 66 i) (W.2.2.2.2.2 _ rfl))))) (fun c0 => Or.elim (mi_em .lt (zf) (((0 : Int)))) (fun c1 => ms_gaaC_3 hS ok_zf ok_zb ok_zp ok_za ⟨c0, c1⟩ (fun h1 W => (k3 c0 c1) h1 W.1 (W.2.2.2.2.2 _ rfl))) (fun c1 => Or.elim (mi_em .ge (zf) (((70 : Int)))) (fun c2 => ms_gaaC_4 hS ok_zf ok_zb ok_zp ok_za ⟨c0, c1, c2⟩ (fun h1 W => (k4 c0 c1 c2) h1 W.1 (W.2.2.2.2.2 _ rfl))) (fun c2 => ms_gaaC_5 hS ok_zf ok_zb ok_zp ok_za ⟨c0, c1, c2, (k5 c0 c1 c2).1⟩ (fun h1 W => (k5 c0 c1 c2).2 h1 W.1 (fun i => W.2.2.1 63 i) (W.2.2.2.2.2 _ rfl)))))
set_option maxRecDepth 20000 in
theorem mp_gap_0 (h : sm_H) (d : Nat) (zs zv zp : Int) : mj_path [(60, (5, 1, sb_60)), (16, (3, 0, sb_16))] sx_sk h 66 [8, 1, 1, 1, 1, 1, 1, 1] (d + 1, 60, 0, [some (.inr (.inr 60)), some (.inl (zs)), some (.inl (zv)), some (.inl (zp)), none], [], [], []) = some ((d + 1, 60, 88, [some (.inr (.inr 60)), some (.inl (zs)), some (.inl (zv)), some (.inl (zp)), some (.inl (mi_f h 7690))], [.inl (mi_f h 7690)], [.inl (7690, (mi_f h 7690) + ((1 : Int)))], []), [-2147483648 ≤ (mi_f h 7690) + ((1 : Int)) ∧ (mi_f h 7690) + ((1 : Int)) ≤ 2147483647, (mi_f h 7690) < ((0 : Int)), (mi_f h 7690) < ((0 : Int)), (mi_f h 7690) < ((0 : Int)), (mi_f h 7690) < ((0 : Int)), (mi_f h 7690) < ((0 : Int)), (mi_f h 7690) < ((0 : Int)), (mi_f h 7690) < ((0 : Int))]) := rfl
theorem mi_tab_gap_0 : ∀ e ∈ ([(60, (5, 1, sb_60)), (16, (3, 0, sb_16))] : mi_T), sc_P e.1 = some e.2 := mi_tb mi_P60 (mi_tb mi_P16 (mi_tb_e))
set_option maxRecDepth 20000 in
theorem ms_gap_0 {h : sm_H} {d : Nat} {Q : Option mi_V → sm_H → Prop} {zs zv zp : Int} (hS : ab_Sh sx_sk h) (ok_zs : mi_in zs) (ok_zv : mi_in zv) (ok_zp : mi_in zp) (ho : (-2147483648 ≤ (mi_f h 7690) + ((1 : Int)) ∧ (mi_f h 7690) + ((1 : Int)) ≤ 2147483647) ∧ ((mi_f h 7690) < ((0 : Int))) ∧ ((mi_f h 7690) < ((0 : Int))) ∧ ((mi_f h 7690) < ((0 : Int))) ∧ ((mi_f h 7690) < ((0 : Int))) ∧ ((mi_f h 7690) < ((0 : Int))) ∧ ((mi_f h 7690) < ((0 : Int))) ∧ ((mi_f h 7690) < ((0 : Int)))) (kon : ∀ h1, me_W [.inl (7690, (mi_f h 7690) + ((1 : Int)))] h h1 → Q (some (.inl (mi_f h 7690))) h1) : me_E (d + 1) 60 0 [some (.inr (.inr 60)), some (.inl (zs)), some (.inl (zv)), some (.inl (zp)), none] [] h Q := mf_seg (mp_gap_0 h d zs zv zp) (mi_tab_gap_0) hS (mi_okL_c (trivial) (mi_okL_c (ok_zs) (mi_okL_c (ok_zv) (mi_okL_c (ok_zp) (mi_okL_n (mi_okL_e)))))) (mi_okS_e) (mi_al (ho.1) (mi_al (ho.2.1) (mi_al (ho.2.2.1) (mi_al (ho.2.2.2.1) (mi_al (ho.2.2.2.2.1) (mi_al (ho.2.2.2.2.2.1) (mi_al (ho.2.2.2.2.2.2.1) (mi_al (ho.2.2.2.2.2.2.2) (mi_al_e))))))))) (fun h1 W _ hst => mf_ret (M := (5, 1, sb_60)) rfl rfl rfl hst (mi_al_e) (kon h1 W))
set_option maxRecDepth 20000 in
theorem mp_gap_1 (h : sm_H) (d : Nat) (zs zv zp : Int) : mj_path [(60, (5, 1, sb_60)), (16, (3, 0, sb_16))] sx_sk h 94 [8, 0, 1, 0, 1, 0, 1, 0, 1, 0, 1, 0, 1, 0, 1] (d + 1, 60, 0, [some (.inr (.inr 60)), some (.inl (zs)), some (.inl (zv)), some (.inl (zp)), none], [], [], []) = some ((d + 1, 60, 88, [some (.inr (.inr 60)), some (.inl (zs)), some (.inl (zv)), some (.inl (zp)), some (.inl (mi_f h 7690))], [.inl (mi_f h 7690)], [.inl (7690, (mi_f h 7690) + ((1 : Int)))], []), [-2147483648 ≤ (mi_f h 7690) + ((1 : Int)) ∧ (mi_f h 7690) + ((1 : Int)) ≤ 2147483647, ((0 : Int)) ≤ (mi_f h 7690), ((60 : Int)) ≤ (mi_f h 7690), ((0 : Int)) ≤ (mi_f h 7690), ((60 : Int)) ≤ (mi_f h 7690), ((0 : Int)) ≤ (mi_f h 7690), ((60 : Int)) ≤ (mi_f h 7690), ((0 : Int)) ≤ (mi_f h 7690), ((60 : Int)) ≤ (mi_f h 7690), ((0 : Int)) ≤ (mi_f h 7690), ((60 : Int)) ≤ (mi_f h 7690), ((0 : Int)) ≤ (mi_f h 7690), ((60 : Int)) ≤ (mi_f h 7690), ((0 : Int)) ≤ (mi_f h 7690), ((60 : Int)) ≤ (mi_f h 7690)]) := rfl
theorem mi_tab_gap_1 : ∀ e ∈ ([(60, (5, 1, sb_60)), (16, (3, 0, sb_16))] : mi_T), sc_P e.1 = some e.2 := mi_tb mi_P60 (mi_tb mi_P16 (mi_tb_e))
set_option maxRecDepth 20000 in
theorem ms_gap_1 {h : sm_H} {d : Nat} {Q : Option mi_V → sm_H → Prop} {zs zv zp : Int} (hS : ab_Sh sx_sk h) (ok_zs : mi_in zs) (ok_zv : mi_in zv) (ok_zp : mi_in zp) (ho : (-2147483648 ≤ (mi_f h 7690) + ((1 : Int)) ∧ (mi_f h 7690) + ((1 : Int)) ≤ 2147483647) ∧ (((0 : Int)) ≤ (mi_f h 7690)) ∧ (((60 : Int)) ≤ (mi_f h 7690)) ∧ (((0 : Int)) ≤ (mi_f h 7690)) ∧ (((60 : Int)) ≤ (mi_f h 7690)) ∧ (((0 : Int)) ≤ (mi_f h 7690)) ∧ (((60 : Int)) ≤ (mi_f h 7690)) ∧ (((0 : Int)) ≤ (mi_f h 7690)) ∧ (((60 : Int)) ≤ (mi_f h 7690)) ∧ (((0 : Int)) ≤ (mi_f h 7690)) ∧ (((60 : Int)) ≤ (mi_f h 7690)) ∧ (((0 : Int)) ≤ (mi_f h 7690)) ∧ (((60 : Int)) ≤ (mi_f h 7690)) ∧ (((0 : Int)) ≤ (mi_f h 7690)) ∧ (((60 : Int)) ≤ (mi_f h 7690))) (kon : ∀ h1, me_W [.inl (7690, (mi_f h 7690) + ((1 : Int)))] h h1 → Q (some (.inl (mi_f h 7690))) h1) : me_E (d + 1) 60 0 [some (.inr (.inr 60)), some (.inl (zs)), some (.inl (zv)), some (.inl (zp)), none] [] h Q := mf_seg (mp_gap_1 h d zs zv zp) (mi_tab_gap_1) hS (mi_okL_c (trivial) (mi_okL_c (ok_zs) (mi_okL_c (ok_zv) (mi_okL_c (ok_zp) (mi_okL_n (mi_okL_e)))))) (mi_okS_e) (mi_al (ho.1) (mi_al (ho.2.1) (mi_al (ho.2.2.1) (mi_al (ho.2.2.2.1) (mi_al (ho.2.2.2.2.1) (mi_al (ho.2.2.2.2.2.1) (mi_al (ho.2.2.2.2.2.2.1) (mi_al (ho.2.2.2.2.2.2.2.1) (mi_al (ho.2.2.2.2.2.2.2.2.1) (mi_al (ho.2.2.2.2.2.2.2.2.2.1) (mi_al (ho.2.2.2.2.2.2.2.2.2.2.1) (mi_al (ho.2.2.2.2.2.2.2.2.2.2.2.1) (mi_al (ho.2.2.2.2.2.2.2.2.2.2.2.2.1) (mi_al (ho.2.2.2.2.2.2.2.2.2.2.2.2.2.1) (mi_al (ho.2.2.2.2.2.2.2.2.2.2.2.2.2.2) (mi_al_e)))))))))))))))) (fun h1 W _ hst => mf_ret (M := (5, 1, sb_60)) rfl rfl rfl hst (mi_al_e) (kon h1 W))
set_option maxRecDepth 20000 in
theorem mp_gap_2 (h : sm_H) (d : Nat) (zs zv zp : Int) : mj_path [(60, (5, 1, sb_60)), (16, (3, 0, sb_16))] sx_sk h 122 [8, 0, 0, 0, 0, 0, 0, 0, 0, 0, 0, 0, 0, 0, 0] (d + 1, 60, 0, [some (.inr (.inr 60)), some (.inl (zs)), some (.inl (zv)), some (.inl (zp)), none], [], [], []) = some ((d + 1, 60, 88, [some (.inr (.inr 60)), some (.inl (zs)), some (.inl (zv)), some (.inl (zp)), some (.inl (mi_f h 7690))], [.inl (mi_f h 7690)], [.inr (.inr (.inl (74, Int.toNat (mi_f h 7690), (0 : Int)))), .inr (.inr (.inl (73, Int.toNat (mi_f h 7690), zp))), .inr (.inr (.inl (72, Int.toNat (mi_f h 7690), (0 : Int)))), .inr (.inr (.inl (71, Int.toNat (mi_f h 7690), (-1 : Int)))), .inr (.inr (.inl (70, Int.toNat (mi_f h 7690), zp))), .inr (.inr (.inl (69, Int.toNat (mi_f h 7690), zv))), .inr (.inr (.inl (68, Int.toNat (mi_f h 7690), zs))), .inl (7690, (mi_f h 7690) + ((1 : Int)))], []), [-2147483648 ≤ (mi_f h 7690) + ((1 : Int)) ∧ (mi_f h 7690) + ((1 : Int)) ≤ 2147483647, ((0 : Int)) ≤ (mi_f h 7690), (mi_f h 7690) < ((60 : Int)), 0 ≤ (mi_f h 7690) ∧ (mi_f h 7690) < 60, ((0 : Int)) ≤ (mi_f h 7690), (mi_f h 7690) < ((60 : Int)), 0 ≤ (mi_f h 7690) ∧ (mi_f h 7690) < 60, ((0 : Int)) ≤ (mi_f h 7690), (mi_f h 7690) < ((60 : Int)), 0 ≤ (mi_f h 7690) ∧ (mi_f h 7690) < 60, ((0 : Int)) ≤ (mi_f h 7690), (mi_f h 7690) < ((60 : Int)), 0 ≤ (mi_f h 7690) ∧ (mi_f h 7690) < 60, ((0 : Int)) ≤ (mi_f h 7690), (mi_f h 7690) < ((60 : Int)), 0 ≤ (mi_f h 7690) ∧ (mi_f h 7690) < 60, ((0 : Int)) ≤ (mi_f h 7690), (mi_f h 7690) < ((60 : Int)), 0 ≤ (mi_f h 7690) ∧ (mi_f h 7690) < 60, ((0 : Int)) ≤ (mi_f h 7690), (mi_f h 7690) < ((60 : Int)), 0 ≤ (mi_f h 7690) ∧ (mi_f h 7690) < 60]) := rfl
theorem mi_tab_gap_2 : ∀ e ∈ ([(60, (5, 1, sb_60)), (16, (3, 0, sb_16))] : mi_T), sc_P e.1 = some e.2 := mi_tb mi_P60 (mi_tb mi_P16 (mi_tb_e))
set_option maxRecDepth 20000 in
theorem ms_gap_2 {h : sm_H} {d : Nat} {Q : Option mi_V → sm_H → Prop} {zs zv zp : Int} (hS : ab_Sh sx_sk h) (ok_zs : mi_in zs) (ok_zv : mi_in zv) (ok_zp : mi_in zp) (ho : (-2147483648 ≤ (mi_f h 7690) + ((1 : Int)) ∧ (mi_f h 7690) + ((1 : Int)) ≤ 2147483647) ∧ (((0 : Int)) ≤ (mi_f h 7690)) ∧ ((mi_f h 7690) < ((60 : Int))) ∧ (0 ≤ (mi_f h 7690) ∧ (mi_f h 7690) < 60) ∧ (((0 : Int)) ≤ (mi_f h 7690)) ∧ ((mi_f h 7690) < ((60 : Int))) ∧ (0 ≤ (mi_f h 7690) ∧ (mi_f h 7690) < 60) ∧ (((0 : Int)) ≤ (mi_f h 7690)) ∧ ((mi_f h 7690) < ((60 : Int))) ∧ (0 ≤ (mi_f h 7690) ∧ (mi_f h 7690) < 60) ∧ (((0 : Int)) ≤ (mi_f h 7690)) ∧ ((mi_f h 7690) < ((60 : Int))) ∧ (0 ≤ (mi_f h 7690) ∧ (mi_f h 7690) < 60) ∧ (((0 : Int)) ≤ (mi_f h 7690)) ∧ ((mi_f h 7690) < ((60 : Int))) ∧ (0 ≤ (mi_f h 7690) ∧ (mi_f h 7690) < 60) ∧ (((0 : Int)) ≤ (mi_f h 7690)) ∧ ((mi_f h 7690) < ((60 : Int))) ∧ (0 ≤ (mi_f h 7690) ∧ (mi_f h 7690) < 60) ∧ (((0 : Int)) ≤ (mi_f h 7690)) ∧ ((mi_f h 7690) < ((60 : Int))) ∧ (0 ≤ (mi_f h 7690) ∧ (mi_f h 7690) < 60)) (kon : ∀ h1, me_W [.inr (.inr (.inl (74, Int.toNat (mi_f h 7690), (0 : Int)))), .inr (.inr (.inl (73, Int.toNat (mi_f h 7690), zp))), .inr (.inr (.inl (72, Int.toNat (mi_f h 7690), (0 : Int)))), .inr (.inr (.inl (71, Int.toNat (mi_f h 7690), (-1 : Int)))), .inr (.inr (.inl (70, Int.toNat (mi_f h 7690), zp))), .inr (.inr (.inl (69, Int.toNat (mi_f h 7690), zv))), .inr (.inr (.inl (68, Int.toNat (mi_f h 7690), zs))), .inl (7690, (mi_f h 7690) + ((1 : Int)))] h h1 → Q (some (.inl (mi_f h 7690))) h1) : me_E (d + 1) 60 0 [some (.inr (.inr 60)), some (.inl (zs)), some (.inl (zv)), some (.inl (zp)), none] [] h Q := mf_seg (mp_gap_2 h d zs zv zp) (mi_tab_gap_2) hS (mi_okL_c (trivial) (mi_okL_c (ok_zs) (mi_okL_c (ok_zv) (mi_okL_c (ok_zp) (mi_okL_n (mi_okL_e)))))) (mi_okS_e) (mi_al (ho.1) (mi_al (ho.2.1) (mi_al (ho.2.2.1) (mi_al (ho.2.2.2.1) (mi_al (ho.2.2.2.2.1) (mi_al (ho.2.2.2.2.2.1) (mi_al (ho.2.2.2.2.2.2.1) (mi_al (ho.2.2.2.2.2.2.2.1) (mi_al (ho.2.2.2.2.2.2.2.2.1) (mi_al (ho.2.2.2.2.2.2.2.2.2.1) (mi_al (ho.2.2.2.2.2.2.2.2.2.2.1) (mi_al (ho.2.2.2.2.2.2.2.2.2.2.2.1) (mi_al (ho.2.2.2.2.2.2.2.2.2.2.2.2.1) (mi_al (ho.2.2.2.2.2.2.2.2.2.2.2.2.2.1) (mi_al (ho.2.2.2.2.2.2.2.2.2.2.2.2.2.2.1) (mi_al (ho.2.2.2.2.2.2.2.2.2.2.2.2.2.2.2.1) (mi_al (ho.2.2.2.2.2.2.2.2.2.2.2.2.2.2.2.2.1) (mi_al (ho.2.2.2.2.2.2.2.2.2.2.2.2.2.2.2.2.2.1) (mi_al (ho.2.2.2.2.2.2.2.2.2.2.2.2.2.2.2.2.2.2.1) (mi_al (ho.2.2.2.2.2.2.2.2.2.2.2.2.2.2.2.2.2.2.2.1) (mi_al (ho.2.2.2.2.2.2.2.2.2.2.2.2.2.2.2.2.2.2.2.2.1) (mi_al (ho.2.2.2.2.2.2.2.2.2.2.2.2.2.2.2.2.2.2.2.2.2) (mi_al_e))))))))))))))))))))))) (fun h1 W _ hst => mf_ret (M := (5, 1, sb_60)) rfl rfl rfl hst (mi_al_e) (kon h1 W))
set_option maxRecDepth 20000 in
theorem mt_gap {h : sm_H} {d : Nat} {Q : Option mi_V → sm_H → Prop} {zs zv zp : Int} (hS : ab_Sh sx_sk h) (ok_zs : mi_in zs) (ok_zv : mi_in zv) (ok_zp : mi_in zp) (k0 : ((-2147483648) ≤ mi_f h 7690 ∧ mi_f h 7690 ≤ 2147483647) → ((mi_f h 7690) < ((0 : Int))) → ((-2147483648 ≤ (mi_f h 7690) + ((1 : Int)) ∧ (mi_f h 7690) + ((1 : Int)) ≤ 2147483647)) ∧ (∀ h1, ab_Sh sx_sk h1 → mi_f h1 7690 = (mi_f h 7690) + ((1 : Int)) → ab_Fr [(7690, 7691)] h h1 → Q (some (.inl (mi_f h 7690))) h1)) (k1 : ((-2147483648) ≤ mi_f h 7690 ∧ mi_f h 7690 ≤ 2147483647) → (((0 : Int)) ≤ (mi_f h 7690)) → (((60 : Int)) ≤ (mi_f h 7690)) → ((-2147483648 ≤ (mi_f h 7690) + ((1 : Int)) ∧ (mi_f h 7690) + ((1 : Int)) ≤ 2147483647)) ∧ (∀ h1, ab_Sh sx_sk h1 → mi_f h1 7690 = (mi_f h 7690) + ((1 : Int)) → ab_Fr [(7690, 7691)] h h1 → Q (some (.inl (mi_f h 7690))) h1)) (k2 : ((-2147483648) ≤ mi_f h 7690 ∧ mi_f h 7690 ≤ 2147483647) → (((0 : Int)) ≤ (mi_f h 7690)) → ((mi_f h 7690) < ((60 : Int))) → ((-2147483648 ≤ (mi_f h 7690) + ((1 : Int)) ∧ (mi_f h 7690) + ((1 : Int)) ≤ 2147483647) ∧ (0 ≤ (mi_f h 7690) ∧ (mi_f h 7690) < 60)) ∧ (∀ h1, ab_Sh sx_sk h1 → mi_f h1 7690 = (mi_f h 7690) + ((1 : Int)) → (∀ i, mi_a h1 68 i = if i = Int.toNat (mi_f h 7690) then zs else (mi_a h 68 i)) → (∀ i, mi_a h1 69 i = if i = Int.toNat (mi_f h 7690) then zv else (mi_a h 69 i)) → (∀ i, mi_a h1 70 i = if i = Int.toNat (mi_f h 7690) then zp else (mi_a h 70 i)) → (∀ i, mi_a h1 71 i = if i = Int.toNat (mi_f h 7690) then (-1 : Int) else (mi_a h 71 i)) → (∀ i, mi_a h1 72 i = if i = Int.toNat (mi_f h 7690) then (0 : Int) else (mi_a h 72 i)) → (∀ i, mi_a h1 73 i = if i = Int.toNat (mi_f h 7690) then zp else (mi_a h 73 i)) → (∀ i, mi_a h1 74 i = if i = Int.toNat (mi_f h 7690) then (0 : Int) else (mi_a h 74 i)) → ab_Fr [(7690, 7691), (8704, 8705), (8832, 8833), (8960, 8961), (9088, 9089), (9216, 9217), (9344, 9345), (9472, 9473)] h h1 → Q (some (.inl (mi_f h 7690))) h1)) : me_E (d + 1) 60 0 [some (.inr (.inr 60)), some (.inl (zs)), some (.inl (zv)), some (.inl (zp)), none] [] h Q := Or.elim (mi_em .lt ((mi_f h 7690)) (((0 : Int)))) (fun c0 => ms_gap_0 hS ok_zs ok_zv ok_zp ⟨(k0 (me_fb hS rfl) c0).1, c0, c0, c0, c0, c0, c0, c0⟩ (fun h1 W => (k0 (me_fb hS rfl) c0).2 h1 W.1 (W.2.1 7690) (W.2.2.2.2.2 _ rfl))) (fun c0 => Or.elim (mi_em .ge ((mi_f h 7690)) (((60 : Int)))) (fun c1 => ms_gap_1 hS ok_zs ok_zv ok_zp ⟨(k1 (me_fb hS rfl) c0 c1).1, c0, c1, c0, c1, c0, c1, c0, c1, c0, c1, c0, c1, c0, c1⟩ (fun h1 W => (k1 (me_fb hS rfl) c0 c1).2 h1 W.1 (W.2.1 7690) (W.2.2.2.2.2 _ rfl))) (fun c1 => ms_gap_2 hS ok_zs ok_zv ok_zp ⟨(k2 (me_fb hS rfl) c0 c1).1.1, c0, c1, (k2 (me_fb hS rfl) c0 c1).1.2, c0, c1, (k2 (me_fb hS rfl) c0 c1).1.2, c0, c1, (k2 (me_fb hS rfl) c0 c1).1.2, c0, c1, (k2 (me_fb hS rfl) c0 c1).1.2, c0, c1, (k2 (me_fb hS rfl) c0 c1).1.2, c0, c1, (k2 (me_fb hS rfl) c0 c1).1.2, c0, c1, (k2 (me_fb hS rfl) c0 c1).1.2⟩ (fun h1 W => (k2 (me_fb hS rfl) c0 c1).2 h1 W.1 (W.2.1 7690) (fun i => W.2.2.1 68 i) (fun i => W.2.2.1 69 i) (fun i => W.2.2.1 70 i) (fun i => W.2.2.1 71 i) (fun i => W.2.2.1 72 i) (fun i => W.2.2.1 73 i) (fun i => W.2.2.1 74 i) (W.2.2.2.2.2 _ rfl))))
set_option maxRecDepth 20000 in
theorem mp_gat_0 (h : sm_H) (d : Nat) (za zb zp : Int) : mj_path [(63, (4, 0, sb_63)), (16, (3, 0, sb_16))] sx_sk h 11 [1, 1] (d + 1, 63, 0, [some (.inr (.inr 60)), some (.inl (za)), some (.inl (zb)), some (.inl (zp))], [], [], []) = some ((d + 1, 63, 26, [some (.inr (.inr 60)), some (.inl (za)), some (.inl (zb)), some (.inl (zp))], [], [], []), [zb ≠ ((-1 : Int)), zb < ((0 : Int))]) := rfl
theorem mi_tab_gat_0 : ∀ e ∈ ([(63, (4, 0, sb_63)), (16, (3, 0, sb_16))] : mi_T), sc_P e.1 = some e.2 := mi_tb mi_P63 (mi_tb mi_P16 (mi_tb_e))
set_option maxRecDepth 20000 in
theorem ms_gat_0 {h : sm_H} {d : Nat} {Q : Option mi_V → sm_H → Prop} {za zb zp : Int} (hS : ab_Sh sx_sk h) (ok_za : mi_in za) (ok_zb : mi_in zb) (ok_zp : mi_in zp) (ho : (zb ≠ ((-1 : Int))) ∧ (zb < ((0 : Int)))) (kon : ∀ h1, me_W [] h h1 → Q none h1) : me_E (d + 1) 63 0 [some (.inr (.inr 60)), some (.inl (za)), some (.inl (zb)), some (.inl (zp))] [] h Q := mf_seg (mp_gat_0 h d za zb zp) (mi_tab_gat_0) hS (mi_okL_c (trivial) (mi_okL_c (ok_za) (mi_okL_c (ok_zb) (mi_okL_c (ok_zp) (mi_okL_e))))) (mi_okS_e) (mi_al (ho.1) (mi_al (ho.2) (mi_al_e))) (fun h1 W _ hst => mf_ret (M := (4, 0, sb_63)) rfl rfl rfl hst (mi_al_e) (kon h1 W))
set_option maxRecDepth 20000 in
theorem mp_gat_1 (h : sm_H) (d : Nat) (za zb zp : Int) : mj_path [(63, (4, 0, sb_63)), (16, (3, 0, sb_16))] sx_sk h 15 [1, 0, 1] (d + 1, 63, 0, [some (.inr (.inr 60)), some (.inl (za)), some (.inl (zb)), some (.inl (zp))], [], [], []) = some ((d + 1, 63, 26, [some (.inr (.inr 60)), some (.inl (za)), some (.inl (zb)), some (.inl (zp))], [], [], []), [zb ≠ ((-1 : Int)), ((0 : Int)) ≤ zb, ((60 : Int)) ≤ zb]) := rfl
theorem mi_tab_gat_1 : ∀ e ∈ ([(63, (4, 0, sb_63)), (16, (3, 0, sb_16))] : mi_T), sc_P e.1 = some e.2 := mi_tb mi_P63 (mi_tb mi_P16 (mi_tb_e))
set_option maxRecDepth 20000 in
theorem ms_gat_1 {h : sm_H} {d : Nat} {Q : Option mi_V → sm_H → Prop} {za zb zp : Int} (hS : ab_Sh sx_sk h) (ok_za : mi_in za) (ok_zb : mi_in zb) (ok_zp : mi_in zp) (ho : (zb ≠ ((-1 : Int))) ∧ (((0 : Int)) ≤ zb) ∧ (((60 : Int)) ≤ zb)) (kon : ∀ h1, me_W [] h h1 → Q none h1) : me_E (d + 1) 63 0 [some (.inr (.inr 60)), some (.inl (za)), some (.inl (zb)), some (.inl (zp))] [] h Q := mf_seg (mp_gat_1 h d za zb zp) (mi_tab_gat_1) hS (mi_okL_c (trivial) (mi_okL_c (ok_za) (mi_okL_c (ok_zb) (mi_okL_c (ok_zp) (mi_okL_e))))) (mi_okS_e) (mi_al (ho.1) (mi_al (ho.2.1) (mi_al (ho.2.2) (mi_al_e)))) (fun h1 W _ hst => mf_ret (M := (4, 0, sb_63)) rfl rfl rfl hst (mi_al_e) (kon h1 W))
set_option maxRecDepth 20000 in
theorem mp_gat_2 (h : sm_H) (d : Nat) (za zb zp : Int) : mj_path [(63, (4, 0, sb_63)), (16, (3, 0, sb_16))] sx_sk h 19 [1, 0, 0] (d + 1, 63, 0, [some (.inr (.inr 60)), some (.inl (za)), some (.inl (zb)), some (.inl (zp))], [], [], []) = some ((d + 1, 63, 26, [some (.inr (.inr 60)), some (.inl (za)), some (.inl (zb)), some (.inl (zp))], [], [.inr (.inr (.inl (71, Int.toNat zb, zp)))], []), [zb ≠ ((-1 : Int)), ((0 : Int)) ≤ zb, zb < ((60 : Int)), 0 ≤ zb ∧ zb < 60]) := rfl
theorem mi_tab_gat_2 : ∀ e ∈ ([(63, (4, 0, sb_63)), (16, (3, 0, sb_16))] : mi_T), sc_P e.1 = some e.2 := mi_tb mi_P63 (mi_tb mi_P16 (mi_tb_e))
set_option maxRecDepth 20000 in
theorem ms_gat_2 {h : sm_H} {d : Nat} {Q : Option mi_V → sm_H → Prop} {za zb zp : Int} (hS : ab_Sh sx_sk h) (ok_za : mi_in za) (ok_zb : mi_in zb) (ok_zp : mi_in zp) (ho : (zb ≠ ((-1 : Int))) ∧ (((0 : Int)) ≤ zb) ∧ (zb < ((60 : Int))) ∧ (0 ≤ zb ∧ zb < 60)) (kon : ∀ h1, me_W [.inr (.inr (.inl (71, Int.toNat zb, zp)))] h h1 → Q none h1) : me_E (d + 1) 63 0 [some (.inr (.inr 60)), some (.inl (za)), some (.inl (zb)), some (.inl (zp))] [] h Q := mf_seg (mp_gat_2 h d za zb zp) (mi_tab_gat_2) hS (mi_okL_c (trivial) (mi_okL_c (ok_za) (mi_okL_c (ok_zb) (mi_okL_c (ok_zp) (mi_okL_e))))) (mi_okS_e) (mi_al (ho.1) (mi_al (ho.2.1) (mi_al (ho.2.2.1) (mi_al (ho.2.2.2) (mi_al_e))))) (fun h1 W _ hst => mf_ret (M := (4, 0, sb_63)) rfl rfl rfl hst (mi_al_e) (kon h1 W))
set_option maxRecDepth 20000 in
theorem mp_gat_3 (h : sm_H) (d : Nat) (za zb zp : Int) : mj_path [(63, (4, 0, sb_63)), (16, (3, 0, sb_16))] sx_sk h 12 [0, 1] (d + 1, 63, 0, [some (.inr (.inr 60)), some (.inl (za)), some (.inl (zb)), some (.inl (zp))], [], [], []) = some ((d + 1, 63, 26, [some (.inr (.inr 60)), some (.inl (za)), some (.inl (zb)), some (.inl (zp))], [], [], []), [zb = ((-1 : Int)), za < ((0 : Int))]) := rfl
theorem mi_tab_gat_3 : ∀ e ∈ ([(63, (4, 0, sb_63)), (16, (3, 0, sb_16))] : mi_T), sc_P e.1 = some e.2 := mi_tb mi_P63 (mi_tb mi_P16 (mi_tb_e))
set_option maxRecDepth 20000 in
theorem ms_gat_3 {h : sm_H} {d : Nat} {Q : Option mi_V → sm_H → Prop} {za zb zp : Int} (hS : ab_Sh sx_sk h) (ok_za : mi_in za) (ok_zb : mi_in zb) (ok_zp : mi_in zp) (ho : (zb = ((-1 : Int))) ∧ (za < ((0 : Int)))) (kon : ∀ h1, me_W [] h h1 → Q none h1) : me_E (d + 1) 63 0 [some (.inr (.inr 60)), some (.inl (za)), some (.inl (zb)), some (.inl (zp))] [] h Q := mf_seg (mp_gat_3 h d za zb zp) (mi_tab_gat_3) hS (mi_okL_c (trivial) (mi_okL_c (ok_za) (mi_okL_c (ok_zb) (mi_okL_c (ok_zp) (mi_okL_e))))) (mi_okS_e) (mi_al (ho.1) (mi_al (ho.2) (mi_al_e))) (fun h1 W _ hst => mf_ret (M := (4, 0, sb_63)) rfl rfl rfl hst (mi_al_e) (kon h1 W))
set_option maxRecDepth 20000 in
theorem mp_gat_4 (h : sm_H) (d : Nat) (za zb zp : Int) : mj_path [(63, (4, 0, sb_63)), (16, (3, 0, sb_16))] sx_sk h 16 [0, 0, 1] (d + 1, 63, 0, [some (.inr (.inr 60)), some (.inl (za)), some (.inl (zb)), some (.inl (zp))], [], [], []) = some ((d + 1, 63, 26, [some (.inr (.inr 60)), some (.inl (za)), some (.inl (zb)), some (.inl (zp))], [], [], []), [zb = ((-1 : Int)), ((0 : Int)) ≤ za, ((66 : Int)) ≤ za]) := rfl
theorem mi_tab_gat_4 : ∀ e ∈ ([(63, (4, 0, sb_63)), (16, (3, 0, sb_16))] : mi_T), sc_P e.1 = some e.2 := mi_tb mi_P63 (mi_tb mi_P16 (mi_tb_e))
set_option maxRecDepth 20000 in
theorem ms_gat_4 {h : sm_H} {d : Nat} {Q : Option mi_V → sm_H → Prop} {za zb zp : Int} (hS : ab_Sh sx_sk h) (ok_za : mi_in za) (ok_zb : mi_in zb) (ok_zp : mi_in zp) (ho : (zb = ((-1 : Int))) ∧ (((0 : Int)) ≤ za) ∧ (((66 : Int)) ≤ za)) (kon : ∀ h1, me_W [] h h1 → Q none h1) : me_E (d + 1) 63 0 [some (.inr (.inr 60)), some (.inl (za)), some (.inl (zb)), some (.inl (zp))] [] h Q := mf_seg (mp_gat_4 h d za zb zp) (mi_tab_gat_4) hS (mi_okL_c (trivial) (mi_okL_c (ok_za) (mi_okL_c (ok_zb) (mi_okL_c (ok_zp) (mi_okL_e))))) (mi_okS_e) (mi_al (ho.1) (mi_al (ho.2.1) (mi_al (ho.2.2) (mi_al_e)))) (fun h1 W _ hst => mf_ret (M := (4, 0, sb_63)) rfl rfl rfl hst (mi_al_e) (kon h1 W))
set_option maxRecDepth 20000 in
theorem mp_gat_5 (h : sm_H) (d : Nat) (za zb zp : Int) : mj_path [(63, (4, 0, sb_63)), (16, (3, 0, sb_16))] sx_sk h 20 [0, 0, 0] (d + 1, 63, 0, [some (.inr (.inr 60)), some (.inl (za)), some (.inl (zb)), some (.inl (zp))], [], [], []) = some ((d + 1, 63, 26, [some (.inr (.inr 60)), some (.inl (za)), some (.inl (zb)), some (.inl (zp))], [], [.inr (.inr (.inl (65, Int.toNat za, zp)))], []), [zb = ((-1 : Int)), ((0 : Int)) ≤ za, za < ((66 : Int)), 0 ≤ za ∧ za < 66]) := rfl
theorem mi_tab_gat_5 : ∀ e ∈ ([(63, (4, 0, sb_63)), (16, (3, 0, sb_16))] : mi_T), sc_P e.1 = some e.2 := mi_tb mi_P63 (mi_tb mi_P16 (mi_tb_e))
set_option maxRecDepth 20000 in
theorem ms_gat_5 {h : sm_H} {d : Nat} {Q : Option mi_V → sm_H → Prop} {za zb zp : Int} (hS : ab_Sh sx_sk h) (ok_za : mi_in za) (ok_zb : mi_in zb) (ok_zp : mi_in zp) (ho : (zb = ((-1 : Int))) ∧ (((0 : Int)) ≤ za) ∧ (za < ((66 : Int))) ∧ (0 ≤ za ∧ za < 66)) (kon : ∀ h1, me_W [.inr (.inr (.inl (65, Int.toNat za, zp)))] h h1 → Q none h1) : me_E (d + 1) 63 0 [some (.inr (.inr 60)), some (.inl (za)), some (.inl (zb)), some (.inl (zp))] [] h Q := mf_seg (mp_gat_5 h d za zb zp) (mi_tab_gat_5) hS (mi_okL_c (trivial) (mi_okL_c (ok_za) (mi_okL_c (ok_zb) (mi_okL_c (ok_zp) (mi_okL_e))))) (mi_okS_e) (mi_al (ho.1) (mi_al (ho.2.1) (mi_al (ho.2.2.1) (mi_al (ho.2.2.2) (mi_al_e))))) (fun h1 W _ hst => mf_ret (M := (4, 0, sb_63)) rfl rfl rfl hst (mi_al_e) (kon h1 W))
set_option maxRecDepth 20000 in
theorem mt_gat {h : sm_H} {d : Nat} {Q : Option mi_V → sm_H → Prop} {za zb zp : Int} (hS : ab_Sh sx_sk h) (ok_za : mi_in za) (ok_zb : mi_in zb) (ok_zp : mi_in zp) (k0 : (zb ≠ ((-1 : Int))) → (zb < ((0 : Int))) → (∀ h1, ab_Sh sx_sk h1 → ab_Fr [] h h1 → Q none h1)) (k1 : (zb ≠ ((-1 : Int))) → (((0 : Int)) ≤ zb) → (((60 : Int)) ≤ zb) → (∀ h1, ab_Sh sx_sk h1 → ab_Fr [] h h1 → Q none h1)) (k2 : (zb ≠ ((-1 : Int))) → (((0 : Int)) ≤ zb) → (zb < ((60 : Int))) → ((0 ≤ zb ∧ zb < 60)) ∧ (∀ h1, ab_Sh sx_sk h1 → (∀ i, mi_a h1 71 i = if i = Int.toNat zb then zp else (mi_a h 71 i)) → ab_Fr [(9088, 9089)] h h1 → Q none h1)) (k3 : (zb = ((-1 : Int))) → (za < ((0 : Int))) → (∀ h1, ab_Sh sx_sk h1 → ab_Fr [] h h1 → Q none h1)) (k4 : (zb = ((-1 : Int))) → (((0 : Int)) ≤ za) → (((66 : Int)) ≤ za) → (∀ h1, ab_Sh sx_sk h1 → ab_Fr [] h h1 → Q none h1)) (k5 : (zb = ((-1 : Int))) → (((0 : Int)) ≤ za) → (za < ((66 : Int))) → ((0 ≤ za ∧ za < 66)) ∧ (∀ h1, ab_Sh sx_sk h1 → (∀ i, mi_a h1 65 i = if i = Int.toNat za then zp else (mi_a h 65 i)) → ab_Fr [(8320, 8321)] h h1 → Q none h1)) : me_E (d + 1) 63 0 [some (.inr (.inr 60)), some (.inl (za)), some (.inl (zb)), some (.inl (zp))] [] h Q := Or.elim (mi_em .ne (zb) (((-1 : Int)))) (fun c0 => Or.elim (mi_em .lt (zb) (((0 : Int)))) (fun c1 => ms_gat_0 hS ok_za ok_zb ok_zp ⟨c0, c1⟩ (fun h1 W => (k0 c0 c1) h1 W.1 (W.2.2.2.2.2 _ rfl))) (fun c1 => Or.elim (mi_em .ge (zb) (((60 : Int)))) (fun c2 => ms_gat_1 hS ok_za ok_zb ok_zp ⟨c0, c1, c2⟩ (fun h1 W => (k1 c0 c1 c2) h1 W.1 (W.2.2.2.2.2 _ rfl))) (fun c2 => ms_gat_2 hS ok_za ok_zb ok_zp ⟨c0, c1, c2, (k2 c0 c1 c2).1⟩ (fun h1 W => (k2 c0 c1 c2).2 h1 W.1 (fun i => W.2.2.1 71 i) (W.2.2.2.2.2 _ rfl))))) (fun c0 => Or.elim (mi_em .lt (za) (((0 : Int)))) (fun c1 => ms_gat_3 hS ok_za ok_zb ok_zp ⟨c0, c1⟩ (fun h1 W => (k3 c0 c1) h1 W.1 (W.2.2.2.2.2 _ rfl))) (fun c1 => Or.elim (mi_em .ge (za) (((66 : Int)))) (fun c2 => ms_gat_4 hS ok_za ok_zb ok_zp ⟨c0, c1, c2⟩ (fun h1 W => (k4 c0 c1 c2) h1 W.1 (W.2.2.2.2.2 _ rfl))) (fun c2 => ms_gat_5 hS ok_za ok_zb ok_zp ⟨c0, c1, c2, (k5 c0 c1 c2).1⟩ (fun h1 W => (k5 c0 c1 c2).2 h1 W.1 (fun i => W.2.2.1 65 i) (W.2.2.2.2.2 _ rfl)))))
set_option maxRecDepth 20000 in
theorem mp_gfi_0 (h : sm_H) (d : Nat) (zp : Int) : mj_path [(71, (3, 1, sb_71)), (49, (2, 1, sb_49))] sx_sk h 16 [1, 0, 1] (d + 1, 71, 0, [some (.inr (.inr 60)), some (.inl (zp)), none], [], [], []) = some ((d + 1, 71, 33, [some (.inr (.inr 60)), some (.inl (zp)), some (.inl ((0 : Int)))], [.inl ((-1 : Int))], [], []), [zp < ((0 : Int)), ((0 : Int)) ≠ ((9 : Int)), ((0 : Int)) ≠ ((10 : Int))]) := rfl
theorem mi_tab_gfi_0 : ∀ e ∈ ([(71, (3, 1, sb_71)), (49, (2, 1, sb_49))] : mi_T), sc_P e.1 = some e.2 := mi_tb mi_P71 (mi_tb mi_P49 (mi_tb_e))
set_option maxRecDepth 20000 in
theorem ms_gfi_0 {h : sm_H} {d : Nat} {Q : Option mi_V → sm_H → Prop} {zp : Int} (hS : ab_Sh sx_sk h) (ok_zp : mi_in zp) (ho : (zp < ((0 : Int))) ∧ (((0 : Int)) ≠ ((9 : Int))) ∧ (((0 : Int)) ≠ ((10 : Int)))) (kon : ∀ h1, me_W [] h h1 → Q (some (.inl ((-1 : Int)))) h1) : me_E (d + 1) 71 0 [some (.inr (.inr 60)), some (.inl (zp)), none] [] h Q := mf_seg (mp_gfi_0 h d zp) (mi_tab_gfi_0) hS (mi_okL_c (trivial) (mi_okL_c (ok_zp) (mi_okL_n (mi_okL_e)))) (mi_okS_e) (mi_al (ho.1) (mi_al (ho.2.1) (mi_al (ho.2.2) (mi_al_e)))) (fun h1 W _ hst => mf_ret (M := (3, 1, sb_71)) rfl rfl rfl hst (mi_al_e) (kon h1 W))
set_option maxRecDepth 20000 in
theorem mp_gfi_1 (h : sm_H) (d : Nat) (zp : Int) : mj_path [(71, (3, 1, sb_71)), (49, (2, 1, sb_49))] sx_sk h 20 [0, 1, 0, 1] (d + 1, 71, 0, [some (.inr (.inr 60)), some (.inl (zp)), none], [], [], []) = some ((d + 1, 71, 33, [some (.inr (.inr 60)), some (.inl (zp)), some (.inl ((0 : Int)))], [.inl ((-1 : Int))], [], []), [((0 : Int)) ≤ zp, ((60 : Int)) ≤ zp, ((0 : Int)) ≠ ((9 : Int)), ((0 : Int)) ≠ ((10 : Int))]) := rfl
theorem mi_tab_gfi_1 : ∀ e ∈ ([(71, (3, 1, sb_71)), (49, (2, 1, sb_49))] : mi_T), sc_P e.1 = some e.2 := mi_tb mi_P71 (mi_tb mi_P49 (mi_tb_e))
set_option maxRecDepth 20000 in
theorem ms_gfi_1 {h : sm_H} {d : Nat} {Q : Option mi_V → sm_H → Prop} {zp : Int} (hS : ab_Sh sx_sk h) (ok_zp : mi_in zp) (ho : (((0 : Int)) ≤ zp) ∧ (((60 : Int)) ≤ zp) ∧ (((0 : Int)) ≠ ((9 : Int))) ∧ (((0 : Int)) ≠ ((10 : Int)))) (kon : ∀ h1, me_W [] h h1 → Q (some (.inl ((-1 : Int)))) h1) : me_E (d + 1) 71 0 [some (.inr (.inr 60)), some (.inl (zp)), none] [] h Q := mf_seg (mp_gfi_1 h d zp) (mi_tab_gfi_1) hS (mi_okL_c (trivial) (mi_okL_c (ok_zp) (mi_okL_n (mi_okL_e)))) (mi_okS_e) (mi_al (ho.1) (mi_al (ho.2.1) (mi_al (ho.2.2.1) (mi_al (ho.2.2.2) (mi_al_e))))) (fun h1 W _ hst => mf_ret (M := (3, 1, sb_71)) rfl rfl rfl hst (mi_al_e) (kon h1 W))
set_option maxRecDepth 20000 in
theorem mp_gfi_2 (h : sm_H) (d : Nat) (zp : Int) : mj_path [(71, (3, 1, sb_71)), (49, (2, 1, sb_49))] sx_sk h 35 [0, 0, 1, 0, 0] (d + 1, 71, 0, [some (.inr (.inr 60)), some (.inl (zp)), none], [], [], []) = some ((d + 1, 71, 33, [some (.inr (.inr 60)), some (.inl (zp)), some (.inl (mi_a h 68 (Int.toNat zp)))], [.inl (mi_a h 69 (Int.toNat zp))], [], []), [((0 : Int)) ≤ zp, zp < ((60 : Int)), 0 ≤ zp ∧ zp < 60, (mi_a h 68 (Int.toNat zp)) = ((9 : Int)), ((0 : Int)) ≤ zp, zp < ((60 : Int)), 0 ≤ zp ∧ zp < 60]) := rfl
theorem mi_tab_gfi_2 : ∀ e ∈ ([(71, (3, 1, sb_71)), (49, (2, 1, sb_49))] : mi_T), sc_P e.1 = some e.2 := mi_tb mi_P71 (mi_tb mi_P49 (mi_tb_e))
set_option maxRecDepth 20000 in
theorem ms_gfi_2 {h : sm_H} {d : Nat} {Q : Option mi_V → sm_H → Prop} {zp : Int} (hS : ab_Sh sx_sk h) (ok_zp : mi_in zp) (ho : (((0 : Int)) ≤ zp) ∧ (zp < ((60 : Int))) ∧ (0 ≤ zp ∧ zp < 60) ∧ ((mi_a h 68 (Int.toNat zp)) = ((9 : Int))) ∧ (((0 : Int)) ≤ zp) ∧ (zp < ((60 : Int))) ∧ (0 ≤ zp ∧ zp < 60)) (kon : ∀ h1, me_W [] h h1 → Q (some (.inl (mi_a h 69 (Int.toNat zp)))) h1) : me_E (d + 1) 71 0 [some (.inr (.inr 60)), some (.inl (zp)), none] [] h Q := mf_seg (mp_gfi_2 h d zp) (mi_tab_gfi_2) hS (mi_okL_c (trivial) (mi_okL_c (ok_zp) (mi_okL_n (mi_okL_e)))) (mi_okS_e) (mi_al (ho.1) (mi_al (ho.2.1) (mi_al (ho.2.2.1) (mi_al (ho.2.2.2.1) (mi_al (ho.2.2.2.2.1) (mi_al (ho.2.2.2.2.2.1) (mi_al (ho.2.2.2.2.2.2) (mi_al_e)))))))) (fun h1 W _ hst => mf_ret (M := (3, 1, sb_71)) rfl rfl rfl hst (mi_al_e) (kon h1 W))
set_option maxRecDepth 20000 in
theorem mp_gfi_3 (h : sm_H) (d : Nat) (zp : Int) : mj_path [(71, (3, 1, sb_71)), (49, (2, 1, sb_49))] sx_sk h 23 [0, 0, 0, 1] (d + 1, 71, 0, [some (.inr (.inr 60)), some (.inl (zp)), none], [], [], []) = some ((d + 1, 71, 33, [some (.inr (.inr 60)), some (.inl (zp)), some (.inl (mi_a h 68 (Int.toNat zp)))], [.inl ((-1 : Int))], [], []), [((0 : Int)) ≤ zp, zp < ((60 : Int)), 0 ≤ zp ∧ zp < 60, (mi_a h 68 (Int.toNat zp)) ≠ ((9 : Int)), (mi_a h 68 (Int.toNat zp)) ≠ ((10 : Int))]) := rfl
theorem mi_tab_gfi_3 : ∀ e ∈ ([(71, (3, 1, sb_71)), (49, (2, 1, sb_49))] : mi_T), sc_P e.1 = some e.2 := mi_tb mi_P71 (mi_tb mi_P49 (mi_tb_e))
set_option maxRecDepth 20000 in
theorem ms_gfi_3 {h : sm_H} {d : Nat} {Q : Option mi_V → sm_H → Prop} {zp : Int} (hS : ab_Sh sx_sk h) (ok_zp : mi_in zp) (ho : (((0 : Int)) ≤ zp) ∧ (zp < ((60 : Int))) ∧ (0 ≤ zp ∧ zp < 60) ∧ ((mi_a h 68 (Int.toNat zp)) ≠ ((9 : Int))) ∧ ((mi_a h 68 (Int.toNat zp)) ≠ ((10 : Int)))) (kon : ∀ h1, me_W [] h h1 → Q (some (.inl ((-1 : Int)))) h1) : me_E (d + 1) 71 0 [some (.inr (.inr 60)), some (.inl (zp)), none] [] h Q := mf_seg (mp_gfi_3 h d zp) (mi_tab_gfi_3) hS (mi_okL_c (trivial) (mi_okL_c (ok_zp) (mi_okL_n (mi_okL_e)))) (mi_okS_e) (mi_al (ho.1) (mi_al (ho.2.1) (mi_al (ho.2.2.1) (mi_al (ho.2.2.2.1) (mi_al (ho.2.2.2.2) (mi_al_e)))))) (fun h1 W _ hst => mf_ret (M := (3, 1, sb_71)) rfl rfl rfl hst (mi_al_e) (kon h1 W))
set_option maxRecDepth 20000 in
theorem mp_gfi_4 (h : sm_H) (d : Nat) (zp : Int) : mj_path [(71, (3, 1, sb_71)), (49, (2, 1, sb_49))] sx_sk h 38 [0, 0, 0, 0, 0, 0] (d + 1, 71, 0, [some (.inr (.inr 60)), some (.inl (zp)), none], [], [], []) = some ((d + 1, 71, 33, [some (.inr (.inr 60)), some (.inl (zp)), some (.inl (mi_a h 68 (Int.toNat zp)))], [.inl (mi_a h 69 (Int.toNat zp))], [], []), [((0 : Int)) ≤ zp, zp < ((60 : Int)), 0 ≤ zp ∧ zp < 60, (mi_a h 68 (Int.toNat zp)) ≠ ((9 : Int)), (mi_a h 68 (Int.toNat zp)) = ((10 : Int)), ((0 : Int)) ≤ zp, zp < ((60 : Int)), 0 ≤ zp ∧ zp < 60]) := rfl
theorem mi_tab_gfi_4 : ∀ e ∈ ([(71, (3, 1, sb_71)), (49, (2, 1, sb_49))] : mi_T), sc_P e.1 = some e.2 := mi_tb mi_P71 (mi_tb mi_P49 (mi_tb_e))
set_option maxRecDepth 20000 in
theorem ms_gfi_4 {h : sm_H} {d : Nat} {Q : Option mi_V → sm_H → Prop} {zp : Int} (hS : ab_Sh sx_sk h) (ok_zp : mi_in zp) (ho : (((0 : Int)) ≤ zp) ∧ (zp < ((60 : Int))) ∧ (0 ≤ zp ∧ zp < 60) ∧ ((mi_a h 68 (Int.toNat zp)) ≠ ((9 : Int))) ∧ ((mi_a h 68 (Int.toNat zp)) = ((10 : Int))) ∧ (((0 : Int)) ≤ zp) ∧ (zp < ((60 : Int))) ∧ (0 ≤ zp ∧ zp < 60)) (kon : ∀ h1, me_W [] h h1 → Q (some (.inl (mi_a h 69 (Int.toNat zp)))) h1) : me_E (d + 1) 71 0 [some (.inr (.inr 60)), some (.inl (zp)), none] [] h Q := mf_seg (mp_gfi_4 h d zp) (mi_tab_gfi_4) hS (mi_okL_c (trivial) (mi_okL_c (ok_zp) (mi_okL_n (mi_okL_e)))) (mi_okS_e) (mi_al (ho.1) (mi_al (ho.2.1) (mi_al (ho.2.2.1) (mi_al (ho.2.2.2.1) (mi_al (ho.2.2.2.2.1) (mi_al (ho.2.2.2.2.2.1) (mi_al (ho.2.2.2.2.2.2.1) (mi_al (ho.2.2.2.2.2.2.2) (mi_al_e))))))))) (fun h1 W _ hst => mf_ret (M := (3, 1, sb_71)) rfl rfl rfl hst (mi_al_e) (kon h1 W))
set_option maxRecDepth 20000 in
theorem mt_gfi {h : sm_H} {d : Nat} {Q : Option mi_V → sm_H → Prop} {zp : Int} (hS : ab_Sh sx_sk h) (ok_zp : mi_in zp) (k0 : (zp < ((0 : Int))) → (∀ h1, ab_Sh sx_sk h1 → ab_Fr [] h h1 → Q (some (.inl ((-1 : Int)))) h1)) (k1 : (((0 : Int)) ≤ zp) → (((60 : Int)) ≤ zp) → (∀ h1, ab_Sh sx_sk h1 → ab_Fr [] h h1 → Q (some (.inl ((-1 : Int)))) h1)) (k2 : (((0 : Int)) ≤ zp) → (zp < ((60 : Int))) → ((mi_a h 68 (Int.toNat zp)) = ((9 : Int))) → ((0 ≤ zp ∧ zp < 60)) ∧ (∀ h1, ab_Sh sx_sk h1 → ab_Fr [] h h1 → Q (some (.inl (mi_a h 69 (Int.toNat zp)))) h1)) (k3 : (((0 : Int)) ≤ zp) → (zp < ((60 : Int))) → ((mi_a h 68 (Int.toNat zp)) ≠ ((9 : Int))) → ((mi_a h 68 (Int.toNat zp)) ≠ ((10 : Int))) → ((0 ≤ zp ∧ zp < 60)) ∧ (∀ h1, ab_Sh sx_sk h1 → ab_Fr [] h h1 → Q (some (.inl ((-1 : Int)))) h1)) (k4 : (((0 : Int)) ≤ zp) → (zp < ((60 : Int))) → ((mi_a h 68 (Int.toNat zp)) ≠ ((9 : Int))) → ((mi_a h 68 (Int.toNat zp)) = ((10 : Int))) → ((0 ≤ zp ∧ zp < 60)) ∧ (∀ h1, ab_Sh sx_sk h1 → ab_Fr [] h h1 → Q (some (.inl (mi_a h 69 (Int.toNat zp)))) h1)) : me_E (d + 1) 71 0 [some (.inr (.inr 60)), some (.inl (zp)), none] [] h Q := Or.elim (mi_em .lt (zp) (((0 : Int)))) (fun c0 => ms_gfi_0 hS ok_zp ⟨c0, (by decide), (by decide)⟩ (fun h1 W => (k0 c0) h1 W.1 (W.2.2.2.2.2 _ rfl))) (fun c0 => Or.elim (mi_em .ge (zp) (((60 : Int)))) (fun c1 => ms_gfi_1 hS ok_zp ⟨c0, c1, (by decide), (by decide)⟩ (fun h1 W => (k1 c0 c1) h1 W.1 (W.2.2.2.2.2 _ rfl))) (fun c1 => Or.elim (mi_em .eq ((mi_a h 68 (Int.toNat zp))) (((9 : Int)))) (fun c2 => ms_gfi_2 hS ok_zp ⟨c0, c1, (k2 c0 c1 c2).1, c2, c0, c1, (k2 c0 c1 c2).1⟩ (fun h1 W => (k2 c0 c1 c2).2 h1 W.1 (W.2.2.2.2.2 _ rfl))) (fun c2 => Or.elim (mi_em .ne ((mi_a h 68 (Int.toNat zp))) (((10 : Int)))) (fun c3 => ms_gfi_3 hS ok_zp ⟨c0, c1, (k3 c0 c1 c2 c3).1, c2, c3⟩ (fun h1 W => (k3 c0 c1 c2 c3).2 h1 W.1 (W.2.2.2.2.2 _ rfl))) (fun c3 => ms_gfi_4 hS ok_zp ⟨c0, c1, (k4 c0 c1 c2 c3).1, c2, c3, c0, c1, (k4 c0 c1 c2 c3).1⟩ (fun h1 W => (k4 c0 c1 c2 c3).2 h1 W.1 (W.2.2.2.2.2 _ rfl))))))
/-! the class's Grammar, exactly -/
section CGR
variable {d : Nat} {h h0 : sm_H}
def gd_W : List (Nat × Nat) := [(7680, 7681), (7685, 7687), (7690, 7691), (7698, 7699), (8064, 8065), (8192, 8193)]
def gd_Q (h0 : sm_H) (w : Option mi_V) (h' : sm_H) : Prop := w = none ∧ ab_Sh sx_sk h' ∧ ab_Fr gd_W h0 h' ∧ (mi_f h' 7680 = 0 ∧ mi_f h' 7685 = 0 ∧ mi_f h' 7686 = 0 ∧ mi_f h' 7690 = 0 ∧ mi_f h' 7698 = 0) ∧ ∀ f : Nat, f < 70 → mi_a h' 63 f = -1 ∧ mi_a h' 64 f = 0
theorem gd27 : ∀ (N : Nat) (zf : Int) (h : sm_H), 70 - zf < N → 0 ≤ zf → zf ≤ 70 → ab_Sh sx_sk h → ab_Fr gd_W h0 h → (mi_f h 7680 = 0 ∧ mi_f h 7685 = 0 ∧ mi_f h 7686 = 0 ∧ mi_f h 7690 = 0 ∧ mi_f h 7698 = 0) → (∀ f : Nat, (f : Int) < zf → mi_a h 63 f = -1 ∧ mi_a h 64 f = 0) → me_E (d + 1) 15 27 [some (.inr (.inr 60)), some (.inl zf)] [] h (gd_Q h0) := by
  intro N
  induction N with
  | zero => intro zf h hN f0 f1; exfalso; omega
  | succ N ih =>
    intro zf h hN f0 f1 hS hF hz hl
    refine mt_gdB hS ⟨by omega, by omega⟩ ?_ ?_ ?_
    · intro c h1 g1 g2
      have e := me_nil g2
      subst e
      exact ⟨rfl, hS, hF, hz, fun f hf => hl f (by omega)⟩
    · intro c c2; exfalso; omega
    · intro c c2
      refine ⟨⟨⟨by omega, by omega⟩, ⟨by omega, by omega⟩⟩, fun h1 g1 g2 g3 g4 => ?_⟩
      refine ih (zf + 1) h1 (by omega) (by omega) (by omega) g1 (hF.trans (g4.wide (fun c hc => ab_swr_ok (by decide) hc))) ?_ (fun f hf => ?_)
      · rw [me_f (c := 7680) g4 hS rfl rfl, me_f (c := 7685) g4 hS rfl rfl, me_f (c := 7686) g4 hS rfl rfl, me_f (c := 7690) g4 hS rfl rfl, me_f (c := 7698) g4 hS rfl rfl]
        exact hz
      · rw [g2, g3]
        by_cases e : f = zf.toNat
        · rw [if_pos e, if_pos e]
          exact ⟨rfl, rfl⟩
        · rw [if_neg e, if_neg e]
          exact hl f (by omega)
theorem me_gdrop (hS : ab_Sh sx_sk h) : me_E (d + 1) 15 0 [some (.inr (.inr 60)), none] [] h (gd_Q h) := by
  refine mt_gdA hS (fun h1 g1 g2 g3 g4 g5 g6 g7 => ?_)
  exact gd27 72 0 h1 (by decide) (by decide) (by decide) g1 (g7.wide (fun c hc => ab_swr_ok (by decide) hc)) ⟨g2, g3, g4, g5, g6⟩ (fun f hf => by omega)
/-- the first place of a row that holds zl -/
def fi_Q (h : sm_H) (n : Int) (k : Nat) (zl : Int) (w : Option mi_V) (h' : sm_H) : Prop := h' = h ∧ ∃ z, w = some (.inl z) ∧ ((0 ≤ z ∧ z < n ∧ mi_a h k z.toNat = zl ∧ ∀ j : Nat, (j : Int) < z → mi_a h k j ≠ zl) ∨ (z = -1 ∧ ∀ j : Nat, (j : Int) < n → mi_a h k j ≠ zl))
theorem gr2 {zl : Int} (hS : ab_Sh sx_sk h) (ol : mi_in zl) (n1 : mi_f h 7680 ≤ 10) : ∀ (N : Nat) (zr : Int), 10 - zr < N → 0 ≤ zr → zr ≤ 10 → (∀ j : Nat, (j : Int) < zr → mi_a h 61 j ≠ zl) → me_E (d + 1) 48 2 [some (.inr (.inr 60)), some (.inl zl), some (.inl zr)] [] h (fi_Q h (mi_f h 7680) 61 zl) := by
  intro N
  induction N with
  | zero => intro zr hN r0 r1; exfalso; omega
  | succ N ih =>
    intro zr hN r0 r1 hn
    refine mt_gnB hS ol ⟨by omega, by omega⟩ ?_ ?_ ?_ ?_ ?_ ?_ ?_
    · intro b c h1 g1 g2
      exact ⟨me_nil g2, -1, rfl, Or.inr ⟨rfl, fun j hj => hn j (by omega)⟩⟩
    · intro b c c2; exfalso; omega
    · intro b c c2; exfalso; omega
    · intro b c c2 c3; exfalso; omega
    · intro b c c2 c3; exfalso; omega
    · intro b c c2 c3 c4
      refine ⟨⟨⟨by omega, by omega⟩, ⟨by omega, by omega⟩⟩, fun h1 g1 g2 => ?_⟩
      have e := me_nil g2
      subst e
      refine ih (zr + 1) (by omega) (by omega) (by omega) (fun j hj => ?_)
      by_cases e : (j : Int) = zr
      · rw [show j = zr.toNat by omega]
        exact c4
      · exact hn j (by omega)
    · intro b c c2 c3 c4
      exact ⟨⟨by omega, by omega⟩, fun h1 g1 g2 => ⟨me_nil g2, zr, rfl, Or.inl ⟨c2, c, c4, hn⟩⟩⟩
theorem me_gruleNamed {zl : Int} (hS : ab_Sh sx_sk h) (ol : mi_in zl) (n1 : mi_f h 7680 ≤ 10) : me_E (d + 1) 48 0 [some (.inr (.inr 60)), some (.inl zl), none] [] h (fi_Q h (mi_f h 7680) 61 zl) := by
  refine mt_gnA hS ol (fun h1 g1 g2 => ?_)
  have e := me_nil g2
  subst e
  exact gr2 hS ol n1 12 0 (by decide) (by decide) (by decide) (fun j hj => by omega)
theorem gl2 {zl : Int} (hS : ab_Sh sx_sk h) (ol : mi_in zl) (n1 : mi_f h 7698 ≤ 20) : ∀ (N : Nat) (zr : Int), 20 - zr < N → 0 ≤ zr → zr ≤ 20 → (∀ j : Nat, (j : Int) < zr → mi_a h 75 j ≠ zl) → me_E (d + 1) 58 2 [some (.inr (.inr 60)), some (.inl zl), some (.inl zr)] [] h (fi_Q h (mi_f h 7698) 75 zl) := by
  intro N
  induction N with
  | zero => intro zr hN r0 r1; exfalso; omega
  | succ N ih =>
    intro zr hN r0 r1 hn
    refine mt_glB hS ol ⟨by omega, by omega⟩ ?_ ?_ ?_ ?_ ?_ ?_ ?_
    · intro b c h1 g1 g2
      exact ⟨me_nil g2, -1, rfl, Or.inr ⟨rfl, fun j hj => hn j (by omega)⟩⟩
    · intro b c c2; exfalso; omega
    · intro b c c2; exfalso; omega
    · intro b c c2 c3; exfalso; omega
    · intro b c c2 c3; exfalso; omega
    · intro b c c2 c3 c4
      refine ⟨⟨⟨by omega, by omega⟩, ⟨by omega, by omega⟩⟩, fun h1 g1 g2 => ?_⟩
      have e := me_nil g2
      subst e
      refine ih (zr + 1) (by omega) (by omega) (by omega) (fun j hj => ?_)
      by_cases e : (j : Int) = zr
      · rw [show j = zr.toNat by omega]
        exact c4
      · exact hn j (by omega)
    · intro b c c2 c3 c4
      exact ⟨⟨by omega, by omega⟩, fun h1 g1 g2 => ⟨me_nil g2, zr, rfl, Or.inl ⟨c2, c, c4, hn⟩⟩⟩
theorem me_gliteral {zl : Int} (hS : ab_Sh sx_sk h) (ol : mi_in zl) (n1 : mi_f h 7698 ≤ 20) : me_E (d + 1) 58 0 [some (.inr (.inr 60)), some (.inl zl), none] [] h (fi_Q h (mi_f h 7698) 75 zl) := by
  refine mt_glA hS ol (fun h1 g1 g2 => ?_)
  have e := me_nil g2
  subst e
  exact gl2 hS ol n1 22 0 (by decide) (by decide) (by decide) (fun j hj => by omega)
theorem me_gaddRule {zl zp : Int} (hS : ab_Sh sx_sk h) (ol : mi_in zl) (op : mi_in zp) (n0 : 0 ≤ mi_f h 7680) (n1 : mi_f h 7680 < 10) : me_E (d + 1) 50 0 [some (.inr (.inr 60)), some (.inl zl), some (.inl zp)] [] h (fun w h' => w = some (.inl (mi_f h 7680)) ∧ ab_Sh sx_sk h' ∧ ab_Fr [(7680, 7681), (7808, 7809), (7936, 7937)] h h' ∧ mi_f h' 7680 = mi_f h 7680 + 1 ∧ (∀ i, mi_a h' 61 i = if i = (mi_f h 7680).toNat then zl else mi_a h 61 i) ∧ ∀ i, mi_a h' 62 i = if i = (mi_f h 7680).toNat then zp else mi_a h 62 i) := by
  refine mt_gar hS ol op ?_ ?_ ?_
  · intro b c; exfalso; omega
  · intro b c c2; exfalso; omega
  · intro b c c2
    exact ⟨⟨⟨by omega, by omega⟩, ⟨by omega, by omega⟩, ⟨by omega, by omega⟩⟩, fun h1 g1 g2 g3 g4 g5 => ⟨by rw [Int.add_sub_cancel], g1, g5, g2, g3, g4⟩⟩
theorem me_gaddGroup (hS : ab_Sh sx_sk h) (n0 : 0 ≤ mi_f h 7685) (n1 : mi_f h 7685 ≤ 60) : me_E (d + 1) 62 0 [some (.inr (.inr 60))] [] h (fun w h' => w = some (.inl (10 + mi_f h 7685)) ∧ ab_Sh sx_sk h' ∧ ab_Fr [(7685, 7686)] h h' ∧ mi_f h' 7685 = mi_f h 7685 + 1) := by
  refine mt_gag hS (fun b => ⟨⟨⟨by omega, by omega⟩, ⟨by omega, by omega⟩, ⟨by omega, by omega⟩⟩, fun h1 g1 g2 g3 => ⟨?_, g1, g3, g2⟩⟩)
  rw [show 10 + (mi_f h 7685 + 1) - 1 = 10 + mi_f h 7685 by omega]
theorem me_gaddLiteral {zl : Int} (hS : ab_Sh sx_sk h) (ol : mi_in zl) (n0 : 0 ≤ mi_f h 7698) (n1 : mi_f h 7698 ≤ 20) (hk : (∀ j : Nat, (j : Int) < mi_f h 7698 → mi_a h 75 j ≠ zl) → mi_f h 7698 < 20) : me_E (d + 2) 61 0 [some (.inr (.inr 60)), some (.inl zl), none] [] h (fun w h' => ab_Sh sx_sk h' ∧ ab_Fr [(7698, 7699), (9600, 9601)] h h' ∧ ∃ z, w = some (.inl z) ∧ ((0 ≤ z ∧ z < mi_f h 7698 ∧ mi_a h 75 z.toNat = zl ∧ (∀ j : Nat, (j : Int) < z → mi_a h 75 j ≠ zl) ∧ h' = h) ∨ (z = mi_f h 7698 ∧ (∀ j : Nat, (j : Int) < mi_f h 7698 → mi_a h 75 j ≠ zl) ∧ mi_f h' 7698 = mi_f h 7698 + 1 ∧ ∀ i, mi_a h' 75 i = if i = (mi_f h 7698).toNat then zl else mi_a h 75 i))) := by
  refine mt_galA hS ol (fun h1 g1 g2 => ?_)
  have e := me_nil g2
  subst e
  refine ⟨_, me_gliteral (d := d) hS ol n1, fun w h2 ow hq => ?_⟩
  obtain ⟨rfl, z, rfl, hz⟩ := hq
  refine mt_galB (zz := z) hS ol ⟨by omega, by omega⟩ ?_ ?_ ?_ ?_
  · intro b c c2; exfalso; omega
  · intro b c c2 c3
    exfalso
    rcases hz with x | x
    · omega
    · have := hk x.2
      omega
  · intro b c c2 c3
    have hn : ∀ j : Nat, (j : Int) < mi_f h2 7698 → mi_a h2 75 j ≠ zl := by
      rcases hz with x | x
      · omega
      · exact x.2
    refine ⟨⟨⟨by omega, by omega⟩, ⟨by omega, by omega⟩, ⟨by omega, by omega⟩⟩, fun h3 r1 r2 r3 r4 => ⟨r1, r4, mi_f h2 7698, by rw [Int.add_sub_cancel], Or.inr ⟨rfl, hn, r2, r3⟩⟩⟩
  · intro c h3 r1 r2
    have e := me_nil r2
    subst e
    refine ⟨hS, ab_Fr.refl, z, rfl, Or.inl ?_⟩
    rcases hz with x | x
    · exact ⟨x.1, x.2.1, x.2.2.1, x.2.2.2, rfl⟩
    · omega
def ga_W : List (Nat × Nat) := [(7686, 7687), (8064, 8065), (8192, 8193), (8320, 8321), (8448, 8449), (8576, 8577)]
def ga_R (h h' : sm_H) (zf zb zp : Int) : Prop :=
  mi_f h' 7686 = mi_f h 7686 + 1 ∧
  (∀ i, mi_a h' 63 i = if zb = -1 ∧ i = zf.toNat then mi_f h 7686 else mi_a h 63 i) ∧
  (∀ i, mi_a h' 64 i = if i = zf.toNat then mi_a h 64 i + 1 else mi_a h 64 i) ∧
  (∀ i, mi_a h' 65 i = if i = (mi_f h 7686).toNat then -1 else mi_a h 65 i) ∧
  (∀ i, mi_a h' 66 i = if zb ≠ -1 ∧ i = zb.toNat then mi_f h 7686 else if i = (mi_f h 7686).toNat then -1 else mi_a h 66 i) ∧
  (∀ i, mi_a h' 67 i = if i = (mi_f h 7686).toNat then zp else mi_a h 67 i)
theorem me_gaddAlternative {zf zb zp : Int} (hS : ab_Sh sx_sk h) (op : mi_in zp) (n0 : 0 ≤ mi_f h 7686) (n1 : mi_f h 7686 < 66) (f0 : 0 ≤ zf) (f1 : zf < 70) (b0 : -1 ≤ zb) (b1 : zb < 66) (s0 : 0 ≤ mi_a h 64 zf.toNat) (s1 : mi_a h 64 zf.toNat ≤ 100) : me_E (d + 1) 53 0 [some (.inr (.inr 60)), some (.inl zf), some (.inl zb), some (.inl zp), none] [] h (fun w h' => w = some (.inl (mi_f h 7686)) ∧ ab_Sh sx_sk h' ∧ ab_Fr ga_W h h' ∧ ga_R h h' zf zb zp) := by
  have of : mi_in zf := ⟨by omega, by omega⟩
  have ob : mi_in zb := ⟨by omega, by omega⟩
  have oa : mi_in (mi_f h 7686) := ⟨by omega, by omega⟩
  refine mt_gaaA hS of ob op ?_ ?_ ?_
  · intro b c; exfalso; omega
  · intro b c c2; exfalso; omega
  intro b c c2
  refine ⟨⟨⟨by omega, by omega⟩, ⟨by omega, by omega⟩⟩, fun h1 g1 g2 g3 g4 g5 g6 => ?_⟩
  have e64 : ∀ i, mi_a h1 64 i = mi_a h 64 i := fun i => me_a (k := 64) g6 hS rfl rfl
  have e63 : ∀ i, mi_a h1 63 i = mi_a h 63 i := fun i => me_a (k := 63) g6 hS rfl rfl
  refine mt_gaaB g1 of ob op oa ?_ ?_ ?_
  · intro c3; exfalso; omega
  · intro c3 c4; exfalso; omega
  intro c3 c4
  refine ⟨⟨⟨by omega, by omega⟩, by rw [e64]; omega⟩, fun h2 r1 r2 r3 => ?_⟩
  have F2 : ab_Fr ga_W h h2 := (g6.wide (fun c hc => ab_swr_ok (by decide) hc)).trans (r3.wide (fun c hc => ab_swr_ok (by decide) hc))
  have q64 : ∀ i, mi_a h2 64 i = if i = zf.toNat then mi_a h 64 i + 1 else mi_a h 64 i := fun i => by
    rw [r2, e64, e64]
    by_cases e : i = zf.toNat
    · rw [if_pos e, if_pos e, e]
    · rw [if_neg e, if_neg e]
  refine mt_gaaC r1 of ob op oa ?_ ?_ ?_ ?_ ?_ ?_
  · intro c5 c6; exfalso; omega
  · intro c5 c6 c7; exfalso; omega
  · intro c5 c6 c7
    refine ⟨⟨by omega, by omega⟩, fun h3 u1 u2 u3 => ⟨rfl, u1, F2.trans (u3.wide (fun c hc => ab_swr_ok (by decide) hc)), ?_, fun i => ?_, fun i => ?_, fun i => ?_, fun i => ?_, fun i => ?_⟩⟩
    · rw [me_f (c := 7686) u3 r1 rfl rfl, me_f (c := 7686) r3 g1 rfl rfl, g2]
    · rw [me_a (k := 63) u3 r1 rfl rfl, me_a (k := 63) r3 g1 rfl rfl, e63, if_neg (fun x => c5 x.1)]
    · rw [me_a (k := 64) u3 r1 rfl rfl, q64]
    · rw [me_a (k := 65) u3 r1 rfl rfl, me_a (k := 65) r3 g1 rfl rfl, g3]
    · rw [u2, me_a (k := 66) r3 g1 rfl rfl, g4]
      by_cases e : i = zb.toNat
      · rw [if_pos e, if_pos ⟨c5, e⟩]
      · rw [if_neg e, if_neg (c := zb ≠ -1 ∧ i = zb.toNat) (fun x => e x.2)]
    · rw [me_a (k := 67) u3 r1 rfl rfl, me_a (k := 67) r3 g1 rfl rfl, g5]
  · intro c5 c6; exfalso; omega
  · intro c5 c6 c7; exfalso; omega
  · intro c5 c6 c7
    refine ⟨⟨by omega, by omega⟩, fun h3 u1 u2 u3 => ⟨rfl, u1, F2.trans (u3.wide (fun c hc => ab_swr_ok (by decide) hc)), ?_, fun i => ?_, fun i => ?_, fun i => ?_, fun i => ?_, fun i => ?_⟩⟩
    · rw [me_f (c := 7686) u3 r1 rfl rfl, me_f (c := 7686) r3 g1 rfl rfl, g2]
    · rw [u2, me_a (k := 63) r3 g1 rfl rfl, e63]
      by_cases e : i = zf.toNat
      · rw [if_pos e, if_pos ⟨c5, e⟩]
      · rw [if_neg e, if_neg (c := zb = -1 ∧ i = zf.toNat) (fun x => e x.2)]
    · rw [me_a (k := 64) u3 r1 rfl rfl, q64]
    · rw [me_a (k := 65) u3 r1 rfl rfl, me_a (k := 65) r3 g1 rfl rfl, g3]
    · rw [me_a (k := 66) u3 r1 rfl rfl, me_a (k := 66) r3 g1 rfl rfl, g4, if_neg (c := zb ≠ -1 ∧ i = zb.toNat) (fun x => x.1 c5)]
    · rw [me_a (k := 67) u3 r1 rfl rfl, me_a (k := 67) r3 g1 rfl rfl, g5]
def gp_W : List (Nat × Nat) := [(7690, 7691), (8704, 8705), (8832, 8833), (8960, 8961), (9088, 9089), (9216, 9217), (9344, 9345), (9472, 9473)]
def gp_R (h h' : sm_H) (zs zv zp : Int) : Prop :=
  mi_f h' 7690 = mi_f h 7690 + 1 ∧
  (∀ i, mi_a h' 68 i = if i = (mi_f h 7690).toNat then zs else mi_a h 68 i) ∧
  (∀ i, mi_a h' 69 i = if i = (mi_f h 7690).toNat then zv else mi_a h 69 i) ∧
  (∀ i, mi_a h' 70 i = if i = (mi_f h 7690).toNat then zp else mi_a h 70 i) ∧
  (∀ i, mi_a h' 71 i = if i = (mi_f h 7690).toNat then -1 else mi_a h 71 i) ∧
  (∀ i, mi_a h' 72 i = if i = (mi_f h 7690).toNat then 0 else mi_a h 72 i) ∧
  (∀ i, mi_a h' 73 i = if i = (mi_f h 7690).toNat then zp else mi_a h 73 i) ∧
  (∀ i, mi_a h' 74 i = if i = (mi_f h 7690).toNat then 0 else mi_a h 74 i)
theorem me_gaddPart {zs zv zp : Int} (hS : ab_Sh sx_sk h) (os : mi_in zs) (ov : mi_in zv) (op : mi_in zp) (n0 : 0 ≤ mi_f h 7690) (n1 : mi_f h 7690 < 60) : me_E (d + 1) 60 0 [some (.inr (.inr 60)), some (.inl zs), some (.inl zv), some (.inl zp), none] [] h (fun w h' => w = some (.inl (mi_f h 7690)) ∧ ab_Sh sx_sk h' ∧ ab_Fr gp_W h h' ∧ gp_R h h' zs zv zp) := by
  refine mt_gap hS os ov op ?_ ?_ ?_
  · intro b c; exfalso; omega
  · intro b c c2; exfalso; omega
  · intro b c c2
    exact ⟨⟨⟨by omega, by omega⟩, ⟨by omega, by omega⟩⟩, fun h1 g1 g2 g3 g4 g5 g6 g7 g8 g9 g10 => ⟨rfl, g1, g10, g2, g3, g4, g5, g6, g7, g8, g9⟩⟩
theorem me_gattach {za zb zp : Int} (hS : ab_Sh sx_sk h) (op : mi_in zp) (a0 : 0 ≤ za) (a1 : za < 66) (b0 : -1 ≤ zb) (b1 : zb < 60) : me_E (d + 1) 63 0 [some (.inr (.inr 60)), some (.inl za), some (.inl zb), some (.inl zp)] [] h (fun w h' => w = none ∧ ab_Sh sx_sk h' ∧ ab_Fr [(8320, 8321), (9088, 9089)] h h' ∧ (∀ i, mi_a h' 65 i = if zb = -1 ∧ i = za.toNat then zp else mi_a h 65 i) ∧ ∀ i, mi_a h' 71 i = if zb ≠ -1 ∧ i = zb.toNat then zp else mi_a h 71 i) := by
  refine mt_gat hS ⟨by omega, by omega⟩ ⟨by omega, by omega⟩ op ?_ ?_ ?_ ?_ ?_ ?_
  · intro c c2; exfalso; omega
  · intro c c2 c3; exfalso; omega
  · intro c c2 c3
    refine ⟨⟨by omega, by omega⟩, fun h1 g1 g2 g3 => ⟨rfl, g1, g3.wide (fun c hc => ab_swr_ok (by decide) hc), fun i => ?_, fun i => ?_⟩⟩
    · rw [me_a (k := 65) g3 hS rfl rfl, if_neg (fun x => c x.1)]
    · rw [g2]
      by_cases e : i = zb.toNat
      · rw [if_pos e, if_pos ⟨c, e⟩]
      · rw [if_neg e, if_neg (fun x => e x.2)]
  · intro c c2; exfalso; omega
  · intro c c2 c3; exfalso; omega
  · intro c c2 c3
    refine ⟨⟨by omega, by omega⟩, fun h1 g1 g2 g3 => ⟨rfl, g1, g3.wide (fun c hc => ab_swr_ok (by decide) hc), fun i => ?_, fun i => ?_⟩⟩
    · rw [g2]
      by_cases e : i = za.toNat
      · rw [if_pos e, if_pos ⟨c, e⟩]
      · rw [if_neg e, if_neg (fun x => e x.2)]
    · rw [me_a (k := 71) g3 hS rfl rfl, if_neg (fun x => x.1 c)]
/-- the form in a part -/
def gf_v (h : sm_H) (p : Int) : Int := if mi_a h 68 p.toNat = 9 ∨ mi_a h 68 p.toNat = 10 then mi_a h 69 p.toNat else -1
theorem me_gformIn {zp : Int} (hS : ab_Sh sx_sk h) (p0 : 0 ≤ zp) (p1 : zp < 60) : me_E (d + 1) 71 0 [some (.inr (.inr 60)), some (.inl zp), none] [] h (fun w h' => h' = h ∧ w = some (.inl (gf_v h zp))) := by
  refine mt_gfi hS ⟨by omega, by omega⟩ ?_ ?_ ?_ ?_ ?_
  · intro c; exfalso; omega
  · intro c c2; exfalso; omega
  · intro c c2 c3
    exact ⟨⟨by omega, by omega⟩, fun h1 g1 g2 => ⟨me_nil g2, by unfold gf_v; rw [if_pos (Or.inl c3)]⟩⟩
  · intro c c2 c3 c4
    exact ⟨⟨by omega, by omega⟩, fun h1 g1 g2 => ⟨me_nil g2, by unfold gf_v; rw [if_neg (fun x => x.elim c3 c4)]⟩⟩
  · intro c c2 c3 c4
    exact ⟨⟨by omega, by omega⟩, fun h1 g1 g2 => ⟨me_nil g2, by unfold gf_v; rw [if_pos (Or.inr c4)]⟩⟩
end CGR
/-! READING, purely: a turn of form; two posts of one run -/
theorem mi_c_inj {x y : mi_V} (hx : mi_ok x) (hy : mi_ok y) (e : mi_c x = mi_c y) : x = y := by
  rcases x with a | a | a <;> rcases y with b | b | b
  · have e2 : Value.int (Int32.ofInt a) = Value.int (Int32.ofInt b) := e
    injection e2 with e3
    have := congrArg Int32.toInt e3
    rw [mi_ti hx, mi_ti hy] at this
    rw [this]
  · exact Value.noConfusion e
  · exact Value.noConfusion e
  · exact Value.noConfusion e
  · have e2 : Value.long a = Value.long b := e
    injection e2 with e3
    rw [e3]
  · exact Value.noConfusion e
  · exact Value.noConfusion e
  · exact Value.noConfusion e
  · have e2 : Value.ref a = Value.ref b := e
    injection e2 with e3
    rw [e3]
theorem me_E.and {d m pc : Nat} {ls : mi_L} {st : List mi_V} {h : sm_H} {Q Q' : Option mi_V → sm_H → Prop} (k : me_E d m pc ls st h Q) (k' : me_E d m pc ls st h Q') : me_E d m pc ls st h (fun w h' => Q w h' ∧ Q' w h') := by
  obtain ⟨n, v, h1, r, w, e1, e2, e3⟩ := k
  obtain ⟨n', v', h1', r', w', e1', e2', e3'⟩ := k'
  have := sm_run_same r r'
  injection this with ev eh
  subst eh
  refine ⟨n, v, h1, r, w, e1, e2, e3, ?_⟩
  have : w = w' := by
    rw [e1, e1'] at ev
    cases w with
    | none => cases w' with
      | none => rfl
      | some y => cases ev
    | some x => cases w' with
      | none => cases ev
      | some y =>
        have ev2 : some (mi_c x) = some (mi_c y) := ev
        injection ev2 with ev3
        rw [mi_c_inj (e2 x rfl) (e2' y rfl) ev3]
  rw [this]
  exact e3'
/-! THE WALK THAT GROWS, purely and exactly: entries as in wk_E; x the chance, fu the fuel, T the nodes in their order (kind, value, level), dp how many are open, ps the pairs that are open (begin, middle; the last one first) -/
abbrev gm_S : Type := Int64 × Int × List (Int × Int × Int) × Int × List (Nat × Nat)
def gm_X (s : gm_S) : Int64 := s.1
def gm_F (s : gm_S) : Int := s.2.1
def gm_T (s : gm_S) : List (Int × Int × Int) := s.2.2.1
def gm_D (s : gm_S) : Int := s.2.2.2.1
def gm_P (s : gm_S) : List (Nat × Nat) := s.2.2.2.2
section GM0
variable (x : Int64) (f d : Int) (T : List (Int × Int × Int)) (P : List (Nat × Nat))
theorem gm_X_mk : gm_X (x, f, T, d, P) = x := rfl
theorem gm_F_mk : gm_F (x, f, T, d, P) = f := rfl
theorem gm_T_mk : gm_T (x, f, T, d, P) = T := rfl
theorem gm_D_mk : gm_D (x, f, T, d, P) = d := rfl
theorem gm_P_mk : gm_P (x, f, T, d, P) = P := rfl
end GM0
abbrev gm_C : Type := List wk_E × gm_S
def gm_x (x : Int64) : Int64 := x * (Int64.ofNat 6364136223846793005) + (Int64.ofNat 1442695040888963407)
/-- what is drawn below n, where x is the chance after the draw -/
def gm_v (x : Int64) (n : Int) : Int := (((x.toUInt64 >>> ((Int32.ofInt (33 : Int)).toInt64.toUInt64 &&& Int64.toUInt64 63)).toInt64) - ((x.toUInt64 >>> ((Int32.ofInt (33 : Int)).toInt64.toUInt64 &&& Int64.toUInt64 63)).toInt64) / ((Int32.ofInt n).toInt64) * ((Int32.ofInt n).toInt64)).toInt32.toInt
/-- the letters of a name: how many more, the place, the chance, those so far -/
def gm_ls : Nat → Nat → Int64 → Int → Int × Int64
  | 0, _, x, v => (v, x)
  | m + 1, k, x, v => gm_ls m (k + 1) (gm_x x) (v + (1 + gm_v (gm_x x) 3) * 32 ^ k)
/-- z behind it as long as it is a keyword -/
def gm_zs (kw : Int → Bool) : Nat → Nat → Int → Int
  | 0, _, v => v
  | m + 1, k, v => if kw v then gm_zs kw m (k + 1) (v + 26 * 32 ^ k) else v
def gm_nm (kw : Int → Bool) (x : Int64) : Int × Int64 :=
  let n := (1 + gm_v (gm_x x) 3).toNat
  let p := gm_ls n 0 (gm_x x) 0
  (gm_zs kw 7 n p.1, p.2)
/-- a node comes -/
def gm_c (k v : Int) (s : gm_S) : Option gm_S := if 100 ≤ (gm_T s).length then none else some (gm_X s, gm_F s, gm_T s ++ [(k + 10 * ((gm_T s).length : Int), v, gm_D s)], gm_D s, gm_P s)
def gm_d (s : gm_S) : gm_S := (gm_X s, gm_F s, gm_T s, gm_D s + 1, gm_P s)
def gm_en (g : wk_g) (i : Int) (r : List wk_E) (s : gm_S) : Option gm_C :=
  if 12 ≤ wk_ul r then none else (gm_c 1 i (gm_X s, gm_F s - 1, gm_T s, gm_D s, gm_P s)).map (fun t => ((1, g 114 i.toNat, 0) :: (2, 1, 0) :: r, gm_d t))
def gm_sg (g : wk_g) (kw : Int → Bool) (u : Int) (r : List wk_E) (s : gm_S) : Option gm_C :=
  if g 119 u.toNat = 9 then gm_en g (g 115 (g 120 u.toNat).toNat) r s
  else if g 119 u.toNat = 10 then some ((1, g 120 u.toNat, 0) :: r, s)
  else if g 119 u.toNat = 1 then (gm_c 2 (gm_v (gm_x (gm_X s)) 10000) (gm_x (gm_X s), gm_F s, gm_T s, gm_D s, gm_P s)).map (fun t => (r, t))
  else if g 119 u.toNat = 2 then (gm_c 3 (gm_nm kw (gm_X s)).1 ((gm_nm kw (gm_X s)).2, gm_F s, gm_T s, gm_D s, gm_P s)).map (fun t => (r, t))
  else some (r, s)
/-- the alternative of least height -/
def gm_lo (g : wk_g) : Nat → Int → Int → Int → Int → Int
  | 0, _, _, b, _ => b
  | m + 1, a, n, b, hi => gm_lo g m (g 128 a.toNat) (n + 1) (if g 143 a.toNat < hi then n else b) (if g 143 a.toNat < hi then g 143 a.toNat else hi)
/-- drawn below n, but 0 without fuel -/
def gm_n (n : Int) (s : gm_S) : Int := if gm_F s < 0 then 0 else gm_v (gm_x (gm_X s)) n
def gm_w (g : wk_g) (f : Int) (s : gm_S) : Int := if gm_F s < 0 then gm_lo g (g 130 f.toNat).toNat (g 129 f.toNat) 0 0 1001 else gm_v (gm_x (gm_X s)) (g 130 f.toNat)
def gm_y (s : gm_S) : gm_S := (if gm_F s < 0 then gm_X s else gm_x (gm_X s), gm_F s, gm_T s, gm_D s, gm_P s)
def gm_op (o : Int) (s : gm_S) : gm_S := if o = 1 then (gm_X s, gm_F s, gm_T s, gm_D s, ((gm_T s).length, 0) :: gm_P s) else s
def gm_mid (s : gm_S) : gm_S := (gm_X s, gm_F s, gm_T s, gm_D s, match gm_P s with | [] => [] | p :: q => (p.1, (gm_T s).length) :: q)
/-- the nodes from b on come ahead of those from a on -/
def gm_rot (a b : Nat) (T : List (Int × Int × Int)) : List (Int × Int × Int) := if a ≤ b ∧ b ≤ T.length then T.take a ++ T.drop b ++ (T.take b).drop a else T
def gm_tu (s : gm_S) : gm_S := match gm_P s with | [] => s | p :: q => (gm_X s, gm_F s, gm_rot p.1 p.2 (gm_T s), gm_D s, q)
def gm_st (g : wk_g) (kw : Int → Bool) (e : wk_E) (r : List wk_E) (s : gm_S) : Option gm_C :=
  if e.1 = 0 then
    (if g 122 e.2.1.toNat = 1 then (gm_c 5 (gm_n 3 s) (gm_y (gm_op e.2.2 s))).map (fun t => ((5, e.2.1, gm_n 3 s) :: (2, 0, 0) :: r, gm_d t))
     else if g 122 e.2.1.toNat = 2 then (gm_c 6 (gm_n 2 s) (gm_y (gm_op e.2.2 s))).bind (fun t => if 0 < gm_n 2 s then gm_sg g kw e.2.1 ((2, 0, 0) :: r) (gm_d t) else some ((2, 0, 0) :: r, gm_d t))
     else gm_sg g kw e.2.1 r (gm_op e.2.2 s))
  else if e.1 = 1 then
    (if 1 < g 130 e.2.1.toNat then (gm_c 4 (gm_w g e.2.1 s) (gm_y s)).map (fun t => (wk_it g 61 (g 126 (wk_alt g (gm_w g e.2.1 s).toNat (g 129 e.2.1.toNat)).toNat) ++ (2, 0, 0) :: r, gm_d t))
     else some (wk_it g 61 (g 126 (g 129 e.2.1.toNat).toNat) ++ r, s))
  else if e.1 = 5 then (if 0 < e.2.2 then gm_sg g kw e.2.1 ((5, e.2.1, e.2.2 - 1) :: r) s else some (r, s))
  else if e.1 = 2 then some (r, (gm_X s, gm_F s, gm_T s, gm_D s - 1, gm_P s))
  else if e.1 = 3 then some (r, gm_mid s)
  else some (r, gm_tu s)
/-- n turns lead from c to d; n turns are well, and the next one passes a limit -/
def gm_to (g : wk_g) (kw : Int → Bool) : Nat → gm_C → gm_C → Prop
  | 0, c, d => c = d
  | n + 1, c, d => ∃ e r c1, c.1 = e :: r ∧ gm_st g kw e r c.2 = some c1 ∧ gm_to g kw n c1 d
def gm_no (g : wk_g) (kw : Int → Bool) : Nat → gm_C → Prop
  | 0, c => ∃ e r, c.1 = e :: r ∧ gm_st g kw e r c.2 = none
  | n + 1, c => ∃ e r c1, c.1 = e :: r ∧ gm_st g kw e r c.2 = some c1 ∧ gm_no g kw n c1
section GM1
variable {g : wk_g} {kw : Int → Bool}
theorem gm_app {b d : gm_C} {m : Nat} (h2 : gm_to g kw m b d) : ∀ (n : Nat) (a : gm_C), gm_to g kw n a b → gm_to g kw (n + m) a d := by
  intro n
  induction n with
  | zero => intro a h; have h : a = b := h; rw [h, Nat.zero_add]; exact h2
  | succ n ih =>
    intro a h
    obtain ⟨e, r, c1, h3, h4, h5⟩ := h
    rw [Nat.succ_add]
    exact ⟨e, r, c1, h3, h4, ih c1 h5⟩
theorem gm_appn {b : gm_C} {m : Nat} (h2 : gm_no g kw m b) : ∀ (n : Nat) (a : gm_C), gm_to g kw n a b → gm_no g kw (n + m) a := by
  intro n
  induction n with
  | zero => intro a h; have h : a = b := h; rw [h, Nat.zero_add]; exact h2
  | succ n ih =>
    intro a h
    obtain ⟨e, r, c1, h3, h4, h5⟩ := h
    rw [Nat.succ_add]
    exact ⟨e, r, c1, h3, h4, ih c1 h5⟩
theorem gm_one {e : wk_E} {r : List wk_E} {s : gm_S} {c : gm_C} (h : gm_st g kw e r s = some c) : gm_to g kw 1 (e :: r, s) c := ⟨e, r, c, rfl, h, rfl⟩
theorem gm_none {e : wk_E} {r : List wk_E} {s : gm_S} (h : gm_st g kw e r s = none) : gm_no g kw 0 (e :: r, s) := ⟨e, r, rfl, h⟩
/-- there is one way only -/
theorem gm_det {b d : gm_C} : ∀ (n m : Nat) (a : gm_C), gm_to g kw n a b → gm_to g kw m a d → n ≤ m → gm_to g kw (m - n) b d := by
  intro n
  induction n with
  | zero => intro m a h1 h2 _; have h1 : a = b := h1; rw [← h1]; exact h2
  | succ n ih =>
    intro m a h1 h2 h3
    obtain ⟨e, r, c1, k1, k2, k3⟩ := h1
    cases m with
    | zero => exact absurd h3 (by omega)
    | succ m =>
      obtain ⟨e', r', c1', l1, l2, l3⟩ := h2
      rw [k1] at l1
      injection l1 with l4 l5
      rw [← l4, ← l5, k2] at l2
      injection l2 with l6
      rw [← l6] at l3
      have := ih m c1 k3 l3 (by omega)
      rwa [show m + 1 - (n + 1) = m - n from by omega]
theorem gm_detn {b : gm_C} : ∀ (n m : Nat) (a : gm_C), gm_to g kw n a b → gm_no g kw m a → n ≤ m ∧ gm_no g kw (m - n) b := by
  intro n
  induction n with
  | zero => intro m a h1 h2; have h1 : a = b := h1; rw [← h1]; exact ⟨Nat.zero_le _, h2⟩
  | succ n ih =>
    intro m a h1 h2
    obtain ⟨e, r, c1, k1, k2, k3⟩ := h1
    cases m with
    | zero =>
      obtain ⟨e', r', l1, l2⟩ := h2
      rw [k1] at l1
      injection l1 with l4 l5
      rw [← l4, ← l5, k2] at l2
      cases l2
    | succ m =>
      obtain ⟨e', r', c1', l1, l2, l3⟩ := h2
      rw [k1] at l1
      injection l1 with l4 l5
      rw [← l4, ← l5, k2] at l2
      injection l2 with l6
      rw [← l6] at l3
      obtain ⟨i1, i2⟩ := ih m c1 k3 l3
      exact ⟨by omega, by rwa [show m + 1 - (n + 1) = m - n from by omega]⟩
end GM1
/-! how many turns a growing walk has: each one is paid by the entries, or by a node -/
def gm_e1 (Y : wk_Y) (e : wk_E) : Int :=
  if e.1 = 0 then 3 * (wk_e Y e.2.1 - e.2.1) - 1
  else if e.1 = 1 then 3 * (wk_x Y e.2.1 - wk_b Y e.2.1) - 2
  else if e.1 = 5 then (if e.2.2 ≤ 0 then 1 else if e.2.2 = 1 then 3 * (wk_e Y e.2.1 - e.2.1) else 6 * (wk_e Y e.2.1 - e.2.1) - 1)
  else 1
def gm_pot (Y : wk_Y) : List wk_E → Int
  | [] => 0
  | e :: r => gm_e1 Y e + gm_pot Y r
def gm_k (Y : wk_Y) (e : wk_E) : Prop := (e.1 = 0 → 0 ≤ e.2.1 ∧ e.2.1 < wk_u Y ∧ wk_e Y e.2.1 - e.2.1 ≤ 60) ∧ (e.1 = 1 → 0 ≤ e.2.1 ∧ e.2.1 < wk_f Y ∧ wk_x Y e.2.1 - wk_b Y e.2.1 ≤ 61) ∧ (e.1 = 5 → 0 ≤ e.2.1 ∧ e.2.1 < wk_u Y ∧ e.2.2 ≤ 2 ∧ wk_e Y e.2.1 - e.2.1 ≤ 60)
def gm_K (Y : wk_Y) : List wk_E → Prop
  | [] => True
  | e :: r => gm_k Y e ∧ gm_K Y r
def gm_vb : Prop := ∀ (x : Int64) (n : Int), 0 < n → n ≤ 10000 → 0 ≤ gm_v x n ∧ gm_v x n < n
section GM2
variable {g : wk_g} {Y : wk_Y} {kw : Int → Bool}
theorem gm_pot_a : ∀ (r q : List wk_E), gm_pot Y (r ++ q) = gm_pot Y r + gm_pot Y q := by
  intro r q
  induction r with
  | nil => show gm_pot Y q = 0 + _; omega
  | cons e r ih => show gm_e1 Y e + gm_pot Y (r ++ q) = gm_e1 Y e + gm_pot Y r + gm_pot Y q; omega
theorem gm_K_a : ∀ (r q : List wk_E), gm_K Y r → gm_K Y q → gm_K Y (r ++ q) := by
  intro r q
  induction r with
  | nil => intro _ h; exact h
  | cons e r ih => intro h1 h2; exact ⟨h1.1, ih h1.2 h2⟩
theorem gm_k_o {a b c : Int} (h0 : a ≠ 0) (h1 : a ≠ 1) (h5 : a ≠ 5) : gm_k Y (a, b, c) := ⟨fun e => absurd e h0, fun e => absurd e h1, fun e => absurd e h5⟩
theorem gm_k_0 {b c : Int} (h0 : 0 ≤ b) (h1 : b < wk_u Y) (h2 : wk_e Y b - b ≤ 60) : gm_k Y (0, b, c) := ⟨fun _ => ⟨h0, h1, h2⟩, fun e => absurd (show (0 : Int) = 1 from e) (by decide), fun e => absurd (show (0 : Int) = 5 from e) (by decide)⟩
theorem gm_k_1 {b c : Int} (h0 : 0 ≤ b) (h1 : b < wk_f Y) (h2 : wk_x Y b - wk_b Y b ≤ 61) : gm_k Y (1, b, c) := ⟨fun e => absurd (show (1 : Int) = 0 from e) (by decide), fun _ => ⟨h0, h1, h2⟩, fun e => absurd (show (1 : Int) = 5 from e) (by decide)⟩
theorem gm_k_5 {b c : Int} (h0 : 0 ≤ b) (h1 : b < wk_u Y) (h2 : c ≤ 2) (h3 : wk_e Y b - b ≤ 60) : gm_k Y (5, b, c) := ⟨fun e => absurd (show (5 : Int) = 0 from e) (by decide), fun e => absurd (show (5 : Int) = 1 from e) (by decide), fun _ => ⟨h0, h1, h2, h3⟩⟩
theorem gm_e_o {a b c : Int} (h0 : a ≠ 0) (h1 : a ≠ 1) (h5 : a ≠ 5) : gm_e1 Y (a, b, c) = 1 := by
  unfold gm_e1
  rw [if_neg h0, if_neg h1, if_neg h5]
theorem gm_e_0 {b c : Int} : gm_e1 Y (0, b, c) = 3 * (wk_e Y b - b) - 1 := rfl
theorem gm_e_1 {b c : Int} : gm_e1 Y (1, b, c) = 3 * (wk_x Y b - wk_b Y b) - 2 := rfl
theorem gm_e_5 {b c : Int} : gm_e1 Y (5, b, c) = if c ≤ 0 then 1 else if c = 1 then 3 * (wk_e Y b - b) else 6 * (wk_e Y b - b) - 1 := rfl
theorem gm_e_pos (hL : wk_L g Y) {e : wk_E} (h : gm_k Y e) : 1 ≤ gm_e1 Y e := by
  obtain ⟨a, b, c⟩ := e
  obtain ⟨h0, h1, h5⟩ := h
  dsimp only at h0 h1 h5
  by_cases c0 : a = 0
  · subst c0
    obtain ⟨k1, k2, -⟩ := h0 rfl
    have := (hL.2.2.1 b k1 k2).1.1
    rw [gm_e_0]
    omega
  by_cases c1 : a = 1
  · subst c1
    obtain ⟨k1, k2, -⟩ := h1 rfl
    have := (hL.2.2.2 b k1 k2).2.2.2.2.1
    rw [gm_e_1]
    omega
  by_cases c5 : a = 5
  · subst c5
    obtain ⟨k1, k2, k3, -⟩ := h5 rfl
    have := (hL.2.2.1 b k1 k2).1.1
    rw [gm_e_5]
    split
    · omega
    · split <;> omega
  · rw [gm_e_o c0 c1 c5]
    omega
theorem gm_pot_nn (hL : wk_L g Y) : ∀ r : List wk_E, gm_K Y r → 0 ≤ gm_pot Y r := by
  intro r
  induction r with
  | nil => intro _; exact Int.le_refl _
  | cons e r ih =>
    intro h
    have := gm_e_pos hL h.1
    have := ih h.2
    show 0 ≤ gm_e1 Y e + gm_pot Y r
    omega
theorem gm_it (hL : wk_L g Y) {f : Int} (h61 : wk_x Y f - wk_b Y f ≤ 61) : ∀ (n : Nat) (u : Int), (u < 0 ∨ (u < wk_u Y ∧ wk_c Y u = f)) → gm_K Y (wk_it g n u) ∧ (u < 0 → gm_pot Y (wk_it g n u) = 0) ∧ (0 ≤ u → gm_pot Y (wk_it g n u) ≤ 3 * (wk_x Y f - u)) := by
  intro n
  induction n with
  | zero =>
    intro u h
    refine ⟨trivial, fun _ => rfl, fun h0 => ?_⟩
    rcases h with h | ⟨h1, h2⟩
    · omega
    · have k := (hL.2.2.1 u h0 h1).1
      rw [h2] at k
      show (0 : Int) ≤ _
      omega
  | succ n ih =>
    intro u h
    unfold wk_it
    by_cases hu : u < 0
    · rw [if_pos hu]
      exact ⟨trivial, fun _ => rfl, fun h0 => by omega⟩
    · rw [if_neg hu]
      obtain ⟨h1, h2⟩ := h.resolve_left hu
      have hu : 0 ≤ u := by omega
      obtain ⟨⟨k1, k2, k3, k4, k5⟩, km, kn, -, -, -⟩ := hL.2.2.1 u hu h1
      rw [h2] at k2 k3 km kn
      have IH := ih (g 125 u.toNat) (by
        by_cases c : g 125 u.toNat < 0
        · exact Or.inl c
        · have := kn (by omega)
          exact Or.inr ⟨this.1, this.2.1⟩)
      obtain ⟨i1, i2, i3⟩ := IH
      by_cases cm : 0 ≤ g 124 u.toNat
      · rw [if_pos cm]
        obtain ⟨m1, m2, m3, m4⟩ := km cm
        obtain ⟨⟨l1, l2, l3, -⟩, -⟩ := hL.2.2.1 _ cm m1
        rw [m2] at l2 l3
        refine ⟨⟨gm_k_0 hu h1 (by omega), gm_k_o (by decide) (by decide) (by decide), gm_k_0 cm m1 (by omega), gm_k_o (by decide) (by decide) (by decide), i1⟩, fun q => by omega, fun _ => ?_⟩
        show gm_e1 Y (0, u, 1) + (gm_e1 Y (3, 0, 0) + (gm_e1 Y (0, g 124 u.toNat, 0) + (gm_e1 Y (4, 0, 0) + gm_pot Y (wk_it g n (g 125 u.toNat))))) ≤ _
        rw [gm_e_0, gm_e_0, gm_e_o (by decide) (by decide) (by decide), gm_e_o (by decide) (by decide) (by decide)]
        by_cases c : g 125 u.toNat < 0
        · have := i2 c
          omega
        · have := i3 (by omega)
          have := (kn (by omega)).2.2.2 cm
          omega
      · rw [if_neg cm]
        refine ⟨⟨gm_k_0 hu h1 (by omega), i1⟩, fun q => by omega, fun _ => ?_⟩
        show gm_e1 Y (0, u, 0) + gm_pot Y (wk_it g n (g 125 u.toNat)) ≤ _
        rw [gm_e_0]
        by_cases c : g 125 u.toNat < 0
        · have := i2 c
          omega
        · have := i3 (by omega)
          have := (kn (by omega)).2.2.1
          omega
theorem gm_c_len {k v : Int} {s t : gm_S} (h : gm_c k v s = some t) : (gm_T s).length < 100 ∧ (gm_T t).length = (gm_T s).length + 1 := by
  unfold gm_c at h
  by_cases c : 100 ≤ (gm_T s).length
  · rw [if_pos c] at h
    cases h
  · rw [if_neg c] at h
    injection h with h
    subst h
    refine ⟨by omega, ?_⟩
    show (gm_T s ++ [_]).length = _
    rw [List.length_append]
    rfl
def gm_len (s : gm_S) : Int := ((gm_T s).length : Int)
theorem gm_sg_pot (hL : wk_L g Y) {u : Int} (h0 : 0 ≤ u) (h1 : u < wk_u Y) (h60 : wk_e Y u - u ≤ 60) {r : List wk_E} {s : gm_S} {c : gm_C} (hK : gm_K Y r) (h : gm_sg g kw u r s = some c) : gm_K Y c.1 ∧ gm_len s ≤ gm_len c.2 ∧ gm_pot Y c.1 ≤ gm_pot Y r + (3 * (wk_e Y u - u) - 2) + 360 * (gm_len c.2 - gm_len s) := by
  obtain ⟨⟨k1, -⟩, -, -, k9, k10, -⟩ := hL.2.2.1 u h0 h1
  unfold gm_sg at h
  by_cases c9 : g 119 u.toNat = 9
  · rw [if_pos c9] at h
    obtain ⟨-, -, -, -, r1, r2, r3⟩ := k9 c9
    unfold gm_en at h
    by_cases cu : 12 ≤ wk_ul r
    · rw [if_pos cu] at h
      cases h
    · rw [if_neg cu] at h
      obtain ⟨t, t1, t2⟩ := Option.map_eq_some_iff.mp h
      obtain ⟨l1, l2⟩ := gm_c_len t1
      subst t2
      have e1 : gm_len (gm_d t) = gm_len s + 1 := by
        show ((gm_T t).length : Int) = ((gm_T s).length : Int) + 1
        have l2 : (gm_T t).length = (gm_T s).length + 1 := l2
        omega
      refine ⟨⟨gm_k_1 r1 r2 (by first | exact r3 | omega), gm_k_o (by decide) (by decide) (by decide), hK⟩, by show gm_len s ≤ gm_len (gm_d t); omega, ?_⟩
      show gm_e1 Y (1, wk_rf g u, 0) + (gm_e1 Y (2, 1, 0) + gm_pot Y r) ≤ _
      rw [gm_e_1, gm_e_o (by decide) (by decide) (by decide)]
      have e2 : gm_len (((1, g 114 (g 115 (g 120 u.toNat).toNat).toNat, 0) :: (2, 1, 0) :: r, gm_d t) : gm_C).2 = gm_len (gm_d t) := rfl
      rw [e2]
      omega
  rw [if_neg c9] at h
  by_cases c10 : g 119 u.toNat = 10
  · rw [if_pos c10] at h
    injection h with h
    subst h
    obtain ⟨r1, r2, r3, -⟩ := k10 c10
    refine ⟨⟨gm_k_1 r1 r2 (by first | exact r3 | omega), hK⟩, Int.le_refl _, ?_⟩
    show gm_e1 Y (1, g 120 u.toNat, 0) + gm_pot Y r ≤ gm_pot Y r + _ + 360 * (gm_len s - gm_len s)
    rw [gm_e_1]
    omega
  rw [if_neg c10] at h
  have leaf : ∀ (k v : Int) (s1 : gm_S), gm_T s1 = gm_T s → (gm_c k v s1).map (fun t => (r, t)) = some c → gm_K Y c.1 ∧ gm_len s ≤ gm_len c.2 ∧ gm_pot Y c.1 ≤ gm_pot Y r + (3 * (wk_e Y u - u) - 2) + 360 * (gm_len c.2 - gm_len s) := by
    intro k v s1 es h
    obtain ⟨t, t1, t2⟩ := Option.map_eq_some_iff.mp h
    obtain ⟨l1, l2⟩ := gm_c_len t1
    rw [es] at l2
    subst t2
    have e1 : gm_len t = gm_len s + 1 := by
      show ((gm_T t).length : Int) = ((gm_T s).length : Int) + 1
      omega
    refine ⟨hK, by show gm_len s ≤ gm_len t; omega, ?_⟩
    show gm_pot Y r ≤ gm_pot Y r + _ + 360 * (gm_len t - gm_len s)
    omega
  by_cases c1 : g 119 u.toNat = 1
  · rw [if_pos c1] at h
    exact leaf 2 _ (gm_x (gm_X s), gm_F s, gm_T s, gm_D s, gm_P s) (gm_T_mk _ _ _ _ _) h
  rw [if_neg c1] at h
  by_cases c2 : g 119 u.toNat = 2
  · rw [if_pos c2] at h
    exact leaf 3 _ ((gm_nm kw (gm_X s)).2, gm_F s, gm_T s, gm_D s, gm_P s) (gm_T_mk _ _ _ _ _) h
  rw [if_neg c2] at h
  injection h with h
  subst h
  refine ⟨hK, Int.le_refl _, ?_⟩
  show gm_pot Y r ≤ gm_pot Y r + _ + 360 * (gm_len s - gm_len s)
  omega
theorem gm_lo_b : ∀ (m : Nat) (a n b hi : Int), 0 ≤ b → 0 ≤ n → (m = 0 → b < n) → (b < n ∨ b = 0) → 0 ≤ gm_lo g m a n b hi ∧ gm_lo g m a n b hi < n + m := by
  intro m
  induction m with
  | zero => intro a n b hi h1 h2 h3 h4; have := h3 rfl; exact ⟨h1, by show b < n + 0; omega⟩
  | succ m ih =>
    intro a n b hi h1 h2 h3 h4
    have := ih (g 128 a.toNat) (n + 1) (if g 143 a.toNat < hi then n else b) (if g 143 a.toNat < hi then g 143 a.toNat else hi) (by split <;> omega) (by omega) (fun _ => by split <;> omega) (Or.inl (by split <;> omega))
    refine ⟨this.1, ?_⟩
    have t := this.2
    show gm_lo g m _ _ _ _ < _
    omega
theorem gm_w_b (hv : gm_vb) {f : Int} (hf : 1 ≤ g 130 f.toNat) (hf2 : g 130 f.toNat ≤ 10000) (s : gm_S) : 0 ≤ gm_w g f s ∧ gm_w g f s < g 130 f.toNat := by
  unfold gm_w
  split
  · have := gm_lo_b (g := g) (g 130 f.toNat).toNat (g 129 f.toNat) 0 0 1001 (by decide) (by decide) (fun q => by omega) (Or.inr rfl)
    omega
  · exact hv _ _ (by omega) hf2
theorem gm_n_b (hv : gm_vb) (n : Int) (h1 : 0 < n) (h2 : n ≤ 10000) (s : gm_S) : 0 ≤ gm_n n s ∧ gm_n n s < n := by
  unfold gm_n
  split
  · omega
  · exact hv _ _ h1 h2
theorem gm_rot_len (a b : Nat) (T : List (Int × Int × Int)) : (gm_rot a b T).length = T.length := by
  unfold gm_rot
  by_cases c : a ≤ b ∧ b ≤ T.length
  · rw [if_pos c]
    simp only [List.length_append, List.length_take, List.length_drop]
    omega
  · rw [if_neg c]
theorem gm_tu_len (s : gm_S) : gm_len (gm_tu s) = gm_len s := by
  unfold gm_tu gm_len
  split
  · rfl
  · show ((gm_rot _ _ (gm_T s)).length : Int) = _
    rw [gm_rot_len]
theorem gm_op_T (o : Int) (s : gm_S) : gm_T (gm_y (gm_op o s)) = gm_T s ∧ gm_T (gm_op o s) = gm_T s := by
  unfold gm_y gm_op
  split
  · exact ⟨gm_T_mk _ _ _ _ _, gm_T_mk _ _ _ _ _⟩
  · exact ⟨gm_T_mk _ _ _ _ _, rfl⟩
/-- a turn -/
theorem gm_st_pot (hL : wk_L g Y) (hv : gm_vb) (hm : ∀ f, 0 ≤ f → f < wk_f Y → g 130 f.toNat ≤ 10000) {e : wk_E} {r : List wk_E} {s : gm_S} {c : gm_C} (hK : gm_K Y (e :: r)) (h : gm_st g kw e r s = some c) : gm_K Y c.1 ∧ gm_len s ≤ gm_len c.2 ∧ gm_pot Y c.1 + 1 ≤ gm_pot Y (e :: r) + 360 * (gm_len c.2 - gm_len s) := by
  obtain ⟨a, b, z⟩ := e
  obtain ⟨⟨h0, h1, h5⟩, hr⟩ := hK
  dsimp only at h0 h1 h5
  have hp : gm_pot Y ((a, b, z) :: r) = gm_e1 Y (a, b, z) + gm_pot Y r := rfl
  rw [hp]
  unfold gm_st at h
  dsimp only at h
  by_cases c0 : a = 0
  · subst c0
    obtain ⟨k1, k2, k60⟩ := h0 rfl
    rw [if_pos rfl] at h
    obtain ⟨⟨l1, l2, l3, l4, l5⟩, -⟩ := hL.2.2.1 b k1 k2
    have l60 := hL.1
    rw [gm_e_0]
    obtain ⟨T1, T2⟩ := gm_op_T z s
    by_cases w1 : g 122 b.toNat = 1
    · rw [if_pos w1] at h
      obtain ⟨t, t1, t2⟩ := Option.map_eq_some_iff.mp h
      obtain ⟨-, q2⟩ := gm_c_len t1
      rw [T1] at q2
      subst t2
      have nb := gm_n_b hv 3 (by decide) (by decide) s
      have e1 : gm_len (gm_d t) = gm_len s + 1 := by
        show ((gm_T t).length : Int) = ((gm_T s).length : Int) + 1
        omega
      refine ⟨⟨gm_k_5 k1 k2 (by omega) k60, gm_k_o (by decide) (by decide) (by decide), hr⟩, by show gm_len s ≤ gm_len (gm_d t); omega, ?_⟩
      show gm_e1 Y (5, b, gm_n 3 s) + (gm_e1 Y (2, 0, 0) + gm_pot Y r) + 1 ≤ 3 * (wk_e Y b - b) - 1 + gm_pot Y r + 360 * (gm_len (gm_d t) - gm_len s)
      rw [gm_e_o (a := 2) (by decide) (by decide) (by decide), gm_e_5, e1]
      split
      · omega
      · split <;> omega
    rw [if_neg w1] at h
    by_cases w2 : g 122 b.toNat = 2
    · rw [if_pos w2] at h
      obtain ⟨t, t1, t2⟩ := Option.bind_eq_some_iff.mp h
      obtain ⟨-, q2⟩ := gm_c_len t1
      rw [T1] at q2
      have e1 : gm_len (gm_d t) = gm_len s + 1 := by
        show ((gm_T t).length : Int) = ((gm_T s).length : Int) + 1
        omega
      have hr2 : gm_K Y ((2, 0, 0) :: r) := ⟨gm_k_o (by decide) (by decide) (by decide), hr⟩
      have p2 : gm_pot Y ((2, 0, 0) :: r) = 1 + gm_pot Y r := by
        show gm_e1 Y (2, 0, 0) + gm_pot Y r = _
        rw [gm_e_o (by decide) (by decide) (by decide)]
      by_cases w3 : 0 < gm_n 2 s
      · rw [if_pos w3] at t2
        obtain ⟨s1, s2, s3⟩ := gm_sg_pot hL k1 k2 k60 hr2 t2
        rw [p2] at s3
        exact ⟨s1, by omega, by omega⟩
      · rw [if_neg w3] at t2
        injection t2 with t2
        subst t2
        refine ⟨hr2, by show gm_len s ≤ gm_len (gm_d t); omega, ?_⟩
        show gm_pot Y ((2, 0, 0) :: r) + 1 ≤ 3 * (wk_e Y b - b) - 1 + gm_pot Y r + 360 * (gm_len (gm_d t) - gm_len s)
        rw [p2]
        omega
    rw [if_neg w2] at h
    obtain ⟨s1, s2, s3⟩ := gm_sg_pot hL k1 k2 k60 hr h
    have e2 : gm_len (gm_op z s) = gm_len s := by unfold gm_len; rw [T2]
    rw [e2] at s2 s3
    exact ⟨s1, s2, by omega⟩
  rw [if_neg c0] at h
  by_cases c1 : a = 1
  · subst c1
    obtain ⟨k1, k2, k61⟩ := h1 rfl
    rw [if_pos rfl] at h
    obtain ⟨-, -, f1, -, f3, f4⟩ := hL.2.2.2 b k1 k2
    rw [gm_e_1]
    have it : ∀ j : Nat, (j : Int) < g 130 b.toNat → gm_K Y (wk_it g 61 (g 126 (wk_alt g j (g 129 b.toNat)).toNat)) ∧ gm_pot Y (wk_it g 61 (g 126 (wk_alt g j (g 129 b.toNat)).toNat)) ≤ 3 * (wk_x Y b - wk_b Y b) - 3 := by
      intro j hj
      obtain ⟨-, -, j3⟩ := f4 j hj
      obtain ⟨i1, i2, i3⟩ := gm_it hL k61 61 _ j3
      refine ⟨i1, ?_⟩
      rcases j3 with j3 | ⟨j3, j4⟩
      · have := i2 j3
        omega
      · by_cases c : g 126 (wk_alt g j (g 129 b.toNat)).toNat < 0
        · have := i2 c
          omega
        · have := i3 (by omega)
          have := (hL.2.2.1 _ (by omega) j3).1.2.2.1
          rw [j4] at this
          omega
    by_cases w1 : 1 < g 130 b.toNat
    · rw [if_pos w1] at h
      obtain ⟨t, t1, t2⟩ := Option.map_eq_some_iff.mp h
      obtain ⟨-, q2⟩ := gm_c_len t1
      have q2 : (gm_T t).length = (gm_T s).length + 1 := q2
      subst t2
      have e1 : gm_len (gm_d t) = gm_len s + 1 := by
        show ((gm_T t).length : Int) = ((gm_T s).length : Int) + 1
        omega
      obtain ⟨b1, b2⟩ := gm_w_b hv f1 (hm b k1 k2) s
      obtain ⟨i1, i2⟩ := it (gm_w g b s).toNat (by omega)
      refine ⟨gm_K_a _ _ i1 ⟨gm_k_o (by decide) (by decide) (by decide), hr⟩, by show gm_len s ≤ gm_len (gm_d t); omega, ?_⟩
      show gm_pot Y (_ ++ _) + 1 ≤ _ + 360 * (gm_len (gm_d t) - gm_len s)
      rw [gm_pot_a, e1]
      show _ + (gm_e1 Y (2, 0, 0) + gm_pot Y r) + 1 ≤ _
      rw [gm_e_o (by decide) (by decide) (by decide)]
      omega
    · rw [if_neg w1] at h
      injection h with h
      subst h
      obtain ⟨i1, i2⟩ := it 0 (by omega)
      refine ⟨gm_K_a _ _ i1 hr, Int.le_refl _, ?_⟩
      show gm_pot Y (_ ++ _) + 1 ≤ _ + 360 * (gm_len s - gm_len s)
      rw [gm_pot_a]
      have i2 : gm_pot Y (wk_it g 61 (g 126 (g 129 b.toNat).toNat)) ≤ 3 * (wk_x Y b - wk_b Y b) - 3 := i2
      omega
  rw [if_neg c1] at h
  by_cases c5 : a = 5
  · subst c5
    obtain ⟨k1, k2, k3, k60⟩ := h5 rfl
    rw [if_pos rfl] at h
    have l1 := (hL.2.2.1 b k1 k2).1.1
    by_cases w1 : 0 < z
    · rw [if_pos w1] at h
      have hr2 : gm_K Y ((5, b, z - 1) :: r) := ⟨gm_k_5 k1 k2 (by omega) k60, hr⟩
      have p2 : gm_pot Y ((5, b, z - 1) :: r) = gm_e1 Y (5, b, z - 1) + gm_pot Y r := rfl
      obtain ⟨s1, s2, s3⟩ := gm_sg_pot hL k1 k2 k60 hr2 h
      rw [p2, gm_e_5] at s3
      refine ⟨s1, s2, ?_⟩
      rw [gm_e_5, if_neg (by omega)]
      by_cases z1 : z = 1
      · rw [if_pos (by omega)] at s3
        rw [if_pos z1]
        omega
      · rw [if_neg (by omega), if_pos (by omega)] at s3
        rw [if_neg z1]
        omega
    · rw [if_neg w1] at h
      injection h with h
      subst h
      refine ⟨hr, Int.le_refl _, ?_⟩
      show gm_pot Y r + 1 ≤ gm_e1 Y (5, b, z) + gm_pot Y r + 360 * (gm_len s - gm_len s)
      rw [gm_e_5, if_pos (by omega)]
      omega
  rw [if_neg c5] at h
  rw [gm_e_o c0 c1 c5]
  have fin : ∀ s' : gm_S, gm_len s' = gm_len s → some (r, s') = some c → gm_K Y c.1 ∧ gm_len s ≤ gm_len c.2 ∧ gm_pot Y c.1 + 1 ≤ 1 + gm_pot Y r + 360 * (gm_len c.2 - gm_len s) := by
    intro s' e h
    injection h with h
    subst h
    refine ⟨hr, by show gm_len s ≤ gm_len s'; omega, ?_⟩
    show gm_pot Y r + 1 ≤ 1 + gm_pot Y r + 360 * (gm_len s' - gm_len s)
    omega
  by_cases c2 : a = 2
  · rw [if_pos c2] at h
    exact fin (gm_X s, gm_F s, gm_T s, gm_D s - 1, gm_P s) rfl h
  rw [if_neg c2] at h
  by_cases c3 : a = 3
  · rw [if_pos c3] at h
    exact fin (gm_mid s) rfl h
  rw [if_neg c3] at h
  exact fin (gm_tu s) (gm_tu_len s) h
/-- all turns -/
theorem gm_to_pot (hL : wk_L g Y) (hv : gm_vb) (hm : ∀ f, 0 ≤ f → f < wk_f Y → g 130 f.toNat ≤ 10000) {d : gm_C} : ∀ (n : Nat) (c : gm_C), gm_K Y c.1 → gm_to g kw n c d → gm_K Y d.1 ∧ gm_len c.2 ≤ gm_len d.2 ∧ (n : Int) + gm_pot Y d.1 ≤ gm_pot Y c.1 + 360 * (gm_len d.2 - gm_len c.2) := by
  intro n
  induction n with
  | zero =>
    intro c hK h
    have h : c = d := h
    subst h
    exact ⟨hK, Int.le_refl _, by omega⟩
  | succ n ih =>
    intro c hK h
    obtain ⟨e, r, c1, k1, k2, k3⟩ := h
    rw [k1] at hK ⊢
    obtain ⟨a1, a2, a3⟩ := gm_st_pot hL hv hm hK k2
    obtain ⟨b1, b2, b3⟩ := ih c1 a1 k3
    exact ⟨b1, by omega, by omega⟩
end GM2
/-! the growing walk of the reference, exactly: what lies in its arrays beside the pure one; draw, comes -/
theorem gm_vbt : gm_vb := by
  intro x n h0 h1
  have ok : mi_in n := ⟨by omega, by omega⟩
  have ey : ((Int32.ofInt n).toInt64).toInt = n := by rw [Int32.toInt_toInt64, mi_ti ok]
  obtain ⟨x0, x1⟩ := dr_x x
  unfold gm_v
  rw [dr_mod x0 x1 (by rw [ey]; exact h0), ey]
  exact ⟨Int.emod_nonneg _ (by omega), Int.emod_lt_of_pos _ h0⟩
/-- the nodes: what is the k-th one, through the order -/
def gx_T (h : sm_H) (T : List (Int × Int × Int)) : Prop := mi_f h 14016 = (T.length : Int) ∧ (∀ k : Nat, k < T.length → 0 ≤ mi_a h 160 k ∧ mi_a h 160 k < (T.length : Int) ∧ T[k]? = some (mi_a h 158 (mi_a h 160 k).toNat + 10 * mi_a h 160 k, (mx_b h 163 (mi_a h 160 k).toNat).toInt, mi_a h 159 (mi_a h 160 k).toNat) ∧ 0 ≤ mi_a h 158 (mi_a h 160 k).toNat ∧ mi_a h 158 (mi_a h 160 k).toNat < 10) ∧ ∀ k j : Nat, k < T.length → j < T.length → mi_a h 160 k = mi_a h 160 j → k = j
def gx_P (h : sm_H) : List (Nat × Nat) → Prop
  | [] => True
  | p :: q => mi_a h 168 q.length = (p.1 : Int) ∧ (p.2 = 0 ∨ mi_a h 169 q.length = (p.2 : Int)) ∧ gx_P h q
def gx_R (h : sm_H) (s : gm_S) : Prop := gx_T h (gm_T s) ∧ mx_l h 14047 = gm_X s ∧ mi_f h 14035 = gm_F s ∧ mi_f h 14031 = gm_D s ∧ mi_f h 14030 = ((gm_P s).length : Int) ∧ gx_P h (gm_P s)
section GX1
variable {h h' : sm_H} {s : gm_S} {d : Nat} {wr : List (Nat × Nat)}
theorem gx_T_fr {T : List (Int × Int × Int)} (hT : gx_T h T) (hF : ab_Fr wr h h') (hS : ab_Sh sx_sk h) (hw : (ab_in wr 14016 || ab_in wr 20224 || ab_in wr 20352 || ab_in wr 20480 || ab_in wr 20864) = false) : gx_T h' T := by
  simp only [Bool.or_eq_false_iff] at hw
  obtain ⟨⟨⟨⟨w1, w2⟩, w3⟩, w4⟩, w5⟩ := hw
  have e1 : mi_f h' 14016 = mi_f h 14016 := me_f (c := 14016) hF hS rfl w1
  have e2 : ∀ i, mi_a h' 158 i = mi_a h 158 i := fun i => me_a (k := 158) hF hS rfl w2
  have e3 : ∀ i, mi_a h' 159 i = mi_a h 159 i := fun i => me_a (k := 159) hF hS rfl w3
  have e4 : ∀ i, mi_a h' 160 i = mi_a h 160 i := fun i => me_a (k := 160) hF hS rfl w4
  have e5 : ∀ i, mx_b h' 163 i = mx_b h 163 i := fun i => me_b (k := 163) hF hS rfl w5
  unfold gx_T at hT ⊢
  simp only [e1, e2, e3, e4, e5]
  exact hT
theorem gx_P_fr (hF : ab_Fr wr h h') (hS : ab_Sh sx_sk h) (hw : (ab_in wr 21504 || ab_in wr 21632) = false) : ∀ q : List (Nat × Nat), gx_P h q → gx_P h' q := by
  simp only [Bool.or_eq_false_iff] at hw
  intro q
  induction q with
  | nil => intro _; trivial
  | cons p q ih =>
    intro hq
    obtain ⟨a, b, c⟩ := hq
    exact ⟨(me_a (k := 168) hF hS rfl hw.1).trans a, b.imp_right (fun b => (me_a (k := 169) hF hS rfl hw.2).trans b), ih c⟩
theorem me_drawx {zn : Int} (hS : ab_Sh sx_sk h) (h0 : 0 < zn) (h1 : zn ≤ 2147483647) : me_E d 211 0 [some (.inr (.inr 109)), some (.inl zn)] [] h (fun w h' => ab_Sh sx_sk h' ∧ ab_Fr [(14047, 14048)] h h' ∧ mx_l h' 14047 = gm_x (mx_l h 14047) ∧ w = some (.inl (gm_v (gm_x (mx_l h 14047)) zn))) := by
  have ok : mi_in zn := ⟨by omega, by omega⟩
  have ey : ((Int32.ofInt zn).toInt64).toInt = zn := by rw [Int32.toInt_toInt64, mi_ti ok]
  refine mt_draw hS ok ⟨fun e => ?_, fun h1 g1 g2 g3 => ⟨g1, g3, g2, rfl⟩⟩
  rw [e] at ey
  have : (0 : Int64).toInt = 0 := rfl
  omega
/-- a node comes, or the limit is passed -/
theorem gx_T_c {T : List (Int × Int × Int)} (hT : gx_T h T) {zk : Int} {zv : Int64} (hk0 : 0 ≤ zk ∧ zk < 10) (g16 : mi_f h' 14016 = mi_f h 14016 + 1) (g158 : ∀ i, mi_a h' 158 i = if i = Int.toNat (mi_f h 14016) then zk else mi_a h 158 i) (g159 : ∀ i, mi_a h' 159 i = if i = Int.toNat (mi_f h 14016) then mi_f h 14031 else mi_a h 159 i) (g160 : ∀ i, mi_a h' 160 i = if i = Int.toNat (mi_f h 14016) then mi_f h 14016 else mi_a h 160 i) (g163 : ∀ i, mx_b h' 163 i = if i = Int.toNat (mi_f h 14016) then zv else mx_b h 163 i) : gx_T h' (T ++ [(zk + 10 * (T.length : Int), zv.toInt, mi_f h 14031)]) := by
  obtain ⟨t1, t2, t3⟩ := hT
  have el : (T ++ [(zk + 10 * (T.length : Int), zv.toInt, mi_f h 14031)]).length = T.length + 1 := by rw [List.length_append]; rfl
  have et : Int.toNat (mi_f h 14016) = T.length := by omega
  rw [et] at g158 g159 g160 g163
  refine ⟨by rw [el, g16, t1]; omega, fun k hk => ?_, fun k j hk hj e => ?_⟩
  · rw [el] at hk ⊢
    by_cases c : k = T.length
    · have o : mi_a h' 160 k = (T.length : Int) := by rw [g160, if_pos c, t1]
      have on : (mi_a h' 160 k).toNat = T.length := by omega
      rw [on, g158, g159, g163, if_pos rfl, if_pos rfl, if_pos rfl]
      refine ⟨by omega, by omega, ?_, hk0⟩
      rw [o, c, List.getElem?_append_right (Nat.le_refl _), Nat.sub_self]
      rfl
    · obtain ⟨a1, a2, a3⟩ := t2 k (by omega)
      have o : mi_a h' 160 k = mi_a h 160 k := by rw [g160, if_neg c]
      rw [o]
      have nn : (mi_a h 160 k).toNat ≠ T.length := by omega
      rw [g158, g159, g163, if_neg nn, if_neg nn, if_neg nn]
      refine ⟨a1, by omega, ?_, a3.2⟩
      rw [List.getElem?_append_left (by omega)]
      exact a3.1
  · rw [el] at hk hj
    rw [g160, g160] at e
    by_cases c : k = T.length
    · by_cases c2 : j = T.length
      · omega
      · rw [if_pos c, if_neg c2] at e
        have := t2 j (by omega)
        omega
    · by_cases c2 : j = T.length
      · rw [if_neg c, if_pos c2] at e
        have := t2 k (by omega)
        omega
      · rw [if_neg c, if_neg c2] at e
        exact t3 k j (by omega) (by omega) e
theorem me_comesx {zk : Int} {zv : Int64} (hS : ab_Sh sx_sk h) (hm : mi_f h 14028 = 1) (hk0 : 0 ≤ zk ∧ zk < 10) (hR : gx_R h s) : me_E d 208 0 [some (.inr (.inr 109)), some (.inl zk), some (.inr (.inl zv)), none] [] h (fun w h' => ab_Sh sx_sk h' ∧ ab_Fr [(14016, 14017), (14044, 14045), (20224, 20225), (20352, 20353), (20480, 20481), (20864, 20865)] h h' ∧ (∃ z, w = some (.inl z)) ∧ ((gm_c zk zv.toInt s = none ∧ mi_f h' 14044 = 1) ∨ (mi_f h' 14044 = 0 ∧ ∃ t, gm_c zk zv.toInt s = some t ∧ gx_R h' t))) := by
  obtain ⟨r1, r2, r3, r4, r5, r6⟩ := hR
  have rl := r1.1
  have ok : mi_in zk := ⟨by omega, by omega⟩
  refine mt_comes hS ok ?_ ?_ ?_
  · intro b1 b2 c1 c2
    refine ⟨⟨⟨by omega, by omega⟩, ⟨by omega, by omega⟩, ⟨by omega, by omega⟩, by omega, by omega⟩, fun h1 g1 g2 g3 g4 g5 g6 g7 g8 => ⟨g1, g8, ⟨_, rfl⟩, Or.inr ⟨g3, (gm_X s, gm_F s, gm_T s ++ [(zk + 10 * ((gm_T s).length : Int), zv.toInt, gm_D s)], gm_D s, gm_P s), ?_, ?_⟩⟩⟩
    · unfold gm_c
      rw [if_neg (by omega)]
    · have n := gx_T_c r1 hk0 g2 g4 g5 g6 g7
      rw [r4] at n
      unfold gx_R
      rw [gm_T_mk, gm_X_mk, gm_F_mk, gm_D_mk, gm_P_mk]
      exact ⟨n, (me_l (c := 14047) g8 hS rfl rfl).trans r2, (me_f (c := 14035) g8 hS rfl rfl).trans r3, (me_f (c := 14031) g8 hS rfl rfl).trans r4, (me_f (c := 14030) g8 hS rfl rfl).trans r5, gx_P_fr g8 hS rfl _ r6⟩
  · intro b1 b2 c1 c2 h1 g1 g2 g3
    refine ⟨g1, g3.wide (fun c hc => ab_swr_ok (by decide) hc), ⟨_, rfl⟩, Or.inl ⟨?_, g2⟩⟩
    unfold gm_c
    rw [if_pos (by omega)]
  · intro b1 b2 c1
    omega
end GX1
/-- how many are open: as many as are to be left -/
def gm_outs : List wk_E → Int
  | [] => 0
  | e :: r => (if e.1 = 2 then 1 else 0) + gm_outs r
theorem gm_outs_nn : ∀ r : List wk_E, 0 ≤ gm_outs r := by
  intro r
  induction r with
  | nil => exact Int.le_refl _
  | cons e r ih =>
    show 0 ≤ (if e.1 = 2 then 1 else 0) + gm_outs r
    split <;> omega
theorem gm_outs_a : ∀ (r q : List wk_E), gm_outs (r ++ q) = gm_outs r + gm_outs q := by
  intro r q
  induction r with
  | nil => show gm_outs q = 0 + _; omega
  | cons e r ih => show (if e.1 = 2 then 1 else 0) + gm_outs (r ++ q) = (if e.1 = 2 then 1 else 0) + gm_outs r + gm_outs q; omega
theorem gm_outs_it {g : wk_g} : ∀ (n : Nat) (u : Int), gm_outs (wk_it g n u) = 0 := by
  intro n
  induction n with
  | zero => intro u; rfl
  | succ n ih =>
    intro u
    unfold wk_it
    by_cases c : u < 0
    · rw [if_pos c]; rfl
    · rw [if_neg c]
      by_cases c2 : 0 ≤ g 124 u.toNat
      · rw [if_pos c2]
        show 0 + (0 + (0 + (0 + gm_outs (wk_it g n (g 125 u.toNat))))) = 0
        rw [ih]
        rfl
      · rw [if_neg c2]
        show 0 + gm_outs (wk_it g n (g 125 u.toNat)) = 0
        rw [ih]
        rfl
/-! enter, exactly -/
section GX2
variable {h : sm_H} {s : gm_S} {d : Nat}
theorem gx_wrap {a : Int} (h0 : -1000 ≤ a) (h1 : a ≤ 1000) : (Int32.ofInt a - Int32.ofInt (1 : Int)).toInt = a - 1 ∧ (Int32.ofInt a + Int32.ofInt (1 : Int)).toInt = a + 1 := by
  have e1 : (Int32.ofInt a).toInt = a := mi_ti ⟨by omega, by omega⟩
  have e2 : (Int32.ofInt (1 : Int)).toInt = 1 := mi_ti ⟨by decide, by decide⟩
  constructor
  · rw [Int32.toInt_sub, e1, e2]
    exact Int.bmod_eq_of_le (by omega) (by omega)
  · rw [Int32.toInt_add, e1, e2]
    exact Int.bmod_eq_of_le (by omega) (by omega)
def gx_Q (h : sm_H) (m : Option gm_C) (w : Option mi_V) (h' : sm_H) : Prop := w = none ∧ ab_Sh sx_sk h' ∧ ab_Fr wr_W1 h h' ∧ mi_f h' 14034 = mi_f h 14034 ∧ mi_f h' 14033 = mi_f h 14033 ∧ ((m = none ∧ mi_f h' 14044 = 1) ∨ (mi_f h' 14044 = 0 ∧ ∃ c, m = some c ∧ wk_stk h' = c.1 ∧ gx_R h' c.2 ∧ mi_f h' 14032 = wk_ul c.1))
theorem me_enterx {zr : Int} (hS : ab_Sh sx_sk h) (hm : mi_f h 14028 = 1) (ht0 : 0 ≤ mi_f h 14029) (ht : mi_f h 14029 ≤ 2990) (hu : mi_f h 14032 = wk_ul (wk_stk h)) (hu1 : mi_f h 14032 ≤ 12) (hu0 : 0 ≤ mi_f h 14032) (hz0 : 0 ≤ zr) (hz1 : zr < 10) (hR : gx_R h s) (hF0 : -1000 ≤ gm_F s) (hF1 : gm_F s ≤ 1000) (hD0 : -1000 ≤ gm_D s) (hD1 : gm_D s ≤ 999) : me_E (d + 2) 207 0 [some (.inr (.inr 109)), some (.inl zr)] [] h (gx_Q h (gm_en (mi_a h) zr (wk_stk h) s)) := by
  have ok : mi_in zr := ⟨by omega, by omega⟩
  have ez : ((Int32.ofInt zr).toInt64).toInt = zr := by rw [Int32.toInt_toInt64, mi_ti ok]
  obtain ⟨r1, r2, r3, r4, r5, r6⟩ := hR
  refine mt_enA hS ok ?_ ?_ ?_
  · intro b1 c1 h1 g1 g2 g3 g4
    have hR1 : gx_R h1 (gm_X s, gm_F s - 1, gm_T s, gm_D s, gm_P s) := by
      unfold gx_R
      rw [gm_T_mk, gm_X_mk, gm_F_mk, gm_D_mk, gm_P_mk]
      refine ⟨gx_T_fr r1 g4 hS rfl, (me_l (c := 14047) g4 hS rfl rfl).trans r2, ?_, (me_f (c := 14031) g4 hS rfl rfl).trans r4, (me_f (c := 14030) g4 hS rfl rfl).trans r5, gx_P_fr g4 hS rfl _ r6⟩
      rw [g2, r3]
      exact (gx_wrap hF0 hF1).1
    have f28 : mi_f h1 14028 = mi_f h 14028 := me_f (c := 14028) g4 hS rfl rfl
    refine ⟨_, me_comesx g1 (f28.trans hm) ⟨by decide, by decide⟩ hR1, ?_⟩
    intro w h2 hw hq
    obtain ⟨q1, q2, ⟨z, rfl⟩, q3⟩ := hq
    rw [ez] at q3
    have k29 : mi_f h2 14029 = mi_f h 14029 := (me_f (c := 14029) q2 g1 rfl rfl).trans (me_f (c := 14029) g4 hS rfl rfl)
    have k32 : mi_f h2 14032 = mi_f h 14032 := (me_f (c := 14032) q2 g1 rfl rfl).trans (me_f (c := 14032) g4 hS rfl rfl)
    have kst : wk_stk h2 = wk_stk h := (wk_stk_fr q2 g1 rfl).trans (wk_stk_fr g4 hS rfl)
    have k114 : mi_a h2 114 zr.toNat = mi_a h 114 zr.toNat := (me_a (k := 114) q2 g1 rfl rfl).trans (me_a (k := 114) g4 hS rfl rfl)
    refine mt_enB q1 ok (hw _ rfl) ?_
    intro b1 b2
    refine ⟨by omega, ?_⟩
    intro h3 s1 s29 s31 s32 a5 a6 a7 s4
    have hFr : ab_Fr wr_W1 h h3 := ((g4.wide (fun c hc => ab_swr_ok (by decide) hc)).trans (q2.wide (fun c hc => ab_swr_ok (by decide) hc))).trans (s4.wide (fun c hc => ab_swr_ok (by decide) hc))
    have l44 : mi_f h3 14044 = mi_f h2 14044 := me_f (c := 14044) s4 q1 rfl rfl
    refine ⟨rfl, s1, hFr, ((me_f (c := 14034) s4 q1 rfl rfl).trans (me_f (c := 14034) q2 g1 rfl rfl)).trans (me_f (c := 14034) g4 hS rfl rfl), ((me_f (c := 14033) s4 q1 rfl rfl).trans (me_f (c := 14033) q2 g1 rfl rfl)).trans (me_f (c := 14033) g4 hS rfl rfl), ?_⟩
    unfold gm_en
    rw [if_neg (by omega)]
    rcases q3 with ⟨e1, e2⟩ | ⟨e1, t, e2, e3⟩
    · refine Or.inl ⟨?_, l44.trans e2⟩
      rw [e1]
      rfl
    · refine Or.inr ⟨l44.trans e1, ((1, mi_a h 114 zr.toNat, 0) :: (2, 1, 0) :: wk_stk h, gm_d t), ?_, ?_, ?_, ?_⟩
      · rw [e2]
        rfl
      · have := wk_push2 (by omega) s29 a5 a6 a7
        rw [k114, kst] at this
        exact this
      · obtain ⟨t1, t2, t3, t4, t5, t6⟩ := e3
        have eD : gm_D t = gm_D s := by
          unfold gm_c at e2
          split at e2
          · cases e2
          · injection e2 with e2
            rw [← e2, gm_D_mk, gm_D_mk]
        unfold gm_d gx_R
        rw [gm_T_mk, gm_X_mk, gm_F_mk, gm_D_mk, gm_P_mk]
        refine ⟨gx_T_fr t1 s4 q1 rfl, (me_l (c := 14047) s4 q1 rfl rfl).trans t2, (me_f (c := 14035) s4 q1 rfl rfl).trans t3, ?_, (me_f (c := 14030) s4 q1 rfl rfl).trans t5, gx_P_fr s4 q1 rfl _ t6⟩
        rw [s31, t4, eD]
        exact (gx_wrap hD0 (by omega)).2
      · show _ = 0 + (1 + wk_ul (wk_stk h))
        omega
  · intro b1 b2 c1 c2
    omega
  · intro b1 b2 c1 c2 h1 g1 g2 g3
    refine ⟨rfl, g1, g3.wide (fun c hc => ab_swr_ok (by decide) hc), me_f (c := 14034) g3 hS rfl rfl, me_f (c := 14033) g3 hS rfl rfl, Or.inl ⟨?_, g2⟩⟩
    unfold gm_en
    rw [if_pos (by omega)]
end GX2
/-! which codes are keywords, exactly -/
def gx_kw (n : Int) (B : Nat → Int64) (v : Int) : Bool := (List.range n.toNat).any (fun l => decide (B l ≠ 0 ∧ (B l).toInt = v))
theorem gx_kw_iff {n : Int} {B : Nat → Int64} {v : Int} : gx_kw n B v = true ↔ ∃ l : Nat, (l : Int) < n ∧ B l ≠ 0 ∧ (B l).toInt = v := by
  unfold gx_kw
  rw [List.any_eq_true]
  constructor
  · rintro ⟨l, h1, h2⟩
    have h1 := List.mem_range.mp h1
    have h2 := of_decide_eq_true h2
    exact ⟨l, by omega, h2.1, h2.2⟩
  · rintro ⟨l, h1, h2, h3⟩
    exact ⟨l, List.mem_range.mpr (by omega), decide_eq_true ⟨h2, h3⟩⟩
section GX3
variable {d : Nat}
theorem gx_cmpn {x y : Int64} (h : (lg_cmp x y).toInt ≠ 0) : x ≠ y := by
  intro e
  subst e
  apply h
  unfold lg_cmp
  split
  · next q => exact absurd q (by first | exact Int64.lt_irrefl _ | simp)
  · split
    · rfl
    · next q => exact absurd rfl q
theorem me_kwBx {zw : Int64} : ∀ (N : Nat) (zl : Int) (h : sm_H), ab_Sh sx_sk h → 20 - zl < N → 0 ≤ zl → zl ≤ 20 → (∀ l : Nat, (l : Int) < zl → ¬ (mx_b h 118 l ≠ 0 ∧ mx_b h 118 l = zw)) → me_E d 216 2 [some (.inr (.inr 109)), some (.inr (.inl zw)), none, some (.inl zl)] [] h (fun w h' => ab_Sh sx_sk h' ∧ ab_Fr [] h h' ∧ ∃ z, w = some (.inl z) ∧ -1 ≤ z ∧ z < 20 ∧ (0 ≤ z → mx_b h 118 z.toNat = zw) ∧ (0 ≤ z ↔ ∃ l : Nat, (l : Int) < mi_f h 13962 ∧ mx_b h 118 l ≠ 0 ∧ mx_b h 118 l = zw)) := by
  intro N
  induction N with
  | zero => intro zl h hS h1 h2 h3; omega
  | succ N ih =>
    intro zl h hS h1 h2 h3 hno
    have ok : mi_in zl := ⟨by omega, by omega⟩
    have back : ∀ h1, ab_Sh sx_sk h1 → ab_Fr [] h h1 → zl < mi_f h 13962 → mi_f h 13962 ≤ 20 → ¬ (mx_b h 118 zl.toNat ≠ 0 ∧ mx_b h 118 zl.toNat = zw) → me_E d 216 2 [some (.inr (.inr 109)), some (.inr (.inl zw)), none, some (.inl (zl + 1))] [] h1 (fun w h' => ab_Sh sx_sk h' ∧ ab_Fr [] h h' ∧ ∃ z, w = some (.inl z) ∧ -1 ≤ z ∧ z < 20 ∧ (0 ≤ z → mx_b h 118 z.toNat = zw) ∧ (0 ≤ z ↔ ∃ l : Nat, (l : Int) < mi_f h 13962 ∧ mx_b h 118 l ≠ 0 ∧ mx_b h 118 l = zw)) := by
      intro h1 g1 g2 c b nn
      have eb : ∀ i, mx_b h1 118 i = mx_b h 118 i := fun i => me_b (k := 118) g2 hS rfl rfl
      have ef : mi_f h1 13962 = mi_f h 13962 := me_f (c := 13962) g2 hS rfl rfl
      refine (ih _ h1 g1 (by omega) (by omega) (by omega) (fun l hl => ?_)).imp (fun w h' hq => ⟨hq.1, g2.trans hq.2.1, ?_⟩)
      · rw [eb]
        by_cases e : (l : Int) = zl
        · have : zl.toNat = l := by omega
          rw [this] at nn
          exact nn
        · exact hno l (by omega)
      · obtain ⟨z, z1, z2, z3, z4, z5⟩ := hq.2.2
        simp only [eb, ef] at z4 z5
        exact ⟨z, z1, z2, z3, z4, z5⟩
    refine mt_kwB hS ok ?_ ?_ ?_ ?_
    · intro b c1 h1 g1 g2
      refine ⟨g1, g2, -1, rfl, by decide, by decide, fun h => absurd h (by decide), fun h => absurd h (by decide), ?_⟩
      rintro ⟨l, l1, l2, l3⟩
      exact absurd ⟨l2, l3⟩ (hno l (by omega))
    · intro b c1 c2
      exact ⟨by omega, fun h1 g1 g2 => back h1 g1 g2 c1 b.2 (fun q => q.1 (lg_cmp0 c2))⟩
    · intro b c1 c2 c3
      exact ⟨by omega, fun h1 g1 g2 => back h1 g1 g2 c1 b.2 (fun q => gx_cmpn c3 q.2)⟩
    · intro b c1 c2 c3
      exact ⟨by omega, fun h1 g1 g2 => ⟨g1, g2, zl, rfl, by omega, by omega, fun _ => lg_cmp0 c3, fun _ => ⟨zl.toNat, by omega, gx_cmpn c2, lg_cmp0 c3⟩, fun _ => by omega⟩⟩
theorem me_keywordOfx {zw : Int64} {h : sm_H} (hS : ab_Sh sx_sk h) : me_E d 216 0 [some (.inr (.inr 109)), some (.inr (.inl zw)), none, none] [] h (fun w h' => ab_Sh sx_sk h' ∧ ab_Fr [] h h' ∧ ∃ z, w = some (.inl z) ∧ -1 ≤ z ∧ z < 20 ∧ (0 ≤ z → mx_b h 118 z.toNat = zw) ∧ (0 ≤ z ↔ gx_kw (mi_f h 13962) (mx_b h 118) zw.toInt = true)) := by
  refine mt_kwA hS ?_
  intro h1 g1 g2
  have eb : ∀ i, mx_b h1 118 i = mx_b h 118 i := fun i => me_b (k := 118) g2 hS rfl rfl
  have ef : mi_f h1 13962 = mi_f h 13962 := me_f (c := 13962) g2 hS rfl rfl
  refine (me_kwBx 30 0 h1 g1 (by omega) (by omega) (by omega) (fun l hl => by omega)).imp (fun w h' hq => ⟨hq.1, g2.trans hq.2.1, ?_⟩)
  obtain ⟨z, z1, z2, z3, z4, z5⟩ := hq.2.2
  simp only [eb, ef] at z4 z5
  refine ⟨z, z1, z2, z3, z4, z5.trans ?_⟩
  rw [gx_kw_iff]
  constructor
  · rintro ⟨l, l1, l2, l3⟩
    exact ⟨l, l1, l2, by rw [l3]⟩
  · rintro ⟨l, l1, l2, l3⟩
    exact ⟨l, l1, l2, Int64.toInt_inj.mp l3⟩
end GX3
/-! grown, exactly -/
def gl_Q (h : sm_H) (m : Option gm_S) (w : Option mi_V) (h' : sm_H) : Prop := w = none ∧ ab_Sh sx_sk h' ∧ ab_Fr wr_L h h' ∧ mi_f h' 14034 = mi_f h 14034 ∧ mi_f h' 14033 = mi_f h 14033 ∧ ((m = none ∧ mi_f h' 14044 = 1) ∨ (mi_f h' 14044 = 0 ∧ ∃ t, m = some t ∧ gx_R h' t))
section GX4
variable {h : sm_H} {d : Nat} {zu : Int}
theorem gx_or {zv y : Int64} {v a k : Nat} (hv : zv.toBitVec.toNat = v) (hk : v < 2 ^ k) (hy : y.toBitVec.toNat = a * 2 ^ k) : (zv ||| y).toBitVec.toNat = v + a * 2 ^ k := by
  rw [Int64.toBitVec_or, BitVec.toNat_or, hv, hy, Nat.or_comm, ← Nat.shiftLeft_eq, ← Nat.shiftLeft_add_eq_or_of_lt hk, Nat.shiftLeft_eq, Nat.add_comm]
theorem gx_32 (k : Nat) : ((2 ^ (5 * k) : Nat) : Int) = 32 ^ k := by
  rw [Nat.pow_mul]
  norm_cast
theorem gx_R_fr0 {h' : sm_H} {s : gm_S} {wr : List (Nat × Nat)} (hR : gx_R h s) (hF : ab_Fr wr h h') (hS : ab_Sh sx_sk h) (hw : wr = []) : gx_R h' s := by
  subst hw
  obtain ⟨r1, r2, r3, r4, r5, r6⟩ := hR
  exact ⟨gx_T_fr r1 hF hS rfl, (me_l (c := 14047) hF hS rfl rfl).trans r2, (me_f (c := 14035) hF hS rfl rfl).trans r3, (me_f (c := 14031) hF hS rfl rfl).trans r4, (me_f (c := 14030) hF hS rfl rfl).trans r5, gx_P_fr hF hS rfl _ r6⟩
/-- a draw beside the pure one -/
theorem gx_R_x {h' : sm_H} {s : gm_S} (hR : gx_R h s) (hF : ab_Fr [(14047, 14048)] h h') (hS : ab_Sh sx_sk h) (e : mx_l h' 14047 = gm_x (mx_l h 14047)) : gx_R h' (gm_x (gm_X s), gm_F s, gm_T s, gm_D s, gm_P s) := by
  obtain ⟨r1, r2, r3, r4, r5, r6⟩ := hR
  unfold gx_R
  rw [gm_T_mk, gm_X_mk, gm_F_mk, gm_D_mk, gm_P_mk]
  exact ⟨gx_T_fr r1 hF hS rfl, by rw [e, r2], (me_f (c := 14035) hF hS rfl rfl).trans r3, (me_f (c := 14031) hF hS rfl rfl).trans r4, (me_f (c := 14030) hF hS rfl rfl).trans r5, gx_P_fr hF hS rfl _ r6⟩
theorem gr_kwx (hS : ab_Sh sx_sk h) (hm : mi_f h 14028 = 1) (hu0 : 0 ≤ zu) (hu1 : zu < 60) {zk : Int} (okk : mi_in zk) : ∀ (m : Nat) (zn : Int) (zv : Int64) (v : Nat) (h1 : sm_H) (s1 : gm_S), 8 ≤ m + zn.toNat → 1 ≤ zn → zn ≤ 7 → zv.toBitVec.toNat = v → v < 2 ^ (5 * zn.toNat) → (zn = 7 → 2 ^ 30 ≤ v) → ab_Sh sx_sk h1 → ab_Fr [(14047, 14048)] h h1 → gx_R h1 s1 → me_E (d + 1) 215 76 [some (.inr (.inr 109)), some (.inl zu), some (.inl zn), some (.inr (.inl zv)), none, some (.inl zk)] [] h1 (gl_Q h (gm_c 3 (gm_zs (gx_kw (mi_f h 13962) (mx_b h 118)) m zn.toNat (v : Int)) s1)) := by
  intro m
  induction m with
  | zero => intro zn zv v h1 s1 a1 a2 a3; omega
  | succ m ih =>
    intro zn zv v h1 s1 a1 a2 a3 av a4 a5 g1 g2 hR
    have oku : mi_in zu := ⟨by omega, by omega⟩
    have okn : mi_in zn := ⟨by omega, by omega⟩
    have hle35 : (2 : Nat) ^ (5 * zn.toNat) ≤ 2 ^ 35 := Nat.pow_le_pow_right (by decide) (by omega)
    have e0 : zv.toInt = (v : Int) := by
      rw [← av]
      show zv.toBitVec.toInt = _
      exact BitVec.toInt_eq_toNat_of_lt (by omega)
    refine mt_grG g1 oku okn okk ?_
    intro h2 p1 p2
    refine ⟨_, me_keywordOfx p1, ?_⟩
    intro w h3 hw hq
    obtain ⟨q1, q2, z, rfl, q3, q4, q5, q6⟩ := hq
    have F2 : ab_Fr [(14047, 14048)] h h2 := g2.trans (p2.wide (fun c hc => by cases hc))
    have F3 : ab_Fr [(14047, 14048)] h h3 := F2.trans (q2.wide (fun c hc => by cases hc))
    have R3 : gx_R h3 s1 := gx_R_fr0 (gx_R_fr0 hR p2 g1 rfl) q2 p1 rfl
    have eb : mx_b h2 118 = mx_b h 118 := funext fun i => me_b (k := 118) F2 hS rfl rfl
    have ef : mi_f h2 13962 = mi_f h 13962 := me_f (c := 13962) F2 hS rfl rfl
    rw [eb, ef, e0] at q6
    unfold gm_zs
    refine mt_grH q1 oku okn okk (hw _ rfl) ?_ ?_
    · intro c1 h4 s1' s2
      rw [if_neg (fun q => by have := q6.mpr q; omega)]
      have F4 : ab_Fr [(14047, 14048)] h h4 := F3.trans (s2.wide (fun c hc => by cases hc))
      refine ⟨_, me_comesx s1' ((me_f (c := 14028) F4 hS rfl rfl).trans hm) ⟨by decide, by decide⟩ (gx_R_fr0 R3 s2 q1 rfl), ?_⟩
      intro w h5 hw5 hq5
      obtain ⟨t1, t2, ⟨z2, rfl⟩, t3⟩ := hq5
      rw [e0] at t3
      refine mt_grI t1 oku okn okk (hw5 _ rfl) ?_
      intro h6 u1 u2
      refine ⟨rfl, u1, ((F4.wide (fun c hc => ab_swr_ok (by decide) hc)).trans (t2.wide (fun c hc => ab_swr_ok (by decide) hc))).trans (u2.wide (fun c hc => by cases hc)), ((me_f (c := 14034) u2 t1 rfl rfl).trans (me_f (c := 14034) t2 s1' rfl rfl)).trans (me_f (c := 14034) F4 hS rfl rfl), ((me_f (c := 14033) u2 t1 rfl rfl).trans (me_f (c := 14033) t2 s1' rfl rfl)).trans (me_f (c := 14033) F4 hS rfl rfl), ?_⟩
      have e44 : mi_f h6 14044 = mi_f h5 14044 := me_f (c := 14044) u2 t1 rfl rfl
      rcases t3 with ⟨x1, x2⟩ | ⟨x1, t, x2, x3⟩
      · exact Or.inl ⟨x1, e44.trans x2⟩
      · exact Or.inr ⟨e44.trans x1, t, x2, gx_R_fr0 x3 u2 t1 rfl⟩
    · intro c1
      rw [if_pos (q6.mp c1)]
      have hkw := q5 c1
      have hb := mx_arrL (a := 118) (n := 20) (lo := -65536) (hi := 1073741823) (ex := []) p1 rfl
      have hlt : zv.toInt ≤ 1073741823 := by
        obtain ⟨f, e1, e2⟩ := hb
        have := (e2 z.toNat (by omega)).2
        unfold mx_b at hkw
        rw [e1] at hkw
        rw [← hkw]
        exact this
      have hn6 : zn ≤ 6 := by
        rcases Int.lt_or_eq_of_le a3 with e | e
        · omega
        · have := a5 e
          omega
      refine ⟨by omega, fun h4 s1' s2 => ?_⟩
      have F4 : ab_Fr [(14047, 14048)] h h4 := F3.trans (s2.wide (fun c hc => by cases hc))
      have hs : ∀ k : Nat, zn = (k : Int) → ((Int64.ofNat 26) <<< ((Int32.ofInt (((5 : Int)) * zn)).toInt64 &&& 63)).toBitVec.toNat = 26 * 2 ^ (5 * k) := by
        intro k hk
        have hc : k = 1 ∨ k = 2 ∨ k = 3 ∨ k = 4 ∨ k = 5 ∨ k = 6 := by omega
        rw [hk]
        rcases hc with rfl | rfl | rfl | rfl | rfl | rfl <;> decide
      have key := gx_or av a4 (hs zn.toNat (by omega))
      have en : (zn + 1).toNat = zn.toNat + 1 := by omega
      have ev : ((v + 26 * 2 ^ (5 * zn.toNat) : Nat) : Int) = (v : Int) + 26 * 32 ^ zn.toNat := by
        rw [← gx_32]
        push_cast
        rfl
      have b5 : v + 26 * 2 ^ (5 * zn.toNat) < 2 ^ (5 * (zn + 1).toNat) := by
        rw [en, Nat.mul_add, Nat.pow_add]
        have := Nat.two_pow_pos (5 * zn.toNat)
        omega
      have b6 : zn + 1 = 7 → 2 ^ 30 ≤ v + 26 * 2 ^ (5 * zn.toNat) := by
        intro e
        have e6 : zn.toNat = 6 := by omega
        rw [e6]
        omega
      have := ih (zn + 1) _ (v + 26 * 2 ^ (5 * zn.toNat)) h4 s1 (by omega) (by omega) (by omega) key b5 b6 s1' F4 (gx_R_fr0 R3 s2 q1 rfl)
      rw [ev, en] at this
      exact this
end GX4
/-! the letters of a grown name, and grown, exactly -/
section GX5
theorem gm_ls_s (m k : Nat) (x : Int64) (v : Int) : gm_ls (m + 1) k x v = gm_ls m (k + 1) (gm_x x) (v + (1 + gm_v (gm_x x) 3) * 32 ^ k) := by rw [gm_ls]
theorem gm_ls_0 (k : Nat) (x : Int64) (v : Int) : gm_ls 0 k x v = (v, x) := by rw [gm_ls]
variable {h : sm_H} {d : Nat} {zu : Int}
theorem gr_letx (hS : ab_Sh sx_sk h) (hm : mi_f h 14028 = 1) (hu0 : 0 ≤ zu) (hu1 : zu < 60) {zn : Int} (hn0 : 1 ≤ zn) (hn1 : zn ≤ 3) : ∀ (j : Nat) (zk : Int) (zv : Int64) (v : Nat) (h1 : sm_H) (s1 : gm_S), zn - zk = (j : Int) → 0 ≤ zk → zv.toBitVec.toNat = v → v < 2 ^ (5 * zk.toNat) → ab_Sh sx_sk h1 → ab_Fr [(14047, 14048)] h h1 → gx_R h1 s1 → me_E (d + 1) 215 48 [some (.inr (.inr 109)), some (.inl zu), some (.inl zn), some (.inr (.inl zv)), none, some (.inl zk)] [] h1 (gl_Q h (gm_c 3 (gm_zs (gx_kw (mi_f h 13962) (mx_b h 118)) 7 zn.toNat (gm_ls j zk.toNat (gm_X s1) (v : Int)).1) ((gm_ls j zk.toNat (gm_X s1) (v : Int)).2, gm_F s1, gm_T s1, gm_D s1, gm_P s1))) := by
  intro j
  induction j with
  | zero =>
    intro zk zv v h1 s1 a1 a2 av a4 g1 g2 hR
    have oku : mi_in zu := ⟨by omega, by omega⟩
    have okn : mi_in zn := ⟨by omega, by omega⟩
    have ek : zk = zn := by omega
    subst ek
    rw [gm_ls_0]
    refine mt_grE g1 oku okn okn ?_ ?_
    · intro c1 h2 p1 p2
      exact gr_kwx hS hm hu0 hu1 okn 7 zk zv v h2 s1 (by omega) hn0 (by omega) av a4 (fun e => by omega) p1 (g2.trans (p2.wide (fun c hc => by cases hc))) (gx_R_fr0 hR p2 g1 rfl)
    · intro c1
      omega
  | succ j ih =>
    intro zk zv v h1 s1 a1 a2 av a4 g1 g2 hR
    have oku : mi_in zu := ⟨by omega, by omega⟩
    have okn : mi_in zn := ⟨by omega, by omega⟩
    have okk : mi_in zk := ⟨by omega, by omega⟩
    refine mt_grE g1 oku okn okk ?_ ?_
    · intro c1
      omega
    · intro c1 h2 p1 p2
      have R2 : gx_R h2 s1 := gx_R_fr0 hR p2 g1 rfl
      refine ⟨_, me_drawx p1 (by decide) (by decide), ?_⟩
      intro w h3 hw hq
      obtain ⟨q1, q2, q3, rfl⟩ := hq
      have R3 := gx_R_x R2 q2 p1 q3
      have F3 : ab_Fr [(14047, 14048)] h h3 := (g2.trans (p2.wide (fun c hc => by cases hc))).trans q2
      have ex : mx_l h2 14047 = gm_X s1 := R2.2.1
      rw [ex] at hw ⊢
      have hz := gm_vbt (gm_x (gm_X s1)) 3 (by decide) (by decide)
      rw [gm_ls_s]
      generalize hgz : gm_v (gm_x (gm_X s1)) 3 = z at hw hz ⊢
      generalize hgx : gm_x (gm_X s1) = y at R3 ⊢
      refine mt_grF q1 oku okn okk (hw _ rfl) ?_
      refine ⟨by omega, fun h4 s1' s2 => ?_⟩
      have F4 : ab_Fr [(14047, 14048)] h h4 := F3.trans (s2.wide (fun c hc => by cases hc))
      have hz3 : z = 0 ∨ z = 1 ∨ z = 2 := by omega
      have hk3 : zk = 0 ∨ zk = 1 ∨ zk = 2 := by omega
      have hs : ((Int64.ofNat 1 + (Int32.ofInt z).toInt64) <<< ((Int32.ofInt (((5 : Int)) * zk)).toInt64 &&& 63)).toBitVec.toNat = (1 + z).toNat * 2 ^ (5 * zk.toNat) := by
        rcases hk3 with rfl | rfl | rfl <;> rcases hz3 with rfl | rfl | rfl <;> decide
      have key := gx_or av a4 hs
      have en : (zk + 1).toNat = zk.toNat + 1 := by omega
      have b5 : v + (1 + z).toNat * 2 ^ (5 * zk.toNat) < 2 ^ (5 * (zk + 1).toNat) := by
        rw [en, Nat.mul_add, Nat.pow_add]
        have := Nat.two_pow_pos (5 * zk.toNat)
        have : (1 + z).toNat * 2 ^ (5 * zk.toNat) ≤ 3 * 2 ^ (5 * zk.toNat) := Nat.mul_le_mul_right _ (by omega)
        omega
      have ev : ((v + (1 + z).toNat * 2 ^ (5 * zk.toNat) : Nat) : Int) = (v : Int) + (1 + z) * 32 ^ zk.toNat := by
        rw [← gx_32, Int.natCast_add, Int.natCast_mul, Int.toNat_of_nonneg (by omega)]
      have := ih (zk + 1) _ (v + (1 + z).toNat * 2 ^ (5 * zk.toNat)) h4 (y, gm_F s1, gm_T s1, gm_D s1, gm_P s1) (by omega) (by omega) key b5 s1' F4 (gx_R_fr0 R3 s2 q1 rfl)
      rw [ev, en, gm_X_mk, gm_F_mk, gm_T_mk, gm_D_mk, gm_P_mk] at this
      exact this
end GX5
/-! grown, exactly -/
section GX6
/-- what a leaf gives -/
def gm_lf (kw : Int → Bool) (o : Int) (s : gm_S) : Option gm_S :=
  if o = 1 then gm_c 2 (gm_v (gm_x (gm_X s)) 10000) (gm_x (gm_X s), gm_F s, gm_T s, gm_D s, gm_P s)
  else if o = 2 then gm_c 3 (gm_nm kw (gm_X s)).1 ((gm_nm kw (gm_X s)).2, gm_F s, gm_T s, gm_D s, gm_P s)
  else some s
theorem gm_lf_1 {kw : Int → Bool} {o : Int} {s : gm_S} {y : Int64} {z : Int} (ho : o = 1) (hy : gm_x (gm_X s) = y) (hz : gm_v y 10000 = z) : gm_lf kw o s = gm_c 2 z (y, gm_F s, gm_T s, gm_D s, gm_P s) := by
  unfold gm_lf
  rw [if_pos ho, hy, hz]
theorem gm_nm_e {kw : Int → Bool} {x y : Int64} {z : Int} (hy : gm_x x = y) (hz : gm_v y 3 = z) : gm_nm kw x = (gm_zs kw 7 (1 + z).toNat (gm_ls (1 + z).toNat 0 y 0).1, (gm_ls (1 + z).toNat 0 y 0).2) := by
  unfold gm_nm
  rw [hy, hz]
theorem gm_lf_2 {kw : Int → Bool} {o : Int} {s : gm_S} {y : Int64} {z : Int} (ho : o = 2) (hy : gm_x (gm_X s) = y) (hz : gm_v y 3 = z) : gm_lf kw o s = gm_c 3 (gm_zs kw 7 (1 + z).toNat (gm_ls (1 + z).toNat 0 y 0).1) ((gm_ls (1 + z).toNat 0 y 0).2, gm_F s, gm_T s, gm_D s, gm_P s) := by
  unfold gm_lf
  rw [if_neg (by omega), if_pos ho, gm_nm_e hy hz]
theorem gm_lf_o {kw : Int → Bool} {o : Int} {s : gm_S} (h1 : o ≠ 1) (h2 : o ≠ 2) : gm_lf kw o s = some s := by
  unfold gm_lf
  rw [if_neg h1, if_neg h2]
variable {h : sm_H} {d : Nat} {zu : Int} {s : gm_S}
theorem gl_node {kd : Int} {zv : Int64} {h3 h4 h5 : sm_H} {s1 : gm_S} (hS : ab_Sh sx_sk h) (F3 : ab_Fr [(14047, 14048)] h h3) (r1 : ab_Sh sx_sk h3) (t1 : ab_Sh sx_sk h4) (t2 : ab_Fr [(14016, 14017), (14044, 14045), (20224, 20225), (20352, 20353), (20480, 20481), (20864, 20865)] h3 h4) (t3 : (gm_c kd zv.toInt s1 = none ∧ mi_f h4 14044 = 1) ∨ (mi_f h4 14044 = 0 ∧ ∃ t, gm_c kd zv.toInt s1 = some t ∧ gx_R h4 t)) (u1 : ab_Sh sx_sk h5) (u2 : ab_Fr [] h4 h5) : gl_Q h (gm_c kd zv.toInt s1) none h5 := by
  refine ⟨rfl, u1, ((F3.wide (fun c hc => ab_swr_ok (by decide) hc)).trans (t2.wide (fun c hc => ab_swr_ok (by decide) hc))).trans (u2.wide (fun c hc => by cases hc)), ((me_f (c := 14034) u2 t1 rfl rfl).trans (me_f (c := 14034) t2 r1 rfl rfl)).trans (me_f (c := 14034) F3 hS rfl rfl), ((me_f (c := 14033) u2 t1 rfl rfl).trans (me_f (c := 14033) t2 r1 rfl rfl)).trans (me_f (c := 14033) F3 hS rfl rfl), ?_⟩
  have e44 : mi_f h5 14044 = mi_f h4 14044 := me_f (c := 14044) u2 t1 rfl rfl
  rcases t3 with ⟨x1, x2⟩ | ⟨x1, t, x2, x3⟩
  · exact Or.inl ⟨x1, e44.trans x2⟩
  · exact Or.inr ⟨e44.trans x1, t, x2, gx_R_fr0 x3 u2 t1 rfl⟩
theorem me_grownx (hS : ab_Sh sx_sk h) (hm : mi_f h 14028 = 1) (hu0 : 0 ≤ zu) (hu1 : zu < 60) (hp : mi_f h 14044 = 0) (hR : gx_R h s) : me_E (d + 1) 215 0 [some (.inr (.inr 109)), some (.inl zu), none, none, none, none] [] h (gl_Q h (gm_lf (gx_kw (mi_f h 13962) (mx_b h 118)) (mi_a h 119 zu.toNat) s)) := by
  have ok : mi_in zu := ⟨by omega, by omega⟩
  obtain ⟨y, hy⟩ : ∃ y, gm_x (gm_X s) = y := ⟨_, rfl⟩
  refine mt_grA hS ok ?_ ?_ ?_
  · intro c1 c2
    obtain ⟨z, hz⟩ : ∃ z, gm_v y 3 = z := ⟨_, rfl⟩
    rw [gm_lf_2 c2 hy hz]
    have hzb := gm_vbt y 3 (by decide) (by decide)
    rw [hz] at hzb
    refine ⟨by omega, fun h1 g1 g2 => ⟨_, me_drawx g1 (by decide) (by decide), ?_⟩⟩
    intro w h2 hw hq
    obtain ⟨q1, q2, q3, q4⟩ := hq
    have R1 : gx_R h1 s := gx_R_fr0 hR g2 hS rfl
    have R2 := gx_R_x R1 q2 g1 q3
    have ex : mx_l h1 14047 = gm_X s := R1.2.1
    rw [ex, hy, hz] at q4
    rw [hy] at R2
    subst q4
    refine mt_grD q1 ok (hw _ rfl) ⟨by decide, by decide⟩ ?_
    refine ⟨by omega, fun h3 r1 r2 => ?_⟩
    have key := gr_letx (d := d) hS hm hu0 hu1 (zn := 1 + z) (by omega) (by omega) (1 + z).toNat 0 (Int64.ofNat 0) 0 h3 (y, gm_F s, gm_T s, gm_D s, gm_P s) (by omega) (by omega) (by decide) (by decide) r1 (((g2.wide (fun c hc => by cases hc)).trans q2).trans (r2.wide (fun c hc => by cases hc))) (gx_R_fr0 R2 r2 q1 rfl)
    have e0 : (Int.toNat 0) = 0 := rfl
    have e1 : ((0 : Nat) : Int) = 0 := rfl
    rw [gm_X_mk, gm_F_mk, gm_T_mk, gm_D_mk, gm_P_mk, e0, e1] at key
    exact key
  · intro c1 c2
    refine ⟨by omega, fun h1 g1 g2 => ?_⟩
    rw [gm_lf_o c1 c2]
    exact ⟨rfl, g1, g2.wide (fun c hc => by cases hc), me_f (c := 14034) g2 hS rfl rfl, me_f (c := 14033) g2 hS rfl rfl, Or.inr ⟨(me_f (c := 14044) g2 hS rfl rfl).trans hp, s, rfl, gx_R_fr0 hR g2 hS rfl⟩⟩
  · intro c1
    obtain ⟨z, hz⟩ : ∃ z, gm_v y 10000 = z := ⟨_, rfl⟩
    rw [gm_lf_1 c1 hy hz]
    have hzb := gm_vbt y 10000 (by decide) (by decide)
    rw [hz] at hzb
    refine ⟨by omega, fun h1 g1 g2 => ⟨_, me_drawx g1 (by decide) (by decide), ?_⟩⟩
    intro w h2 hw hq
    obtain ⟨q1, q2, q3, q4⟩ := hq
    have R1 : gx_R h1 s := gx_R_fr0 hR g2 hS rfl
    have R2 := gx_R_x R1 q2 g1 q3
    have ex : mx_l h1 14047 = gm_X s := R1.2.1
    rw [ex, hy, hz] at q4
    rw [hy] at R2
    subst q4
    refine mt_grB q1 ok (hw _ rfl) ⟨by decide, by decide⟩ ?_
    intro h3 r1 r2
    have F3 : ab_Fr [(14047, 14048)] h h3 := ((g2.wide (fun c hc => by cases hc)).trans q2).trans (r2.wide (fun c hc => by cases hc))
    have ez : ((Int32.ofInt z).toInt64).toInt = z := by rw [Int32.toInt_toInt64, mi_ti ⟨by omega, by omega⟩]
    refine ⟨_, me_comesx r1 ((me_f (c := 14028) F3 hS rfl rfl).trans hm) ⟨by decide, by decide⟩ (gx_R_fr0 R2 r2 q1 rfl), ?_⟩
    intro w h4 hw4 hq4
    obtain ⟨t1, t2, ⟨z2, rfl⟩, t3⟩ := hq4
    have e119 : mi_a h4 119 zu.toNat = mi_a h 119 zu.toNat := (me_a (k := 119) t2 r1 rfl rfl).trans (me_a (k := 119) F3 hS rfl rfl)
    refine mt_grC t1 ok (hw4 _ rfl) ?_ ?_
    · intro c2
      exfalso; omega
    · intro c2
      refine ⟨by omega, fun h5 u1 u2 => ?_⟩
      have := gl_node hS F3 r1 t1 t2 t3 u1 u2
      rw [ez] at this
      exact this
end GX6
/-! single, again, unit of the reference, exactly -/
def gx_w (wr : List (Nat × Nat)) : Bool := ab_in wr 14016 || ab_in wr 20224 || ab_in wr 20352 || ab_in wr 20480 || ab_in wr 20864
def gx_w2 (wr : List (Nat × Nat)) : Bool := ab_in wr 21504 || ab_in wr 21632
def gx_w3 (wr : List (Nat × Nat)) : Bool := ab_in wr 14047 || ab_in wr 14035 || ab_in wr 14030
theorem gx_R_fr {h h' : sm_H} {s : gm_S} {wr : List (Nat × Nat)} (hR : gx_R h s) (hF : ab_Fr wr h h') (hS : ab_Sh sx_sk h) (w1 : gx_w wr = false) (w2 : gx_w2 wr = false) (w3 : gx_w3 wr = false) (w4 : ab_in wr 14031 = false) : gx_R h' s := by
  obtain ⟨r1, r2, r3, r4, r5, r6⟩ := hR
  unfold gx_w3 at w3
  simp only [Bool.or_eq_false_iff] at w3
  exact ⟨gx_T_fr r1 hF hS w1, (me_l (c := 14047) hF hS rfl w3.1.1).trans r2, (me_f (c := 14035) hF hS rfl w3.1.2).trans r3, (me_f (c := 14031) hF hS rfl w4).trans r4, (me_f (c := 14030) hF hS rfl w3.2).trans r5, gx_P_fr hF hS w2 _ r6⟩
/-- one more is open -/
theorem gx_R_d {h h' : sm_H} {s : gm_S} {wr : List (Nat × Nat)} (hR : gx_R h s) (hF : ab_Fr wr h h') (hS : ab_Sh sx_sk h) (w1 : gx_w wr = false) (w2 : gx_w2 wr = false) (w3 : gx_w3 wr = false) (hD0 : -1000 ≤ gm_D s) (hD1 : gm_D s ≤ 999) (e : mi_f h' 14031 = (Int32.ofInt (mi_f h 14031) + Int32.ofInt (1 : Int)).toInt) : gx_R h' (gm_d s) := by
  obtain ⟨r1, r2, r3, r4, r5, r6⟩ := hR
  unfold gx_w3 at w3
  simp only [Bool.or_eq_false_iff] at w3
  unfold gm_d gx_R
  rw [gm_T_mk, gm_X_mk, gm_F_mk, gm_D_mk, gm_P_mk]
  refine ⟨gx_T_fr r1 hF hS w1, (me_l (c := 14047) hF hS rfl w3.1.1).trans r2, (me_f (c := 14035) hF hS rfl w3.1.2).trans r3, ?_, (me_f (c := 14030) hF hS rfl w3.2).trans r5, gx_P_fr hF hS w2 _ r6⟩
  rw [e, r4]
  exact (gx_wrap hD0 (by omega)).2
def gx_k (h : sm_H) : Int → Bool := gx_kw (mi_f h 13962) (mx_b h 118)
theorem gx_k_fr {h h' : sm_H} {wr : List (Nat × Nat)} (hF : ab_Fr wr h h') (hS : ab_Sh sx_sk h) (w1 : ab_in wr 13962 = false) (w2 : ab_in wr 15104 = false) : gx_k h' = gx_k h := by
  have eb : mx_b h' 118 = mx_b h 118 := funext fun i => me_b (k := 118) hF hS rfl w2
  have ef : mi_f h' 13962 = mi_f h 13962 := me_f (c := 13962) hF hS rfl w1
  unfold gx_k
  rw [eb, ef]
/-- what the steps of the growing walk ask for -/
def gx_in (h : sm_H) (s : gm_S) : Prop := ab_Sh sx_sk h ∧ mi_f h 14028 = 1 ∧ mi_f h 14044 = 0 ∧ 0 ≤ mi_f h 14029 ∧ mi_f h 14032 = wk_ul (wk_stk h) ∧ 0 ≤ mi_f h 14032 ∧ mi_f h 14032 ≤ 12 ∧ gx_R h s ∧ (-1000 ≤ gm_F s ∧ gm_F s ≤ 1000) ∧ -1000 ≤ gm_D s ∧ gm_D s ≤ 998
section GX7
variable {h : sm_H} {d : Nat} {zu : Int} {s : gm_S}
theorem gx_of_gl {h' : sm_H} {m : Option gm_S} (hi : gx_in h s) (hq : gl_Q h m none h') : gx_Q h (m.map (fun t => (wk_stk h, t))) none h' := by
  obtain ⟨-, q1, q2, q3, q4, q5⟩ := hq
  obtain ⟨i1, i2, i3, i4, i5, i6, i7, -⟩ := hi
  refine ⟨rfl, q1, q2.wide (fun c hc => ab_swr_ok (by decide) hc), q3, q4, ?_⟩
  rcases q5 with ⟨e1, e2⟩ | ⟨e1, t, e2, e3⟩
  · exact Or.inl ⟨by rw [e1]; rfl, e2⟩
  · exact Or.inr ⟨e1, (wk_stk h, t), by rw [e2]; rfl, wk_stk_fr q2 i1 rfl, e3, (me_f (c := 14032) q2 i1 rfl rfl).trans i5⟩
theorem gm_sg_lf {g : wk_g} {kw : Int → Bool} {u : Int} {r : List wk_E} (n9 : g 119 u.toNat ≠ 9) (n10 : g 119 u.toNat ≠ 10) : gm_sg g kw u r s = (gm_lf kw (g 119 u.toNat) s).map (fun t => (r, t)) := by
  unfold gm_sg gm_lf
  rw [if_neg n9, if_neg n10]
  by_cases c1 : g 119 u.toNat = 1
  · rw [if_pos c1, if_pos c1]
  · rw [if_neg c1, if_neg c1]
    by_cases c2 : g 119 u.toNat = 2
    · rw [if_pos c2, if_pos c2]
    · rw [if_neg c2, if_neg c2]
      rfl
theorem sx_grown (hi : gx_in h s) (hu : wk_us h zu) (n9 : mi_a h 119 zu.toNat ≠ 9) (n10 : mi_a h 119 zu.toNat ≠ 10) : ∃ Q1, me_E (d + 4) 215 0 [some (.inr (.inr 109)), some (.inl zu), none, none, none, none] [] h Q1 ∧ ∀ w h', (∀ x, w = some x → mi_ok x) → Q1 w h' → me_E (d + 5) 213 121 [some (.inr (.inr 109)), some (.inl zu)] (mi_back w []) h' (gx_Q h (gm_sg (mi_a h) (gx_k h) zu (wk_stk h) s)) := by
  have ok : mi_in zu := ⟨by have := hu.1; omega, by have := hu.2.1; omega⟩
  refine ⟨_, me_grownx (d := d + 3) (s := s) hi.1 hi.2.1 hu.1 hu.2.1 hi.2.2.1 hi.2.2.2.2.2.2.2.1, ?_⟩
  intro w h' hw hq
  have e := hq.1
  subst e
  have q1 := hq.2.1
  refine mt_sr121 q1 ok ?_
  intro h3 r1 r2
  have e3 := me_nil r2
  subst e3
  rw [gm_sg_lf n9 n10]
  exact gx_of_gl hi hq
theorem sx_lay (hi : gx_in h s) (hu : wk_us h zu) (n1 : mi_a h 119 zu.toNat ≠ 1) (n2 : mi_a h 119 zu.toNat ≠ 2) (n9 : mi_a h 119 zu.toNat ≠ 9) (n10 : mi_a h 119 zu.toNat ≠ 10) : ∃ Q1, me_E (d + 4) 222 0 [some (.inr (.inr 109)), some (.inl (mi_a h 119 zu.toNat))] [] h Q1 ∧ ∀ w h', (∀ x, w = some x → mi_ok x) → Q1 w h' → me_E (d + 5) 213 142 [some (.inr (.inr 109)), some (.inl zu)] (mi_back w []) h' (gx_Q h (gm_sg (mi_a h) (gx_k h) zu (wk_stk h) s)) := by
  have ok : mi_in zu := ⟨by have := hu.1; omega, by have := hu.2.1; omega⟩
  obtain ⟨i1, i2, i3, i4, i5, i6, i7, i8, -⟩ := hi
  refine ⟨_, me_lay i1 (mi_inT _), ?_⟩
  intro w h' hw hq
  obtain ⟨rfl, q1, q2⟩ := hq
  refine mt_sr142 q1 ok ?_
  intro h3 r1 r2
  have e3 := me_nil r2
  subst e3
  rw [gm_sg_lf n9 n10, gm_lf_o n1 n2]
  exact ⟨rfl, q1, q2.wide (fun c hc => ab_swr_ok (by decide) hc), me_f (c := 14034) q2 i1 rfl rfl, me_f (c := 14033) q2 i1 rfl rfl, Or.inr ⟨(me_f (c := 14044) q2 i1 rfl rfl).trans i3, (wk_stk h, s), rfl, wk_stk_fr q2 i1 rfl, gx_R_fr i8 q2 i1 rfl rfl rfl rfl, (me_f (c := 14032) q2 i1 rfl rfl).trans i5⟩⟩
theorem sx_enter (hi : gx_in h s) (hu : wk_us h zu) (ht : mi_f h 14029 ≤ 2990) (h9 : mi_a h 119 zu.toNat = 9) : ∃ Q1, me_E (d + 4) 207 0 [some (.inr (.inr 109)), some (.inl (mi_a h 115 (mi_a h 120 zu.toNat).toNat))] [] h Q1 ∧ ∀ w h', (∀ x, w = some x → mi_ok x) → Q1 w h' → me_E (d + 5) 213 75 [some (.inr (.inr 109)), some (.inl zu)] (mi_back w []) h' (gx_Q h (gm_sg (mi_a h) (gx_k h) zu (wk_stk h) s)) := by
  have ok : mi_in zu := ⟨by have := hu.1; omega, by have := hu.2.1; omega⟩
  obtain ⟨i1, i2, i3, i4, i5, i6, i7, i8, i9, i10, i11⟩ := hi
  obtain ⟨u1, u2, u3, u4⟩ := hu.2.2.1 h9
  refine ⟨_, me_enterx (d := d + 2) (s := s) i1 i2 i4 ht i5 i7 i6 u3 u4 i8 i9.1 i9.2 i10 (by omega), ?_⟩
  intro w h' hw hq
  have e := hq.1
  subst e
  have q1 := hq.2.1
  refine mt_sr75 q1 ok ?_
  intro h3 r1 r2
  have e3 := me_nil r2
  subst e3
  have e : gm_sg (mi_a h) (gx_k h) zu (wk_stk h) s = gm_en (mi_a h) (mi_a h 115 (mi_a h 120 zu.toNat).toNat) (wk_stk h) s := by
    unfold gm_sg
    rw [if_pos h9]
  rw [e]
  exact hq
theorem me_singlex (hi : gx_in h s) (hu : wk_us h zu) (ht : mi_f h 14029 ≤ 2990) : me_E (d + 5) 213 0 [some (.inr (.inr 109)), some (.inl zu)] [] h (gx_Q h (gm_sg (mi_a h) (gx_k h) zu (wk_stk h) s)) := by
  obtain ⟨i1, i2, i3, i4, i5, i6, i7, i8, i9, i10, i11⟩ := id hi
  have hu0 := hu.1
  have hu1 := hu.2.1
  have ok : mi_in zu := ⟨by omega, by omega⟩
  refine mt_sg i1 ok ?_ ?_ ?_ ?_ ?_ ?_ ?_ ?_ ?_ ?_ ?_ ?_ ?_ ?_ ?_ ?_ ?_
  · intro b c1 c2 c3
    exact absurd i2 c3
  · intro b c1 c2 c3
    refine ⟨by omega, fun h1 g1 g2 => ?_⟩
    have e3 := me_nil g2
    subst e3
    exact sx_grown hi hu (by omega) (by omega)
  · intro b c1 c2
    exfalso; omega
  · intro b c1 c2 c3
    exact absurd i2 c3
  · intro b c1 c2 c3
    refine ⟨by omega, fun h1 g1 g2 => ?_⟩
    have e3 := me_nil g2
    subst e3
    exact sx_grown hi hu (by omega) (by omega)
  · intro b c1 c2
    exfalso; omega
  · intro c1
    refine ⟨by omega, fun h1 g1 g2 => ?_⟩
    have e3 := me_nil g2
    subst e3
    exact sx_lay hi hu (by omega) (by omega) (by omega) (by omega)
  · intro c1
    refine ⟨by omega, fun h1 g1 g2 => ?_⟩
    have e3 := me_nil g2
    subst e3
    exact sx_lay hi hu (by omega) (by omega) (by omega) (by omega)
  · intro c1
    refine ⟨by omega, fun h1 g1 g2 => ?_⟩
    have e3 := me_nil g2
    subst e3
    exact sx_lay hi hu (by omega) (by omega) (by omega) (by omega)
  · intro c1
    refine ⟨by omega, fun h1 g1 g2 => ?_⟩
    have e3 := me_nil g2
    subst e3
    exact sx_lay hi hu (by omega) (by omega) (by omega) (by omega)
  · intro c1
    refine ⟨by omega, fun h1 g1 g2 => ?_⟩
    have e3 := me_nil g2
    subst e3
    exact sx_lay hi hu (by omega) (by omega) (by omega) (by omega)
  · intro b c1 c2 c3
    exact absurd i2 c3
  · intro b c1 c2 c3
    refine ⟨by omega, fun h1 g1 g2 => ?_⟩
    have e3 := me_nil g2
    subst e3
    exact sx_grown hi hu (by omega) (by omega)
  · intro b c1 c2
    exfalso; omega
  · intro c1
    have u := hu.2.2.1 (by omega)
    refine ⟨by omega, fun h1 g1 g2 => ?_⟩
    have e3 := me_nil g2
    subst e3
    exact sx_enter hi hu ht (by omega)
  · intro b c1
    refine ⟨by omega, fun h1 g1 g2 a5 a6 a7 g3 => ?_⟩
    have h10 : mi_a h 119 zu.toNat = 10 := by omega
    have n9 : ¬ mi_a h 119 zu.toNat = 9 := by omega
    have est := wk_push1 i4 g2 a5 a6 a7
    have e : gm_sg (mi_a h) (gx_k h) zu (wk_stk h) s = some ((1, mi_a h 120 zu.toNat, 0) :: wk_stk h, s) := by
      unfold gm_sg
      rw [if_neg n9, if_pos h10]
    rw [e]
    refine ⟨rfl, g1, g3.wide (fun c hc => ab_swr_ok (by decide) hc), me_f (c := 14034) g3 i1 rfl rfl, me_f (c := 14033) g3 i1 rfl rfl, Or.inr ⟨(me_f (c := 14044) g3 i1 rfl rfl).trans i3, ((1, mi_a h 120 zu.toNat, 0) :: wk_stk h, s), rfl, est, gx_R_fr i8 g3 i1 rfl rfl rfl rfl, ?_⟩⟩
    rw [me_f (c := 14032) g3 i1 rfl rfl, i5]
    exact (wk_ul_c (by decide)).symm
  · intro c1
    refine ⟨by omega, fun h1 g1 g2 => ?_⟩
    have e3 := me_nil g2
    subst e3
    exact sx_lay hi hu (by omega) (by omega) (by omega) (by omega)
/-- the same description gives the same -/
theorem gm_en_g {g g' : wk_g} (hg : wk_gc g g') {i : Int} {r : List wk_E} : gm_en g' i r s = gm_en g i r s := by
  unfold gm_en
  rw [hg 114 (by decide)]
theorem gm_sg_g {g g' : wk_g} (hg : wk_gc g g') {kw : Int → Bool} {u : Int} {r : List wk_E} : gm_sg g' kw u r s = gm_sg g kw u r s := by
  unfold gm_sg
  rw [hg 119 (by decide), hg 120 (by decide), hg 115 (by decide), gm_en_g hg]
def gm_ag (g : wk_g) (kw : Int → Bool) (u a : Int) (r : List wk_E) (s : gm_S) : Option gm_C := if 0 < a then gm_sg g kw u ((5, u, a - 1) :: r) s else some (r, s)
theorem gx_Q_fr {h1 h' : sm_H} {m : Option gm_C} {w : Option mi_V} (hS : ab_Sh sx_sk h) (hF : ab_Fr wr_W1 h h1) (e34 : mi_f h1 14034 = mi_f h 14034) (e33 : mi_f h1 14033 = mi_f h 14033) (hq : gx_Q h1 m w h') : gx_Q h m w h' := by
  obtain ⟨q0, q1, q2, q3, q4, q5⟩ := hq
  exact ⟨q0, q1, hF.trans q2, q3.trans e34, q4.trans e33, q5⟩
theorem me_againx {za : Int} (hi : gx_in h s) (hu : wk_us h zu) (ht : mi_f h 14029 ≤ 2985) (hza : mi_in za) : me_E (d + 6) 227 0 [some (.inr (.inr 109)), some (.inl zu), some (.inl za), none] [] h (gx_Q h (gm_ag (mi_a h) (gx_k h) zu za (wk_stk h) s)) := by
  obtain ⟨i1, i2, i3, i4, i5, i6, i7, i8, i9, i10, i11⟩ := id hi
  have hu0 := hu.1
  have hu1 := hu.2.1
  have ok : mi_in zu := ⟨by omega, by omega⟩
  have hzb := hza.1
  have hzc := hza.2
  refine mt_agA i1 ok hza ?_ ?_ ?_
  · intro b c1 c2 h1 g1 g2
    have e3 := me_nil g2
    subst e3
    unfold gm_ag
    rw [if_neg (by omega)]
    exact ⟨rfl, g1, ab_Fr.refl, rfl, rfl, Or.inr ⟨i3, (wk_stk h1, s), rfl, rfl, i8, i5⟩⟩
  · intro b1 b2 c1 c2
    refine ⟨by omega, fun h1 g1 g2 a5 a6 a7 g3 => ?_⟩
    have est := wk_push1 i4 g2 a5 a6 a7
    have hg : wk_gc (mi_a h) (mi_a h1) := wk_gc_fr g3 i1 rfl
    have hk : gx_k h1 = gx_k h := gx_k_fr g3 i1 rfl rfl
    have e32 : mi_f h1 14032 = mi_f h 14032 := me_f (c := 14032) g3 i1 rfl rfl
    have hi1 : gx_in h1 s := ⟨g1, (me_f (c := 14028) g3 i1 rfl rfl).trans i2, (me_f (c := 14044) g3 i1 rfl rfl).trans i3, by omega, by rw [est, wk_ul_c (by decide), e32]; exact i5, by omega, by omega, gx_R_fr i8 g3 i1 rfl rfl rfl rfl, i9, i10, i11⟩
    refine ⟨_, me_singlex (d := d) hi1 (wk_us_g hg hu) (by omega), ?_⟩
    intro w h2 hw hq
    have e := hq.1
    subst e
    refine mt_agC hq.2.1 ok hza ⟨by decide, by decide⟩ ?_
    intro h3 r1 r2
    have e3 := me_nil r2
    subst e3
    unfold gm_ag
    rw [if_pos c2]
    rw [gm_sg_g hg, hk, est] at hq
    exact gx_Q_fr i1 (g3.wide (fun c hc => ab_swr_ok (by decide) hc)) (me_f (c := 14034) g3 i1 rfl rfl) (me_f (c := 14033) g3 i1 rfl rfl) hq
  · intro b c1
    exfalso; omega
end GX7
