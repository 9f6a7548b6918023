/-! the class: has, with each of the seven words -/
/-- from k on stand the characters ws -/
def wd_m (h : sm_H) (k : Int) (ws : List Int) : Prop := ∀ j : Nat, j < ws.length → cx_at h (k + j) = ws.getD j 0
def hs_Q (h : sm_H) (zf zt : Int) (ws : List Int) (w : Option mi_V) (h' : sm_H) : Prop := h' = h ∧ ∃ z, w = some (.inl z) ∧ (z = 0 ∨ z = 1) ∧ (z = 1 ↔ zt - zf = (ws.length : Int) ∧ wd_m h zf ws)
theorem me_abs1 {d m : Nat} {h : sm_H} {c : ab_C} {M : sm_M} {as : List mi_V} {z : Int} (hok : ab_Ok sc_P sx_sk c) (hc : c.2.2 = ([], [((1, z, z, []), [])], [], 5)) (hM : sc_P c.1 = some M) (hk : M.2.1 ≠ 0) (hS : ab_Sh sx_sk h) (has : ab_nvs c.2.1 (as.map mi_c)) : me_E (d + 5) c.1 0 (mi_entry M.1 as) [] h (fun w h' => h' = h ∧ w = some (.inl z)) := by
  obtain ⟨m1, a1, p1, q1, w1, d1⟩ := c
  have hc : (p1, q1, w1, d1) = ([], [((1, z, z, []), [])], [], 5) := hc
  cases hc
  have := me_abs (M := M) (as := as) hok hM hS has (fun e he => by cases he) (by simp)
  refine (me_E.deep (d' := d + 5) this (Nat.le_add_left _ _)).imp (fun w h' hq => ?_)
  obtain ⟨q1, q2, p, hp, q3, -⟩ := hq
  refine ⟨me_nil q2, ?_⟩
  rcases List.mem_cons.mp hp with rfl | hp
  · obtain ⟨y, e, y0, y1⟩ := me_resI q3 hk rfl
    have y0 : z ≤ y := y0
    have y1 : y ≤ z := y1
    rw [e]
    congr 2
    omega
  · cases hp
def ws_1 : List Int := [110, 117, 109, 98, 101, 114]
def xc_len_1 : ab_C := (27, [(3, 1, 0, [])], [], [((1, 6, 6, []), [])], [], 5)
theorem xo_len_1 : ab_Ok sc_P sx_sk xc_len_1 := ab_good_ok (env := []) (heads := []) (fuel := 40) (by decide +kernel) (fun _ h => absurd h List.not_mem_nil)
def xc_chr_1_0 : ab_C := (29, [(3, 1, 0, []), (1, 0, 0, [])], [], [((1, 110, 110, []), [])], [], 5)
theorem xo_chr_1_0 : ab_Ok sc_P sx_sk xc_chr_1_0 := ab_good_ok (env := []) (heads := []) (fuel := 60) (by decide +kernel) (fun _ h => absurd h List.not_mem_nil)
def xc_chr_1_1 : ab_C := (29, [(3, 1, 0, []), (1, 1, 1, [])], [], [((1, 117, 117, []), [])], [], 5)
theorem xo_chr_1_1 : ab_Ok sc_P sx_sk xc_chr_1_1 := ab_good_ok (env := []) (heads := []) (fuel := 60) (by decide +kernel) (fun _ h => absurd h List.not_mem_nil)
def xc_chr_1_2 : ab_C := (29, [(3, 1, 0, []), (1, 2, 2, [])], [], [((1, 109, 109, []), [])], [], 5)
theorem xo_chr_1_2 : ab_Ok sc_P sx_sk xc_chr_1_2 := ab_good_ok (env := []) (heads := []) (fuel := 60) (by decide +kernel) (fun _ h => absurd h List.not_mem_nil)
def xc_chr_1_3 : ab_C := (29, [(3, 1, 0, []), (1, 3, 3, [])], [], [((1, 98, 98, []), [])], [], 5)
theorem xo_chr_1_3 : ab_Ok sc_P sx_sk xc_chr_1_3 := ab_good_ok (env := []) (heads := []) (fuel := 60) (by decide +kernel) (fun _ h => absurd h List.not_mem_nil)
def xc_chr_1_4 : ab_C := (29, [(3, 1, 0, []), (1, 4, 4, [])], [], [((1, 101, 101, []), [])], [], 5)
theorem xo_chr_1_4 : ab_Ok sc_P sx_sk xc_chr_1_4 := ab_good_ok (env := []) (heads := []) (fuel := 60) (by decide +kernel) (fun _ h => absurd h List.not_mem_nil)
def xc_chr_1_5 : ab_C := (29, [(3, 1, 0, []), (1, 5, 5, [])], [], [((1, 114, 114, []), [])], [], 5)
theorem xo_chr_1_5 : ab_Ok sc_P sx_sk xc_chr_1_5 := ab_good_ok (env := []) (heads := []) (fuel := 60) (by decide +kernel) (fun _ h => absurd h List.not_mem_nil)
section HS1
variable {d : Nat} {h : sm_H} {zf zt : Int}
theorem me_len_1 (hS : ab_Sh sx_sk h) : me_E (d + 5) 27 0 [some (.inr (.inr 1))] [] h (fun w h' => h' = h ∧ w = some (.inl 6)) := me_abs1 (m := 27) (M := (1, 1, sb_27)) (as := [.inr (.inr 1)]) xo_len_1 rfl rfl (by decide) hS ⟨rfl, trivial⟩
theorem me_chr_1 {zk : Int} (hS : ab_Sh sx_sk h) (k0 : 0 ≤ zk) (k1 : zk < 6) : me_E (d + 5) 29 0 [some (.inr (.inr 1)), some (.inl zk)] [] h (fun w h' => h' = h ∧ w = some (.inl (ws_1.getD zk.toNat 0))) := by
  rcases (show zk = 0 ∨ zk = 1 ∨ zk = 2 ∨ zk = 3 ∨ zk = 4 ∨ zk = 5 by omega) with rfl | rfl | rfl | rfl | rfl | rfl
  · exact me_abs1 (m := 29) (M := (2, 5, sb_29)) (as := [.inr (.inr 1), .inl 0]) (z := 110) xo_chr_1_0 rfl rfl (by decide) hS ⟨rfl, me_nv1 ⟨by decide, by decide⟩ (by decide) (by decide), trivial⟩
  · exact me_abs1 (m := 29) (M := (2, 5, sb_29)) (as := [.inr (.inr 1), .inl 1]) (z := 117) xo_chr_1_1 rfl rfl (by decide) hS ⟨rfl, me_nv1 ⟨by decide, by decide⟩ (by decide) (by decide), trivial⟩
  · exact me_abs1 (m := 29) (M := (2, 5, sb_29)) (as := [.inr (.inr 1), .inl 2]) (z := 109) xo_chr_1_2 rfl rfl (by decide) hS ⟨rfl, me_nv1 ⟨by decide, by decide⟩ (by decide) (by decide), trivial⟩
  · exact me_abs1 (m := 29) (M := (2, 5, sb_29)) (as := [.inr (.inr 1), .inl 3]) (z := 98) xo_chr_1_3 rfl rfl (by decide) hS ⟨rfl, me_nv1 ⟨by decide, by decide⟩ (by decide) (by decide), trivial⟩
  · exact me_abs1 (m := 29) (M := (2, 5, sb_29)) (as := [.inr (.inr 1), .inl 4]) (z := 101) xo_chr_1_4 rfl rfl (by decide) hS ⟨rfl, me_nv1 ⟨by decide, by decide⟩ (by decide) (by decide), trivial⟩
  · exact me_abs1 (m := 29) (M := (2, 5, sb_29)) (as := [.inr (.inr 1), .inl 5]) (z := 114) xo_chr_1_5 rfl rfl (by decide) hS ⟨rfl, me_nv1 ⟨by decide, by decide⟩ (by decide) (by decide), trivial⟩
theorem hs20_1 (hS : ab_Sh sx_sk h) (f0 : 0 ≤ zf) (f1 : zf ≤ 300) (t0 : 0 ≤ zt) (t1 : zt ≤ 300) : ∀ (N : Nat) (zm zk : Int), 6 - zk < N → 0 ≤ zk → zk ≤ 6 → (zm = 0 ∨ zm = 1) → (zm = 1 → zt - zf = 6 ∧ ∀ j : Nat, (j : Int) < zk → cx_at h (zf + j) = ws_1.getD j 0) → (zm = 0 → ¬ (zt - zf = 6 ∧ wd_m h zf ws_1)) → me_E (d + 6) 26 20 [some (.inr (.inr 52)), some (.inr (.inr 1)), some (.inl zf), some (.inl zt), some (.inl zm), some (.inl zk)] [] h (hs_Q h zf zt ws_1) := by
  intro N
  induction N with
  | zero => intro zm zk hN k0 k1; exfalso; omega
  | succ N ih =>
    intro zm zk hN k0 k1 om hA hB
    have of : mi_in zf := ⟨by omega, by omega⟩
    have ot : mi_in zt := ⟨by omega, by omega⟩
    have omm : mi_in zm := ⟨by omega, by omega⟩
    have ok : mi_in zk := ⟨by omega, by omega⟩
    refine mt_h1C hS of ot omm ok ?_ ?_
    · intro c
      refine ⟨om, fun h1 g1 g2 => ⟨me_nil g2, zm, rfl, om, fun x => by omega, fun x => absurd x (hB c)⟩⟩
    · intro c h1 g1 g2
      have e := me_nil g2
      subst e
      refine ⟨_, me_len_1 (d := d) hS, fun w h2 ow hq => ?_⟩
      obtain ⟨rfl, rfl⟩ := hq
      obtain ⟨a1, a2⟩ := hA (by omega)
      refine mt_h1D (zl := 6) (zy := zk) hS of ot omm ok ⟨by decide, by decide⟩ ok ?_ ?_
      · intro c2
        refine ⟨om, fun h3 g1 g2 => ⟨me_nil g2, zm, rfl, om, fun _ => ⟨a1, fun j hj => a2 j (by have : j < 6 := hj; omega)⟩, fun _ => by omega⟩⟩
      · intro c2 h3 g1 g2
        have e := me_nil g2
        subst e
        refine ⟨_, me_chr_1 (d := d) hS k0 c2, fun w h4 ow hq => ?_⟩
        obtain ⟨rfl, rfl⟩ := hq
        have bc : 0 ≤ ws_1.getD zk.toNat 0 ∧ ws_1.getD zk.toNat 0 ≤ 200 := by
          rcases (show zk = 0 ∨ zk = 1 ∨ zk = 2 ∨ zk = 3 ∨ zk = 4 ∨ zk = 5 by omega) with rfl | rfl | rfl | rfl | rfl | rfl <;> decide
        refine mt_h1E (zc := ws_1.getD zk.toNat 0) hS of ot omm ok ⟨by omega, by omega⟩ ⟨⟨by omega, by omega⟩, fun h5 g1 g2 => ?_⟩
        have e := me_nil g2
        subst e
        refine ⟨_, me_cat (d := d + 5) hS ⟨by omega, by omega⟩, fun w h6 ow hq => ?_⟩
        obtain ⟨rfl, rfl⟩ := hq
        have bx := cx_in hS (zf + zk)
        refine mt_h1F (zz := cx_at h6 (zf + zk)) (zc := ws_1.getD zk.toNat 0) hS of ot omm ok ⟨by omega, by omega⟩ ⟨by omega, by omega⟩ ?_ ?_
        · intro c3
          refine ⟨⟨by omega, by omega⟩, fun h7 g1 g2 => ?_⟩
          have e := me_nil g2
          subst e
          refine ih 0 (zk + 1) (by omega) (by omega) (by omega) (Or.inl rfl) (fun x => absurd x (by decide)) (fun _ x => ?_)
          have y := x.2 zk.toNat (by show zk.toNat < 6; omega)
          rw [show ((zk.toNat : Nat) : Int) = zk by omega] at y
          exact c3 y.symm
        · intro c3
          refine ⟨⟨by omega, by omega⟩, fun h7 g1 g2 => ?_⟩
          have e := me_nil g2
          subst e
          refine ih 1 (zk + 1) (by omega) (by omega) (by omega) (Or.inr rfl) (fun _ => ⟨a1, fun j hj => ?_⟩) (fun x => absurd x (by decide))
          by_cases ej : (j : Int) = zk
          · have ej2 : j = zk.toNat := by omega
            rw [ej, ej2]
            exact c3.symm
          · exact a2 j (by omega)
theorem me_has_1 (hS : ab_Sh sx_sk h) (f0 : 0 ≤ zf) (f1 : zf ≤ 300) (t0 : 0 ≤ zt) (t1 : zt ≤ 300) : me_E (d + 6) 26 0 [some (.inr (.inr 52)), some (.inr (.inr 1)), some (.inl zf), some (.inl zt), none, none] [] h (hs_Q h zf zt ws_1) := by
  have of : mi_in zf := ⟨by omega, by omega⟩
  have ot : mi_in zt := ⟨by omega, by omega⟩
  refine mt_h1A hS of ot ⟨⟨by omega, by omega⟩, fun h1 g1 g2 => ?_⟩
  have e := me_nil g2
  subst e
  refine ⟨_, me_len_1 (d := d) hS, fun w h2 ow hq => ?_⟩
  obtain ⟨rfl, rfl⟩ := hq
  refine mt_h1B (zl := 6) (zs := zt - zf) hS of ot ⟨by decide, by decide⟩ ⟨by omega, by omega⟩ ?_ ?_
  · intro c h3 g1 g2
    have e := me_nil g2
    subst e
    exact hs20_1 hS f0 f1 t0 t1 10 0 0 (by decide) (by decide) (by decide) (Or.inl rfl) (fun x => absurd x (by decide)) (fun _ x => c x.1)
  · intro c h3 g1 g2
    have e := me_nil g2
    subst e
    exact hs20_1 hS f0 f1 t0 t1 10 1 0 (by decide) (by decide) (by decide) (Or.inr rfl) (fun _ => ⟨c, fun j hj => by omega⟩) (fun x => absurd x (by decide))
end HS1
def ws_2 : List Int := [110, 97, 109, 101]
def xc_len_2 : ab_C := (27, [(3, 2, 0, [])], [], [((1, 4, 4, []), [])], [], 5)
theorem xo_len_2 : ab_Ok sc_P sx_sk xc_len_2 := ab_good_ok (env := []) (heads := []) (fuel := 40) (by decide +kernel) (fun _ h => absurd h List.not_mem_nil)
def xc_chr_2_0 : ab_C := (29, [(3, 2, 0, []), (1, 0, 0, [])], [], [((1, 110, 110, []), [])], [], 5)
theorem xo_chr_2_0 : ab_Ok sc_P sx_sk xc_chr_2_0 := ab_good_ok (env := []) (heads := []) (fuel := 60) (by decide +kernel) (fun _ h => absurd h List.not_mem_nil)
def xc_chr_2_1 : ab_C := (29, [(3, 2, 0, []), (1, 1, 1, [])], [], [((1, 97, 97, []), [])], [], 5)
theorem xo_chr_2_1 : ab_Ok sc_P sx_sk xc_chr_2_1 := ab_good_ok (env := []) (heads := []) (fuel := 60) (by decide +kernel) (fun _ h => absurd h List.not_mem_nil)
def xc_chr_2_2 : ab_C := (29, [(3, 2, 0, []), (1, 2, 2, [])], [], [((1, 109, 109, []), [])], [], 5)
theorem xo_chr_2_2 : ab_Ok sc_P sx_sk xc_chr_2_2 := ab_good_ok (env := []) (heads := []) (fuel := 60) (by decide +kernel) (fun _ h => absurd h List.not_mem_nil)
def xc_chr_2_3 : ab_C := (29, [(3, 2, 0, []), (1, 3, 3, [])], [], [((1, 101, 101, []), [])], [], 5)
theorem xo_chr_2_3 : ab_Ok sc_P sx_sk xc_chr_2_3 := ab_good_ok (env := []) (heads := []) (fuel := 60) (by decide +kernel) (fun _ h => absurd h List.not_mem_nil)
section HS2
variable {d : Nat} {h : sm_H} {zf zt : Int}
theorem me_len_2 (hS : ab_Sh sx_sk h) : me_E (d + 5) 27 0 [some (.inr (.inr 2))] [] h (fun w h' => h' = h ∧ w = some (.inl 4)) := me_abs1 (m := 27) (M := (1, 1, sb_27)) (as := [.inr (.inr 2)]) xo_len_2 rfl rfl (by decide) hS ⟨rfl, trivial⟩
theorem me_chr_2 {zk : Int} (hS : ab_Sh sx_sk h) (k0 : 0 ≤ zk) (k1 : zk < 4) : me_E (d + 5) 29 0 [some (.inr (.inr 2)), some (.inl zk)] [] h (fun w h' => h' = h ∧ w = some (.inl (ws_2.getD zk.toNat 0))) := by
  rcases (show zk = 0 ∨ zk = 1 ∨ zk = 2 ∨ zk = 3 by omega) with rfl | rfl | rfl | rfl
  · exact me_abs1 (m := 29) (M := (2, 5, sb_29)) (as := [.inr (.inr 2), .inl 0]) (z := 110) xo_chr_2_0 rfl rfl (by decide) hS ⟨rfl, me_nv1 ⟨by decide, by decide⟩ (by decide) (by decide), trivial⟩
  · exact me_abs1 (m := 29) (M := (2, 5, sb_29)) (as := [.inr (.inr 2), .inl 1]) (z := 97) xo_chr_2_1 rfl rfl (by decide) hS ⟨rfl, me_nv1 ⟨by decide, by decide⟩ (by decide) (by decide), trivial⟩
  · exact me_abs1 (m := 29) (M := (2, 5, sb_29)) (as := [.inr (.inr 2), .inl 2]) (z := 109) xo_chr_2_2 rfl rfl (by decide) hS ⟨rfl, me_nv1 ⟨by decide, by decide⟩ (by decide) (by decide), trivial⟩
  · exact me_abs1 (m := 29) (M := (2, 5, sb_29)) (as := [.inr (.inr 2), .inl 3]) (z := 101) xo_chr_2_3 rfl rfl (by decide) hS ⟨rfl, me_nv1 ⟨by decide, by decide⟩ (by decide) (by decide), trivial⟩
theorem hs20_2 (hS : ab_Sh sx_sk h) (f0 : 0 ≤ zf) (f1 : zf ≤ 300) (t0 : 0 ≤ zt) (t1 : zt ≤ 300) : ∀ (N : Nat) (zm zk : Int), 4 - zk < N → 0 ≤ zk → zk ≤ 4 → (zm = 0 ∨ zm = 1) → (zm = 1 → zt - zf = 4 ∧ ∀ j : Nat, (j : Int) < zk → cx_at h (zf + j) = ws_2.getD j 0) → (zm = 0 → ¬ (zt - zf = 4 ∧ wd_m h zf ws_2)) → me_E (d + 6) 26 20 [some (.inr (.inr 52)), some (.inr (.inr 2)), some (.inl zf), some (.inl zt), some (.inl zm), some (.inl zk)] [] h (hs_Q h zf zt ws_2) := by
  intro N
  induction N with
  | zero => intro zm zk hN k0 k1; exfalso; omega
  | succ N ih =>
    intro zm zk hN k0 k1 om hA hB
    have of : mi_in zf := ⟨by omega, by omega⟩
    have ot : mi_in zt := ⟨by omega, by omega⟩
    have omm : mi_in zm := ⟨by omega, by omega⟩
    have ok : mi_in zk := ⟨by omega, by omega⟩
    refine mt_h2C hS of ot omm ok ?_ ?_
    · intro c
      refine ⟨om, fun h1 g1 g2 => ⟨me_nil g2, zm, rfl, om, fun x => by omega, fun x => absurd x (hB c)⟩⟩
    · intro c h1 g1 g2
      have e := me_nil g2
      subst e
      refine ⟨_, me_len_2 (d := d) hS, fun w h2 ow hq => ?_⟩
      obtain ⟨rfl, rfl⟩ := hq
      obtain ⟨a1, a2⟩ := hA (by omega)
      refine mt_h2D (zl := 4) (zy := zk) hS of ot omm ok ⟨by decide, by decide⟩ ok ?_ ?_
      · intro c2
        refine ⟨om, fun h3 g1 g2 => ⟨me_nil g2, zm, rfl, om, fun _ => ⟨a1, fun j hj => a2 j (by have : j < 4 := hj; omega)⟩, fun _ => by omega⟩⟩
      · intro c2 h3 g1 g2
        have e := me_nil g2
        subst e
        refine ⟨_, me_chr_2 (d := d) hS k0 c2, fun w h4 ow hq => ?_⟩
        obtain ⟨rfl, rfl⟩ := hq
        have bc : 0 ≤ ws_2.getD zk.toNat 0 ∧ ws_2.getD zk.toNat 0 ≤ 200 := by
          rcases (show zk = 0 ∨ zk = 1 ∨ zk = 2 ∨ zk = 3 by omega) with rfl | rfl | rfl | rfl <;> decide
        refine mt_h2E (zc := ws_2.getD zk.toNat 0) hS of ot omm ok ⟨by omega, by omega⟩ ⟨⟨by omega, by omega⟩, fun h5 g1 g2 => ?_⟩
        have e := me_nil g2
        subst e
        refine ⟨_, me_cat (d := d + 5) hS ⟨by omega, by omega⟩, fun w h6 ow hq => ?_⟩
        obtain ⟨rfl, rfl⟩ := hq
        have bx := cx_in hS (zf + zk)
        refine mt_h2F (zz := cx_at h6 (zf + zk)) (zc := ws_2.getD zk.toNat 0) hS of ot omm ok ⟨by omega, by omega⟩ ⟨by omega, by omega⟩ ?_ ?_
        · intro c3
          refine ⟨⟨by omega, by omega⟩, fun h7 g1 g2 => ?_⟩
          have e := me_nil g2
          subst e
          refine ih 0 (zk + 1) (by omega) (by omega) (by omega) (Or.inl rfl) (fun x => absurd x (by decide)) (fun _ x => ?_)
          have y := x.2 zk.toNat (by show zk.toNat < 4; omega)
          rw [show ((zk.toNat : Nat) : Int) = zk by omega] at y
          exact c3 y.symm
        · intro c3
          refine ⟨⟨by omega, by omega⟩, fun h7 g1 g2 => ?_⟩
          have e := me_nil g2
          subst e
          refine ih 1 (zk + 1) (by omega) (by omega) (by omega) (Or.inr rfl) (fun _ => ⟨a1, fun j hj => ?_⟩) (fun x => absurd x (by decide))
          by_cases ej : (j : Int) = zk
          · have ej2 : j = zk.toNat := by omega
            rw [ej, ej2]
            exact c3.symm
          · exact a2 j (by omega)
theorem me_has_2 (hS : ab_Sh sx_sk h) (f0 : 0 ≤ zf) (f1 : zf ≤ 300) (t0 : 0 ≤ zt) (t1 : zt ≤ 300) : me_E (d + 6) 26 0 [some (.inr (.inr 52)), some (.inr (.inr 2)), some (.inl zf), some (.inl zt), none, none] [] h (hs_Q h zf zt ws_2) := by
  have of : mi_in zf := ⟨by omega, by omega⟩
  have ot : mi_in zt := ⟨by omega, by omega⟩
  refine mt_h2A hS of ot ⟨⟨by omega, by omega⟩, fun h1 g1 g2 => ?_⟩
  have e := me_nil g2
  subst e
  refine ⟨_, me_len_2 (d := d) hS, fun w h2 ow hq => ?_⟩
  obtain ⟨rfl, rfl⟩ := hq
  refine mt_h2B (zl := 4) (zs := zt - zf) hS of ot ⟨by decide, by decide⟩ ⟨by omega, by omega⟩ ?_ ?_
  · intro c h3 g1 g2
    have e := me_nil g2
    subst e
    exact hs20_2 hS f0 f1 t0 t1 10 0 0 (by decide) (by decide) (by decide) (Or.inl rfl) (fun x => absurd x (by decide)) (fun _ x => c x.1)
  · intro c h3 g1 g2
    have e := me_nil g2
    subst e
    exact hs20_2 hS f0 f1 t0 t1 10 1 0 (by decide) (by decide) (by decide) (Or.inr rfl) (fun _ => ⟨c, fun j hj => by omega⟩) (fun x => absurd x (by decide))
end HS2
def ws_3 : List Int := [101, 109, 112, 116, 121]
def xc_len_3 : ab_C := (27, [(3, 3, 0, [])], [], [((1, 5, 5, []), [])], [], 5)
theorem xo_len_3 : ab_Ok sc_P sx_sk xc_len_3 := ab_good_ok (env := []) (heads := []) (fuel := 40) (by decide +kernel) (fun _ h => absurd h List.not_mem_nil)
def xc_chr_3_0 : ab_C := (29, [(3, 3, 0, []), (1, 0, 0, [])], [], [((1, 101, 101, []), [])], [], 5)
theorem xo_chr_3_0 : ab_Ok sc_P sx_sk xc_chr_3_0 := ab_good_ok (env := []) (heads := []) (fuel := 60) (by decide +kernel) (fun _ h => absurd h List.not_mem_nil)
def xc_chr_3_1 : ab_C := (29, [(3, 3, 0, []), (1, 1, 1, [])], [], [((1, 109, 109, []), [])], [], 5)
theorem xo_chr_3_1 : ab_Ok sc_P sx_sk xc_chr_3_1 := ab_good_ok (env := []) (heads := []) (fuel := 60) (by decide +kernel) (fun _ h => absurd h List.not_mem_nil)
def xc_chr_3_2 : ab_C := (29, [(3, 3, 0, []), (1, 2, 2, [])], [], [((1, 112, 112, []), [])], [], 5)
theorem xo_chr_3_2 : ab_Ok sc_P sx_sk xc_chr_3_2 := ab_good_ok (env := []) (heads := []) (fuel := 60) (by decide +kernel) (fun _ h => absurd h List.not_mem_nil)
def xc_chr_3_3 : ab_C := (29, [(3, 3, 0, []), (1, 3, 3, [])], [], [((1, 116, 116, []), [])], [], 5)
theorem xo_chr_3_3 : ab_Ok sc_P sx_sk xc_chr_3_3 := ab_good_ok (env := []) (heads := []) (fuel := 60) (by decide +kernel) (fun _ h => absurd h List.not_mem_nil)
def xc_chr_3_4 : ab_C := (29, [(3, 3, 0, []), (1, 4, 4, [])], [], [((1, 121, 121, []), [])], [], 5)
theorem xo_chr_3_4 : ab_Ok sc_P sx_sk xc_chr_3_4 := ab_good_ok (env := []) (heads := []) (fuel := 60) (by decide +kernel) (fun _ h => absurd h List.not_mem_nil)
section HS3
variable {d : Nat} {h : sm_H} {zf zt : Int}
theorem me_len_3 (hS : ab_Sh sx_sk h) : me_E (d + 5) 27 0 [some (.inr (.inr 3))] [] h (fun w h' => h' = h ∧ w = some (.inl 5)) := me_abs1 (m := 27) (M := (1, 1, sb_27)) (as := [.inr (.inr 3)]) xo_len_3 rfl rfl (by decide) hS ⟨rfl, trivial⟩
theorem me_chr_3 {zk : Int} (hS : ab_Sh sx_sk h) (k0 : 0 ≤ zk) (k1 : zk < 5) : me_E (d + 5) 29 0 [some (.inr (.inr 3)), some (.inl zk)] [] h (fun w h' => h' = h ∧ w = some (.inl (ws_3.getD zk.toNat 0))) := by
  rcases (show zk = 0 ∨ zk = 1 ∨ zk = 2 ∨ zk = 3 ∨ zk = 4 by omega) with rfl | rfl | rfl | rfl | rfl
  · exact me_abs1 (m := 29) (M := (2, 5, sb_29)) (as := [.inr (.inr 3), .inl 0]) (z := 101) xo_chr_3_0 rfl rfl (by decide) hS ⟨rfl, me_nv1 ⟨by decide, by decide⟩ (by decide) (by decide), trivial⟩
  · exact me_abs1 (m := 29) (M := (2, 5, sb_29)) (as := [.inr (.inr 3), .inl 1]) (z := 109) xo_chr_3_1 rfl rfl (by decide) hS ⟨rfl, me_nv1 ⟨by decide, by decide⟩ (by decide) (by decide), trivial⟩
  · exact me_abs1 (m := 29) (M := (2, 5, sb_29)) (as := [.inr (.inr 3), .inl 2]) (z := 112) xo_chr_3_2 rfl rfl (by decide) hS ⟨rfl, me_nv1 ⟨by decide, by decide⟩ (by decide) (by decide), trivial⟩
  · exact me_abs1 (m := 29) (M := (2, 5, sb_29)) (as := [.inr (.inr 3), .inl 3]) (z := 116) xo_chr_3_3 rfl rfl (by decide) hS ⟨rfl, me_nv1 ⟨by decide, by decide⟩ (by decide) (by decide), trivial⟩
  · exact me_abs1 (m := 29) (M := (2, 5, sb_29)) (as := [.inr (.inr 3), .inl 4]) (z := 121) xo_chr_3_4 rfl rfl (by decide) hS ⟨rfl, me_nv1 ⟨by decide, by decide⟩ (by decide) (by decide), trivial⟩
theorem hs20_3 (hS : ab_Sh sx_sk h) (f0 : 0 ≤ zf) (f1 : zf ≤ 300) (t0 : 0 ≤ zt) (t1 : zt ≤ 300) : ∀ (N : Nat) (zm zk : Int), 5 - zk < N → 0 ≤ zk → zk ≤ 5 → (zm = 0 ∨ zm = 1) → (zm = 1 → zt - zf = 5 ∧ ∀ j : Nat, (j : Int) < zk → cx_at h (zf + j) = ws_3.getD j 0) → (zm = 0 → ¬ (zt - zf = 5 ∧ wd_m h zf ws_3)) → me_E (d + 6) 26 20 [some (.inr (.inr 52)), some (.inr (.inr 3)), some (.inl zf), some (.inl zt), some (.inl zm), some (.inl zk)] [] h (hs_Q h zf zt ws_3) := by
  intro N
  induction N with
  | zero => intro zm zk hN k0 k1; exfalso; omega
  | succ N ih =>
    intro zm zk hN k0 k1 om hA hB
    have of : mi_in zf := ⟨by omega, by omega⟩
    have ot : mi_in zt := ⟨by omega, by omega⟩
    have omm : mi_in zm := ⟨by omega, by omega⟩
    have ok : mi_in zk := ⟨by omega, by omega⟩
    refine mt_h3C hS of ot omm ok ?_ ?_
    · intro c
      refine ⟨om, fun h1 g1 g2 => ⟨me_nil g2, zm, rfl, om, fun x => by omega, fun x => absurd x (hB c)⟩⟩
    · intro c h1 g1 g2
      have e := me_nil g2
      subst e
      refine ⟨_, me_len_3 (d := d) hS, fun w h2 ow hq => ?_⟩
      obtain ⟨rfl, rfl⟩ := hq
      obtain ⟨a1, a2⟩ := hA (by omega)
      refine mt_h3D (zl := 5) (zy := zk) hS of ot omm ok ⟨by decide, by decide⟩ ok ?_ ?_
      · intro c2
        refine ⟨om, fun h3 g1 g2 => ⟨me_nil g2, zm, rfl, om, fun _ => ⟨a1, fun j hj => a2 j (by have : j < 5 := hj; omega)⟩, fun _ => by omega⟩⟩
      · intro c2 h3 g1 g2
        have e := me_nil g2
        subst e
        refine ⟨_, me_chr_3 (d := d) hS k0 c2, fun w h4 ow hq => ?_⟩
        obtain ⟨rfl, rfl⟩ := hq
        have bc : 0 ≤ ws_3.getD zk.toNat 0 ∧ ws_3.getD zk.toNat 0 ≤ 200 := by
          rcases (show zk = 0 ∨ zk = 1 ∨ zk = 2 ∨ zk = 3 ∨ zk = 4 by omega) with rfl | rfl | rfl | rfl | rfl <;> decide
        refine mt_h3E (zc := ws_3.getD zk.toNat 0) hS of ot omm ok ⟨by omega, by omega⟩ ⟨⟨by omega, by omega⟩, fun h5 g1 g2 => ?_⟩
        have e := me_nil g2
        subst e
        refine ⟨_, me_cat (d := d + 5) hS ⟨by omega, by omega⟩, fun w h6 ow hq => ?_⟩
        obtain ⟨rfl, rfl⟩ := hq
        have bx := cx_in hS (zf + zk)
        refine mt_h3F (zz := cx_at h6 (zf + zk)) (zc := ws_3.getD zk.toNat 0) hS of ot omm ok ⟨by omega, by omega⟩ ⟨by omega, by omega⟩ ?_ ?_
        · intro c3
          refine ⟨⟨by omega, by omega⟩, fun h7 g1 g2 => ?_⟩
          have e := me_nil g2
          subst e
          refine ih 0 (zk + 1) (by omega) (by omega) (by omega) (Or.inl rfl) (fun x => absurd x (by decide)) (fun _ x => ?_)
          have y := x.2 zk.toNat (by show zk.toNat < 5; omega)
          rw [show ((zk.toNat : Nat) : Int) = zk by omega] at y
          exact c3 y.symm
        · intro c3
          refine ⟨⟨by omega, by omega⟩, fun h7 g1 g2 => ?_⟩
          have e := me_nil g2
          subst e
          refine ih 1 (zk + 1) (by omega) (by omega) (by omega) (Or.inr rfl) (fun _ => ⟨a1, fun j hj => ?_⟩) (fun x => absurd x (by decide))
          by_cases ej : (j : Int) = zk
          · have ej2 : j = zk.toNat := by omega
            rw [ej, ej2]
            exact c3.symm
          · exact a2 j (by omega)
theorem me_has_3 (hS : ab_Sh sx_sk h) (f0 : 0 ≤ zf) (f1 : zf ≤ 300) (t0 : 0 ≤ zt) (t1 : zt ≤ 300) : me_E (d + 6) 26 0 [some (.inr (.inr 52)), some (.inr (.inr 3)), some (.inl zf), some (.inl zt), none, none] [] h (hs_Q h zf zt ws_3) := by
  have of : mi_in zf := ⟨by omega, by omega⟩
  have ot : mi_in zt := ⟨by omega, by omega⟩
  refine mt_h3A hS of ot ⟨⟨by omega, by omega⟩, fun h1 g1 g2 => ?_⟩
  have e := me_nil g2
  subst e
  refine ⟨_, me_len_3 (d := d) hS, fun w h2 ow hq => ?_⟩
  obtain ⟨rfl, rfl⟩ := hq
  refine mt_h3B (zl := 5) (zs := zt - zf) hS of ot ⟨by decide, by decide⟩ ⟨by omega, by omega⟩ ?_ ?_
  · intro c h3 g1 g2
    have e := me_nil g2
    subst e
    exact hs20_3 hS f0 f1 t0 t1 10 0 0 (by decide) (by decide) (by decide) (Or.inl rfl) (fun x => absurd x (by decide)) (fun _ x => c x.1)
  · intro c h3 g1 g2
    have e := me_nil g2
    subst e
    exact hs20_3 hS f0 f1 t0 t1 10 1 0 (by decide) (by decide) (by decide) (Or.inr rfl) (fun _ => ⟨c, fun j hj => by omega⟩) (fun x => absurd x (by decide))
end HS3
def ws_4 : List Int := [98, 108, 97, 110, 107]
def xc_len_4 : ab_C := (27, [(3, 4, 0, [])], [], [((1, 5, 5, []), [])], [], 5)
theorem xo_len_4 : ab_Ok sc_P sx_sk xc_len_4 := ab_good_ok (env := []) (heads := []) (fuel := 40) (by decide +kernel) (fun _ h => absurd h List.not_mem_nil)
def xc_chr_4_0 : ab_C := (29, [(3, 4, 0, []), (1, 0, 0, [])], [], [((1, 98, 98, []), [])], [], 5)
theorem xo_chr_4_0 : ab_Ok sc_P sx_sk xc_chr_4_0 := ab_good_ok (env := []) (heads := []) (fuel := 60) (by decide +kernel) (fun _ h => absurd h List.not_mem_nil)
def xc_chr_4_1 : ab_C := (29, [(3, 4, 0, []), (1, 1, 1, [])], [], [((1, 108, 108, []), [])], [], 5)
theorem xo_chr_4_1 : ab_Ok sc_P sx_sk xc_chr_4_1 := ab_good_ok (env := []) (heads := []) (fuel := 60) (by decide +kernel) (fun _ h => absurd h List.not_mem_nil)
def xc_chr_4_2 : ab_C := (29, [(3, 4, 0, []), (1, 2, 2, [])], [], [((1, 97, 97, []), [])], [], 5)
theorem xo_chr_4_2 : ab_Ok sc_P sx_sk xc_chr_4_2 := ab_good_ok (env := []) (heads := []) (fuel := 60) (by decide +kernel) (fun _ h => absurd h List.not_mem_nil)
def xc_chr_4_3 : ab_C := (29, [(3, 4, 0, []), (1, 3, 3, [])], [], [((1, 110, 110, []), [])], [], 5)
theorem xo_chr_4_3 : ab_Ok sc_P sx_sk xc_chr_4_3 := ab_good_ok (env := []) (heads := []) (fuel := 60) (by decide +kernel) (fun _ h => absurd h List.not_mem_nil)
def xc_chr_4_4 : ab_C := (29, [(3, 4, 0, []), (1, 4, 4, [])], [], [((1, 107, 107, []), [])], [], 5)
theorem xo_chr_4_4 : ab_Ok sc_P sx_sk xc_chr_4_4 := ab_good_ok (env := []) (heads := []) (fuel := 60) (by decide +kernel) (fun _ h => absurd h List.not_mem_nil)
section HS4
variable {d : Nat} {h : sm_H} {zf zt : Int}
theorem me_len_4 (hS : ab_Sh sx_sk h) : me_E (d + 5) 27 0 [some (.inr (.inr 4))] [] h (fun w h' => h' = h ∧ w = some (.inl 5)) := me_abs1 (m := 27) (M := (1, 1, sb_27)) (as := [.inr (.inr 4)]) xo_len_4 rfl rfl (by decide) hS ⟨rfl, trivial⟩
theorem me_chr_4 {zk : Int} (hS : ab_Sh sx_sk h) (k0 : 0 ≤ zk) (k1 : zk < 5) : me_E (d + 5) 29 0 [some (.inr (.inr 4)), some (.inl zk)] [] h (fun w h' => h' = h ∧ w = some (.inl (ws_4.getD zk.toNat 0))) := by
  rcases (show zk = 0 ∨ zk = 1 ∨ zk = 2 ∨ zk = 3 ∨ zk = 4 by omega) with rfl | rfl | rfl | rfl | rfl
  · exact me_abs1 (m := 29) (M := (2, 5, sb_29)) (as := [.inr (.inr 4), .inl 0]) (z := 98) xo_chr_4_0 rfl rfl (by decide) hS ⟨rfl, me_nv1 ⟨by decide, by decide⟩ (by decide) (by decide), trivial⟩
  · exact me_abs1 (m := 29) (M := (2, 5, sb_29)) (as := [.inr (.inr 4), .inl 1]) (z := 108) xo_chr_4_1 rfl rfl (by decide) hS ⟨rfl, me_nv1 ⟨by decide, by decide⟩ (by decide) (by decide), trivial⟩
  · exact me_abs1 (m := 29) (M := (2, 5, sb_29)) (as := [.inr (.inr 4), .inl 2]) (z := 97) xo_chr_4_2 rfl rfl (by decide) hS ⟨rfl, me_nv1 ⟨by decide, by decide⟩ (by decide) (by decide), trivial⟩
  · exact me_abs1 (m := 29) (M := (2, 5, sb_29)) (as := [.inr (.inr 4), .inl 3]) (z := 110) xo_chr_4_3 rfl rfl (by decide) hS ⟨rfl, me_nv1 ⟨by decide, by decide⟩ (by decide) (by decide), trivial⟩
  · exact me_abs1 (m := 29) (M := (2, 5, sb_29)) (as := [.inr (.inr 4), .inl 4]) (z := 107) xo_chr_4_4 rfl rfl (by decide) hS ⟨rfl, me_nv1 ⟨by decide, by decide⟩ (by decide) (by decide), trivial⟩
theorem hs20_4 (hS : ab_Sh sx_sk h) (f0 : 0 ≤ zf) (f1 : zf ≤ 300) (t0 : 0 ≤ zt) (t1 : zt ≤ 300) : ∀ (N : Nat) (zm zk : Int), 5 - zk < N → 0 ≤ zk → zk ≤ 5 → (zm = 0 ∨ zm = 1) → (zm = 1 → zt - zf = 5 ∧ ∀ j : Nat, (j : Int) < zk → cx_at h (zf + j) = ws_4.getD j 0) → (zm = 0 → ¬ (zt - zf = 5 ∧ wd_m h zf ws_4)) → me_E (d + 6) 26 20 [some (.inr (.inr 52)), some (.inr (.inr 4)), some (.inl zf), some (.inl zt), some (.inl zm), some (.inl zk)] [] h (hs_Q h zf zt ws_4) := by
  intro N
  induction N with
  | zero => intro zm zk hN k0 k1; exfalso; omega
  | succ N ih =>
    intro zm zk hN k0 k1 om hA hB
    have of : mi_in zf := ⟨by omega, by omega⟩
    have ot : mi_in zt := ⟨by omega, by omega⟩
    have omm : mi_in zm := ⟨by omega, by omega⟩
    have ok : mi_in zk := ⟨by omega, by omega⟩
    refine mt_h4C hS of ot omm ok ?_ ?_
    · intro c
      refine ⟨om, fun h1 g1 g2 => ⟨me_nil g2, zm, rfl, om, fun x => by omega, fun x => absurd x (hB c)⟩⟩
    · intro c h1 g1 g2
      have e := me_nil g2
      subst e
      refine ⟨_, me_len_4 (d := d) hS, fun w h2 ow hq => ?_⟩
      obtain ⟨rfl, rfl⟩ := hq
      obtain ⟨a1, a2⟩ := hA (by omega)
      refine mt_h4D (zl := 5) (zy := zk) hS of ot omm ok ⟨by decide, by decide⟩ ok ?_ ?_
      · intro c2
        refine ⟨om, fun h3 g1 g2 => ⟨me_nil g2, zm, rfl, om, fun _ => ⟨a1, fun j hj => a2 j (by have : j < 5 := hj; omega)⟩, fun _ => by omega⟩⟩
      · intro c2 h3 g1 g2
        have e := me_nil g2
        subst e
        refine ⟨_, me_chr_4 (d := d) hS k0 c2, fun w h4 ow hq => ?_⟩
        obtain ⟨rfl, rfl⟩ := hq
        have bc : 0 ≤ ws_4.getD zk.toNat 0 ∧ ws_4.getD zk.toNat 0 ≤ 200 := by
          rcases (show zk = 0 ∨ zk = 1 ∨ zk = 2 ∨ zk = 3 ∨ zk = 4 by omega) with rfl | rfl | rfl | rfl | rfl <;> decide
        refine mt_h4E (zc := ws_4.getD zk.toNat 0) hS of ot omm ok ⟨by omega, by omega⟩ ⟨⟨by omega, by omega⟩, fun h5 g1 g2 => ?_⟩
        have e := me_nil g2
        subst e
        refine ⟨_, me_cat (d := d + 5) hS ⟨by omega, by omega⟩, fun w h6 ow hq => ?_⟩
        obtain ⟨rfl, rfl⟩ := hq
        have bx := cx_in hS (zf + zk)
        refine mt_h4F (zz := cx_at h6 (zf + zk)) (zc := ws_4.getD zk.toNat 0) hS of ot omm ok ⟨by omega, by omega⟩ ⟨by omega, by omega⟩ ?_ ?_
        · intro c3
          refine ⟨⟨by omega, by omega⟩, fun h7 g1 g2 => ?_⟩
          have e := me_nil g2
          subst e
          refine ih 0 (zk + 1) (by omega) (by omega) (by omega) (Or.inl rfl) (fun x => absurd x (by decide)) (fun _ x => ?_)
          have y := x.2 zk.toNat (by show zk.toNat < 5; omega)
          rw [show ((zk.toNat : Nat) : Int) = zk by omega] at y
          exact c3 y.symm
        · intro c3
          refine ⟨⟨by omega, by omega⟩, fun h7 g1 g2 => ?_⟩
          have e := me_nil g2
          subst e
          refine ih 1 (zk + 1) (by omega) (by omega) (by omega) (Or.inr rfl) (fun _ => ⟨a1, fun j hj => ?_⟩) (fun x => absurd x (by decide))
          by_cases ej : (j : Int) = zk
          · have ej2 : j = zk.toNat := by omega
            rw [ej, ej2]
            exact c3.symm
          · exact a2 j (by omega)
theorem me_has_4 (hS : ab_Sh sx_sk h) (f0 : 0 ≤ zf) (f1 : zf ≤ 300) (t0 : 0 ≤ zt) (t1 : zt ≤ 300) : me_E (d + 6) 26 0 [some (.inr (.inr 52)), some (.inr (.inr 4)), some (.inl zf), some (.inl zt), none, none] [] h (hs_Q h zf zt ws_4) := by
  have of : mi_in zf := ⟨by omega, by omega⟩
  have ot : mi_in zt := ⟨by omega, by omega⟩
  refine mt_h4A hS of ot ⟨⟨by omega, by omega⟩, fun h1 g1 g2 => ?_⟩
  have e := me_nil g2
  subst e
  refine ⟨_, me_len_4 (d := d) hS, fun w h2 ow hq => ?_⟩
  obtain ⟨rfl, rfl⟩ := hq
  refine mt_h4B (zl := 5) (zs := zt - zf) hS of ot ⟨by decide, by decide⟩ ⟨by omega, by omega⟩ ?_ ?_
  · intro c h3 g1 g2
    have e := me_nil g2
    subst e
    exact hs20_4 hS f0 f1 t0 t1 10 0 0 (by decide) (by decide) (by decide) (Or.inl rfl) (fun x => absurd x (by decide)) (fun _ x => c x.1)
  · intro c h3 g1 g2
    have e := me_nil g2
    subst e
    exact hs20_4 hS f0 f1 t0 t1 10 1 0 (by decide) (by decide) (by decide) (Or.inr rfl) (fun _ => ⟨c, fun j hj => by omega⟩) (fun x => absurd x (by decide))
end HS4
def ws_5 : List Int := [108, 105, 110, 101]
def xc_len_5 : ab_C := (27, [(3, 5, 0, [])], [], [((1, 4, 4, []), [])], [], 5)
theorem xo_len_5 : ab_Ok sc_P sx_sk xc_len_5 := ab_good_ok (env := []) (heads := []) (fuel := 40) (by decide +kernel) (fun _ h => absurd h List.not_mem_nil)
def xc_chr_5_0 : ab_C := (29, [(3, 5, 0, []), (1, 0, 0, [])], [], [((1, 108, 108, []), [])], [], 5)
theorem xo_chr_5_0 : ab_Ok sc_P sx_sk xc_chr_5_0 := ab_good_ok (env := []) (heads := []) (fuel := 60) (by decide +kernel) (fun _ h => absurd h List.not_mem_nil)
def xc_chr_5_1 : ab_C := (29, [(3, 5, 0, []), (1, 1, 1, [])], [], [((1, 105, 105, []), [])], [], 5)
theorem xo_chr_5_1 : ab_Ok sc_P sx_sk xc_chr_5_1 := ab_good_ok (env := []) (heads := []) (fuel := 60) (by decide +kernel) (fun _ h => absurd h List.not_mem_nil)
def xc_chr_5_2 : ab_C := (29, [(3, 5, 0, []), (1, 2, 2, [])], [], [((1, 110, 110, []), [])], [], 5)
theorem xo_chr_5_2 : ab_Ok sc_P sx_sk xc_chr_5_2 := ab_good_ok (env := []) (heads := []) (fuel := 60) (by decide +kernel) (fun _ h => absurd h List.not_mem_nil)
def xc_chr_5_3 : ab_C := (29, [(3, 5, 0, []), (1, 3, 3, [])], [], [((1, 101, 101, []), [])], [], 5)
theorem xo_chr_5_3 : ab_Ok sc_P sx_sk xc_chr_5_3 := ab_good_ok (env := []) (heads := []) (fuel := 60) (by decide +kernel) (fun _ h => absurd h List.not_mem_nil)
section HS5
variable {d : Nat} {h : sm_H} {zf zt : Int}
theorem me_len_5 (hS : ab_Sh sx_sk h) : me_E (d + 5) 27 0 [some (.inr (.inr 5))] [] h (fun w h' => h' = h ∧ w = some (.inl 4)) := me_abs1 (m := 27) (M := (1, 1, sb_27)) (as := [.inr (.inr 5)]) xo_len_5 rfl rfl (by decide) hS ⟨rfl, trivial⟩
theorem me_chr_5 {zk : Int} (hS : ab_Sh sx_sk h) (k0 : 0 ≤ zk) (k1 : zk < 4) : me_E (d + 5) 29 0 [some (.inr (.inr 5)), some (.inl zk)] [] h (fun w h' => h' = h ∧ w = some (.inl (ws_5.getD zk.toNat 0))) := by
  rcases (show zk = 0 ∨ zk = 1 ∨ zk = 2 ∨ zk = 3 by omega) with rfl | rfl | rfl | rfl
  · exact me_abs1 (m := 29) (M := (2, 5, sb_29)) (as := [.inr (.inr 5), .inl 0]) (z := 108) xo_chr_5_0 rfl rfl (by decide) hS ⟨rfl, me_nv1 ⟨by decide, by decide⟩ (by decide) (by decide), trivial⟩
  · exact me_abs1 (m := 29) (M := (2, 5, sb_29)) (as := [.inr (.inr 5), .inl 1]) (z := 105) xo_chr_5_1 rfl rfl (by decide) hS ⟨rfl, me_nv1 ⟨by decide, by decide⟩ (by decide) (by decide), trivial⟩
  · exact me_abs1 (m := 29) (M := (2, 5, sb_29)) (as := [.inr (.inr 5), .inl 2]) (z := 110) xo_chr_5_2 rfl rfl (by decide) hS ⟨rfl, me_nv1 ⟨by decide, by decide⟩ (by decide) (by decide), trivial⟩
  · exact me_abs1 (m := 29) (M := (2, 5, sb_29)) (as := [.inr (.inr 5), .inl 3]) (z := 101) xo_chr_5_3 rfl rfl (by decide) hS ⟨rfl, me_nv1 ⟨by decide, by decide⟩ (by decide) (by decide), trivial⟩
theorem hs20_5 (hS : ab_Sh sx_sk h) (f0 : 0 ≤ zf) (f1 : zf ≤ 300) (t0 : 0 ≤ zt) (t1 : zt ≤ 300) : ∀ (N : Nat) (zm zk : Int), 4 - zk < N → 0 ≤ zk → zk ≤ 4 → (zm = 0 ∨ zm = 1) → (zm = 1 → zt - zf = 4 ∧ ∀ j : Nat, (j : Int) < zk → cx_at h (zf + j) = ws_5.getD j 0) → (zm = 0 → ¬ (zt - zf = 4 ∧ wd_m h zf ws_5)) → me_E (d + 6) 26 20 [some (.inr (.inr 52)), some (.inr (.inr 5)), some (.inl zf), some (.inl zt), some (.inl zm), some (.inl zk)] [] h (hs_Q h zf zt ws_5) := by
  intro N
  induction N with
  | zero => intro zm zk hN k0 k1; exfalso; omega
  | succ N ih =>
    intro zm zk hN k0 k1 om hA hB
    have of : mi_in zf := ⟨by omega, by omega⟩
    have ot : mi_in zt := ⟨by omega, by omega⟩
    have omm : mi_in zm := ⟨by omega, by omega⟩
    have ok : mi_in zk := ⟨by omega, by omega⟩
    refine mt_h5C hS of ot omm ok ?_ ?_
    · intro c
      refine ⟨om, fun h1 g1 g2 => ⟨me_nil g2, zm, rfl, om, fun x => by omega, fun x => absurd x (hB c)⟩⟩
    · intro c h1 g1 g2
      have e := me_nil g2
      subst e
      refine ⟨_, me_len_5 (d := d) hS, fun w h2 ow hq => ?_⟩
      obtain ⟨rfl, rfl⟩ := hq
      obtain ⟨a1, a2⟩ := hA (by omega)
      refine mt_h5D (zl := 4) (zy := zk) hS of ot omm ok ⟨by decide, by decide⟩ ok ?_ ?_
      · intro c2
        refine ⟨om, fun h3 g1 g2 => ⟨me_nil g2, zm, rfl, om, fun _ => ⟨a1, fun j hj => a2 j (by have : j < 4 := hj; omega)⟩, fun _ => by omega⟩⟩
      · intro c2 h3 g1 g2
        have e := me_nil g2
        subst e
        refine ⟨_, me_chr_5 (d := d) hS k0 c2, fun w h4 ow hq => ?_⟩
        obtain ⟨rfl, rfl⟩ := hq
        have bc : 0 ≤ ws_5.getD zk.toNat 0 ∧ ws_5.getD zk.toNat 0 ≤ 200 := by
          rcases (show zk = 0 ∨ zk = 1 ∨ zk = 2 ∨ zk = 3 by omega) with rfl | rfl | rfl | rfl <;> decide
        refine mt_h5E (zc := ws_5.getD zk.toNat 0) hS of ot omm ok ⟨by omega, by omega⟩ ⟨⟨by omega, by omega⟩, fun h5 g1 g2 => ?_⟩
        have e := me_nil g2
        subst e
        refine ⟨_, me_cat (d := d + 5) hS ⟨by omega, by omega⟩, fun w h6 ow hq => ?_⟩
        obtain ⟨rfl, rfl⟩ := hq
        have bx := cx_in hS (zf + zk)
        refine mt_h5F (zz := cx_at h6 (zf + zk)) (zc := ws_5.getD zk.toNat 0) hS of ot omm ok ⟨by omega, by omega⟩ ⟨by omega, by omega⟩ ?_ ?_
        · intro c3
          refine ⟨⟨by omega, by omega⟩, fun h7 g1 g2 => ?_⟩
          have e := me_nil g2
          subst e
          refine ih 0 (zk + 1) (by omega) (by omega) (by omega) (Or.inl rfl) (fun x => absurd x (by decide)) (fun _ x => ?_)
          have y := x.2 zk.toNat (by show zk.toNat < 4; omega)
          rw [show ((zk.toNat : Nat) : Int) = zk by omega] at y
          exact c3 y.symm
        · intro c3
          refine ⟨⟨by omega, by omega⟩, fun h7 g1 g2 => ?_⟩
          have e := me_nil g2
          subst e
          refine ih 1 (zk + 1) (by omega) (by omega) (by omega) (Or.inr rfl) (fun _ => ⟨a1, fun j hj => ?_⟩) (fun x => absurd x (by decide))
          by_cases ej : (j : Int) = zk
          · have ej2 : j = zk.toNat := by omega
            rw [ej, ej2]
            exact c3.symm
          · exact a2 j (by omega)
theorem me_has_5 (hS : ab_Sh sx_sk h) (f0 : 0 ≤ zf) (f1 : zf ≤ 300) (t0 : 0 ≤ zt) (t1 : zt ≤ 300) : me_E (d + 6) 26 0 [some (.inr (.inr 52)), some (.inr (.inr 5)), some (.inl zf), some (.inl zt), none, none] [] h (hs_Q h zf zt ws_5) := by
  have of : mi_in zf := ⟨by omega, by omega⟩
  have ot : mi_in zt := ⟨by omega, by omega⟩
  refine mt_h5A hS of ot ⟨⟨by omega, by omega⟩, fun h1 g1 g2 => ?_⟩
  have e := me_nil g2
  subst e
  refine ⟨_, me_len_5 (d := d) hS, fun w h2 ow hq => ?_⟩
  obtain ⟨rfl, rfl⟩ := hq
  refine mt_h5B (zl := 4) (zs := zt - zf) hS of ot ⟨by decide, by decide⟩ ⟨by omega, by omega⟩ ?_ ?_
  · intro c h3 g1 g2
    have e := me_nil g2
    subst e
    exact hs20_5 hS f0 f1 t0 t1 10 0 0 (by decide) (by decide) (by decide) (Or.inl rfl) (fun x => absurd x (by decide)) (fun _ x => c x.1)
  · intro c h3 g1 g2
    have e := me_nil g2
    subst e
    exact hs20_5 hS f0 f1 t0 t1 10 1 0 (by decide) (by decide) (by decide) (Or.inr rfl) (fun _ => ⟨c, fun j hj => by omega⟩) (fun x => absurd x (by decide))
end HS5
def ws_6 : List Int := [100, 101, 101, 112, 101, 114]
def xc_len_6 : ab_C := (27, [(3, 6, 0, [])], [], [((1, 6, 6, []), [])], [], 5)
theorem xo_len_6 : ab_Ok sc_P sx_sk xc_len_6 := ab_good_ok (env := []) (heads := []) (fuel := 40) (by decide +kernel) (fun _ h => absurd h List.not_mem_nil)
def xc_chr_6_0 : ab_C := (29, [(3, 6, 0, []), (1, 0, 0, [])], [], [((1, 100, 100, []), [])], [], 5)
theorem xo_chr_6_0 : ab_Ok sc_P sx_sk xc_chr_6_0 := ab_good_ok (env := []) (heads := []) (fuel := 60) (by decide +kernel) (fun _ h => absurd h List.not_mem_nil)
def xc_chr_6_1 : ab_C := (29, [(3, 6, 0, []), (1, 1, 1, [])], [], [((1, 101, 101, []), [])], [], 5)
theorem xo_chr_6_1 : ab_Ok sc_P sx_sk xc_chr_6_1 := ab_good_ok (env := []) (heads := []) (fuel := 60) (by decide +kernel) (fun _ h => absurd h List.not_mem_nil)
def xc_chr_6_2 : ab_C := (29, [(3, 6, 0, []), (1, 2, 2, [])], [], [((1, 101, 101, []), [])], [], 5)
theorem xo_chr_6_2 : ab_Ok sc_P sx_sk xc_chr_6_2 := ab_good_ok (env := []) (heads := []) (fuel := 60) (by decide +kernel) (fun _ h => absurd h List.not_mem_nil)
def xc_chr_6_3 : ab_C := (29, [(3, 6, 0, []), (1, 3, 3, [])], [], [((1, 112, 112, []), [])], [], 5)
theorem xo_chr_6_3 : ab_Ok sc_P sx_sk xc_chr_6_3 := ab_good_ok (env := []) (heads := []) (fuel := 60) (by decide +kernel) (fun _ h => absurd h List.not_mem_nil)
def xc_chr_6_4 : ab_C := (29, [(3, 6, 0, []), (1, 4, 4, [])], [], [((1, 101, 101, []), [])], [], 5)
theorem xo_chr_6_4 : ab_Ok sc_P sx_sk xc_chr_6_4 := ab_good_ok (env := []) (heads := []) (fuel := 60) (by decide +kernel) (fun _ h => absurd h List.not_mem_nil)
def xc_chr_6_5 : ab_C := (29, [(3, 6, 0, []), (1, 5, 5, [])], [], [((1, 114, 114, []), [])], [], 5)
theorem xo_chr_6_5 : ab_Ok sc_P sx_sk xc_chr_6_5 := ab_good_ok (env := []) (heads := []) (fuel := 60) (by decide +kernel) (fun _ h => absurd h List.not_mem_nil)
section HS6
variable {d : Nat} {h : sm_H} {zf zt : Int}
theorem me_len_6 (hS : ab_Sh sx_sk h) : me_E (d + 5) 27 0 [some (.inr (.inr 6))] [] h (fun w h' => h' = h ∧ w = some (.inl 6)) := me_abs1 (m := 27) (M := (1, 1, sb_27)) (as := [.inr (.inr 6)]) xo_len_6 rfl rfl (by decide) hS ⟨rfl, trivial⟩
theorem me_chr_6 {zk : Int} (hS : ab_Sh sx_sk h) (k0 : 0 ≤ zk) (k1 : zk < 6) : me_E (d + 5) 29 0 [some (.inr (.inr 6)), some (.inl zk)] [] h (fun w h' => h' = h ∧ w = some (.inl (ws_6.getD zk.toNat 0))) := by
  rcases (show zk = 0 ∨ zk = 1 ∨ zk = 2 ∨ zk = 3 ∨ zk = 4 ∨ zk = 5 by omega) with rfl | rfl | rfl | rfl | rfl | rfl
  · exact me_abs1 (m := 29) (M := (2, 5, sb_29)) (as := [.inr (.inr 6), .inl 0]) (z := 100) xo_chr_6_0 rfl rfl (by decide) hS ⟨rfl, me_nv1 ⟨by decide, by decide⟩ (by decide) (by decide), trivial⟩
  · exact me_abs1 (m := 29) (M := (2, 5, sb_29)) (as := [.inr (.inr 6), .inl 1]) (z := 101) xo_chr_6_1 rfl rfl (by decide) hS ⟨rfl, me_nv1 ⟨by decide, by decide⟩ (by decide) (by decide), trivial⟩
  · exact me_abs1 (m := 29) (M := (2, 5, sb_29)) (as := [.inr (.inr 6), .inl 2]) (z := 101) xo_chr_6_2 rfl rfl (by decide) hS ⟨rfl, me_nv1 ⟨by decide, by decide⟩ (by decide) (by decide), trivial⟩
  · exact me_abs1 (m := 29) (M := (2, 5, sb_29)) (as := [.inr (.inr 6), .inl 3]) (z := 112) xo_chr_6_3 rfl rfl (by decide) hS ⟨rfl, me_nv1 ⟨by decide, by decide⟩ (by decide) (by decide), trivial⟩
  · exact me_abs1 (m := 29) (M := (2, 5, sb_29)) (as := [.inr (.inr 6), .inl 4]) (z := 101) xo_chr_6_4 rfl rfl (by decide) hS ⟨rfl, me_nv1 ⟨by decide, by decide⟩ (by decide) (by decide), trivial⟩
  · exact me_abs1 (m := 29) (M := (2, 5, sb_29)) (as := [.inr (.inr 6), .inl 5]) (z := 114) xo_chr_6_5 rfl rfl (by decide) hS ⟨rfl, me_nv1 ⟨by decide, by decide⟩ (by decide) (by decide), trivial⟩
theorem hs20_6 (hS : ab_Sh sx_sk h) (f0 : 0 ≤ zf) (f1 : zf ≤ 300) (t0 : 0 ≤ zt) (t1 : zt ≤ 300) : ∀ (N : Nat) (zm zk : Int), 6 - zk < N → 0 ≤ zk → zk ≤ 6 → (zm = 0 ∨ zm = 1) → (zm = 1 → zt - zf = 6 ∧ ∀ j : Nat, (j : Int) < zk → cx_at h (zf + j) = ws_6.getD j 0) → (zm = 0 → ¬ (zt - zf = 6 ∧ wd_m h zf ws_6)) → me_E (d + 6) 26 20 [some (.inr (.inr 52)), some (.inr (.inr 6)), some (.inl zf), some (.inl zt), some (.inl zm), some (.inl zk)] [] h (hs_Q h zf zt ws_6) := by
  intro N
  induction N with
  | zero => intro zm zk hN k0 k1; exfalso; omega
  | succ N ih =>
    intro zm zk hN k0 k1 om hA hB
    have of : mi_in zf := ⟨by omega, by omega⟩
    have ot : mi_in zt := ⟨by omega, by omega⟩
    have omm : mi_in zm := ⟨by omega, by omega⟩
    have ok : mi_in zk := ⟨by omega, by omega⟩
    refine mt_h6C hS of ot omm ok ?_ ?_
    · intro c
      refine ⟨om, fun h1 g1 g2 => ⟨me_nil g2, zm, rfl, om, fun x => by omega, fun x => absurd x (hB c)⟩⟩
    · intro c h1 g1 g2
      have e := me_nil g2
      subst e
      refine ⟨_, me_len_6 (d := d) hS, fun w h2 ow hq => ?_⟩
      obtain ⟨rfl, rfl⟩ := hq
      obtain ⟨a1, a2⟩ := hA (by omega)
      refine mt_h6D (zl := 6) (zy := zk) hS of ot omm ok ⟨by decide, by decide⟩ ok ?_ ?_
      · intro c2
        refine ⟨om, fun h3 g1 g2 => ⟨me_nil g2, zm, rfl, om, fun _ => ⟨a1, fun j hj => a2 j (by have : j < 6 := hj; omega)⟩, fun _ => by omega⟩⟩
      · intro c2 h3 g1 g2
        have e := me_nil g2
        subst e
        refine ⟨_, me_chr_6 (d := d) hS k0 c2, fun w h4 ow hq => ?_⟩
        obtain ⟨rfl, rfl⟩ := hq
        have bc : 0 ≤ ws_6.getD zk.toNat 0 ∧ ws_6.getD zk.toNat 0 ≤ 200 := by
          rcases (show zk = 0 ∨ zk = 1 ∨ zk = 2 ∨ zk = 3 ∨ zk = 4 ∨ zk = 5 by omega) with rfl | rfl | rfl | rfl | rfl | rfl <;> decide
        refine mt_h6E (zc := ws_6.getD zk.toNat 0) hS of ot omm ok ⟨by omega, by omega⟩ ⟨⟨by omega, by omega⟩, fun h5 g1 g2 => ?_⟩
        have e := me_nil g2
        subst e
        refine ⟨_, me_cat (d := d + 5) hS ⟨by omega, by omega⟩, fun w h6 ow hq => ?_⟩
        obtain ⟨rfl, rfl⟩ := hq
        have bx := cx_in hS (zf + zk)
        refine mt_h6F (zz := cx_at h6 (zf + zk)) (zc := ws_6.getD zk.toNat 0) hS of ot omm ok ⟨by omega, by omega⟩ ⟨by omega, by omega⟩ ?_ ?_
        · intro c3
          refine ⟨⟨by omega, by omega⟩, fun h7 g1 g2 => ?_⟩
          have e := me_nil g2
          subst e
          refine ih 0 (zk + 1) (by omega) (by omega) (by omega) (Or.inl rfl) (fun x => absurd x (by decide)) (fun _ x => ?_)
          have y := x.2 zk.toNat (by show zk.toNat < 6; omega)
          rw [show ((zk.toNat : Nat) : Int) = zk by omega] at y
          exact c3 y.symm
        · intro c3
          refine ⟨⟨by omega, by omega⟩, fun h7 g1 g2 => ?_⟩
          have e := me_nil g2
          subst e
          refine ih 1 (zk + 1) (by omega) (by omega) (by omega) (Or.inr rfl) (fun _ => ⟨a1, fun j hj => ?_⟩) (fun x => absurd x (by decide))
          by_cases ej : (j : Int) = zk
          · have ej2 : j = zk.toNat := by omega
            rw [ej, ej2]
            exact c3.symm
          · exact a2 j (by omega)
theorem me_has_6 (hS : ab_Sh sx_sk h) (f0 : 0 ≤ zf) (f1 : zf ≤ 300) (t0 : 0 ≤ zt) (t1 : zt ≤ 300) : me_E (d + 6) 26 0 [some (.inr (.inr 52)), some (.inr (.inr 6)), some (.inl zf), some (.inl zt), none, none] [] h (hs_Q h zf zt ws_6) := by
  have of : mi_in zf := ⟨by omega, by omega⟩
  have ot : mi_in zt := ⟨by omega, by omega⟩
  refine mt_h6A hS of ot ⟨⟨by omega, by omega⟩, fun h1 g1 g2 => ?_⟩
  have e := me_nil g2
  subst e
  refine ⟨_, me_len_6 (d := d) hS, fun w h2 ow hq => ?_⟩
  obtain ⟨rfl, rfl⟩ := hq
  refine mt_h6B (zl := 6) (zs := zt - zf) hS of ot ⟨by decide, by decide⟩ ⟨by omega, by omega⟩ ?_ ?_
  · intro c h3 g1 g2
    have e := me_nil g2
    subst e
    exact hs20_6 hS f0 f1 t0 t1 10 0 0 (by decide) (by decide) (by decide) (Or.inl rfl) (fun x => absurd x (by decide)) (fun _ x => c x.1)
  · intro c h3 g1 g2
    have e := me_nil g2
    subst e
    exact hs20_6 hS f0 f1 t0 t1 10 1 0 (by decide) (by decide) (by decide) (Or.inr rfl) (fun _ => ⟨c, fun j hj => by omega⟩) (fun x => absurd x (by decide))
end HS6
def ws_7 : List Int := [98, 97, 99, 107]
def xc_len_7 : ab_C := (27, [(3, 7, 0, [])], [], [((1, 4, 4, []), [])], [], 5)
theorem xo_len_7 : ab_Ok sc_P sx_sk xc_len_7 := ab_good_ok (env := []) (heads := []) (fuel := 40) (by decide +kernel) (fun _ h => absurd h List.not_mem_nil)
def xc_chr_7_0 : ab_C := (29, [(3, 7, 0, []), (1, 0, 0, [])], [], [((1, 98, 98, []), [])], [], 5)
theorem xo_chr_7_0 : ab_Ok sc_P sx_sk xc_chr_7_0 := ab_good_ok (env := []) (heads := []) (fuel := 60) (by decide +kernel) (fun _ h => absurd h List.not_mem_nil)
def xc_chr_7_1 : ab_C := (29, [(3, 7, 0, []), (1, 1, 1, [])], [], [((1, 97, 97, []), [])], [], 5)
theorem xo_chr_7_1 : ab_Ok sc_P sx_sk xc_chr_7_1 := ab_good_ok (env := []) (heads := []) (fuel := 60) (by decide +kernel) (fun _ h => absurd h List.not_mem_nil)
def xc_chr_7_2 : ab_C := (29, [(3, 7, 0, []), (1, 2, 2, [])], [], [((1, 99, 99, []), [])], [], 5)
theorem xo_chr_7_2 : ab_Ok sc_P sx_sk xc_chr_7_2 := ab_good_ok (env := []) (heads := []) (fuel := 60) (by decide +kernel) (fun _ h => absurd h List.not_mem_nil)
def xc_chr_7_3 : ab_C := (29, [(3, 7, 0, []), (1, 3, 3, [])], [], [((1, 107, 107, []), [])], [], 5)
theorem xo_chr_7_3 : ab_Ok sc_P sx_sk xc_chr_7_3 := ab_good_ok (env := []) (heads := []) (fuel := 60) (by decide +kernel) (fun _ h => absurd h List.not_mem_nil)
section HS7
variable {d : Nat} {h : sm_H} {zf zt : Int}
theorem me_len_7 (hS : ab_Sh sx_sk h) : me_E (d + 5) 27 0 [some (.inr (.inr 7))] [] h (fun w h' => h' = h ∧ w = some (.inl 4)) := me_abs1 (m := 27) (M := (1, 1, sb_27)) (as := [.inr (.inr 7)]) xo_len_7 rfl rfl (by decide) hS ⟨rfl, trivial⟩
theorem me_chr_7 {zk : Int} (hS : ab_Sh sx_sk h) (k0 : 0 ≤ zk) (k1 : zk < 4) : me_E (d + 5) 29 0 [some (.inr (.inr 7)), some (.inl zk)] [] h (fun w h' => h' = h ∧ w = some (.inl (ws_7.getD zk.toNat 0))) := by
  rcases (show zk = 0 ∨ zk = 1 ∨ zk = 2 ∨ zk = 3 by omega) with rfl | rfl | rfl | rfl
  · exact me_abs1 (m := 29) (M := (2, 5, sb_29)) (as := [.inr (.inr 7), .inl 0]) (z := 98) xo_chr_7_0 rfl rfl (by decide) hS ⟨rfl, me_nv1 ⟨by decide, by decide⟩ (by decide) (by decide), trivial⟩
  · exact me_abs1 (m := 29) (M := (2, 5, sb_29)) (as := [.inr (.inr 7), .inl 1]) (z := 97) xo_chr_7_1 rfl rfl (by decide) hS ⟨rfl, me_nv1 ⟨by decide, by decide⟩ (by decide) (by decide), trivial⟩
  · exact me_abs1 (m := 29) (M := (2, 5, sb_29)) (as := [.inr (.inr 7), .inl 2]) (z := 99) xo_chr_7_2 rfl rfl (by decide) hS ⟨rfl, me_nv1 ⟨by decide, by decide⟩ (by decide) (by decide), trivial⟩
  · exact me_abs1 (m := 29) (M := (2, 5, sb_29)) (as := [.inr (.inr 7), .inl 3]) (z := 107) xo_chr_7_3 rfl rfl (by decide) hS ⟨rfl, me_nv1 ⟨by decide, by decide⟩ (by decide) (by decide), trivial⟩
theorem hs20_7 (hS : ab_Sh sx_sk h) (f0 : 0 ≤ zf) (f1 : zf ≤ 300) (t0 : 0 ≤ zt) (t1 : zt ≤ 300) : ∀ (N : Nat) (zm zk : Int), 4 - zk < N → 0 ≤ zk → zk ≤ 4 → (zm = 0 ∨ zm = 1) → (zm = 1 → zt - zf = 4 ∧ ∀ j : Nat, (j : Int) < zk → cx_at h (zf + j) = ws_7.getD j 0) → (zm = 0 → ¬ (zt - zf = 4 ∧ wd_m h zf ws_7)) → me_E (d + 6) 26 20 [some (.inr (.inr 52)), some (.inr (.inr 7)), some (.inl zf), some (.inl zt), some (.inl zm), some (.inl zk)] [] h (hs_Q h zf zt ws_7) := by
  intro N
  induction N with
  | zero => intro zm zk hN k0 k1; exfalso; omega
  | succ N ih =>
    intro zm zk hN k0 k1 om hA hB
    have of : mi_in zf := ⟨by omega, by omega⟩
    have ot : mi_in zt := ⟨by omega, by omega⟩
    have omm : mi_in zm := ⟨by omega, by omega⟩
    have ok : mi_in zk := ⟨by omega, by omega⟩
    refine mt_h7C hS of ot omm ok ?_ ?_
    · intro c
      refine ⟨om, fun h1 g1 g2 => ⟨me_nil g2, zm, rfl, om, fun x => by omega, fun x => absurd x (hB c)⟩⟩
    · intro c h1 g1 g2
      have e := me_nil g2
      subst e
      refine ⟨_, me_len_7 (d := d) hS, fun w h2 ow hq => ?_⟩
      obtain ⟨rfl, rfl⟩ := hq
      obtain ⟨a1, a2⟩ := hA (by omega)
      refine mt_h7D (zl := 4) (zy := zk) hS of ot omm ok ⟨by decide, by decide⟩ ok ?_ ?_
      · intro c2
        refine ⟨om, fun h3 g1 g2 => ⟨me_nil g2, zm, rfl, om, fun _ => ⟨a1, fun j hj => a2 j (by have : j < 4 := hj; omega)⟩, fun _ => by omega⟩⟩
      · intro c2 h3 g1 g2
        have e := me_nil g2
        subst e
        refine ⟨_, me_chr_7 (d := d) hS k0 c2, fun w h4 ow hq => ?_⟩
        obtain ⟨rfl, rfl⟩ := hq
        have bc : 0 ≤ ws_7.getD zk.toNat 0 ∧ ws_7.getD zk.toNat 0 ≤ 200 := by
          rcases (show zk = 0 ∨ zk = 1 ∨ zk = 2 ∨ zk = 3 by omega) with rfl | rfl | rfl | rfl <;> decide
        refine mt_h7E (zc := ws_7.getD zk.toNat 0) hS of ot omm ok ⟨by omega, by omega⟩ ⟨⟨by omega, by omega⟩, fun h5 g1 g2 => ?_⟩
        have e := me_nil g2
        subst e
        refine ⟨_, me_cat (d := d + 5) hS ⟨by omega, by omega⟩, fun w h6 ow hq => ?_⟩
        obtain ⟨rfl, rfl⟩ := hq
        have bx := cx_in hS (zf + zk)
        refine mt_h7F (zz := cx_at h6 (zf + zk)) (zc := ws_7.getD zk.toNat 0) hS of ot omm ok ⟨by omega, by omega⟩ ⟨by omega, by omega⟩ ?_ ?_
        · intro c3
          refine ⟨⟨by omega, by omega⟩, fun h7 g1 g2 => ?_⟩
          have e := me_nil g2
          subst e
          refine ih 0 (zk + 1) (by omega) (by omega) (by omega) (Or.inl rfl) (fun x => absurd x (by decide)) (fun _ x => ?_)
          have y := x.2 zk.toNat (by show zk.toNat < 4; omega)
          rw [show ((zk.toNat : Nat) : Int) = zk by omega] at y
          exact c3 y.symm
        · intro c3
          refine ⟨⟨by omega, by omega⟩, fun h7 g1 g2 => ?_⟩
          have e := me_nil g2
          subst e
          refine ih 1 (zk + 1) (by omega) (by omega) (by omega) (Or.inr rfl) (fun _ => ⟨a1, fun j hj => ?_⟩) (fun x => absurd x (by decide))
          by_cases ej : (j : Int) = zk
          · have ej2 : j = zk.toNat := by omega
            rw [ej, ej2]
            exact c3.symm
          · exact a2 j (by omega)
theorem me_has_7 (hS : ab_Sh sx_sk h) (f0 : 0 ≤ zf) (f1 : zf ≤ 300) (t0 : 0 ≤ zt) (t1 : zt ≤ 300) : me_E (d + 6) 26 0 [some (.inr (.inr 52)), some (.inr (.inr 7)), some (.inl zf), some (.inl zt), none, none] [] h (hs_Q h zf zt ws_7) := by
  have of : mi_in zf := ⟨by omega, by omega⟩
  have ot : mi_in zt := ⟨by omega, by omega⟩
  refine mt_h7A hS of ot ⟨⟨by omega, by omega⟩, fun h1 g1 g2 => ?_⟩
  have e := me_nil g2
  subst e
  refine ⟨_, me_len_7 (d := d) hS, fun w h2 ow hq => ?_⟩
  obtain ⟨rfl, rfl⟩ := hq
  refine mt_h7B (zl := 4) (zs := zt - zf) hS of ot ⟨by decide, by decide⟩ ⟨by omega, by omega⟩ ?_ ?_
  · intro c h3 g1 g2
    have e := me_nil g2
    subst e
    exact hs20_7 hS f0 f1 t0 t1 10 0 0 (by decide) (by decide) (by decide) (Or.inl rfl) (fun x => absurd x (by decide)) (fun _ x => c x.1)
  · intro c h3 g1 g2
    have e := me_nil g2
    subst e
    exact hs20_7 hS f0 f1 t0 t1 10 1 0 (by decide) (by decide) (by decide) (Or.inr rfl) (fun _ => ⟨c, fun j hj => by omega⟩) (fun x => absurd x (by decide))
end HS7
