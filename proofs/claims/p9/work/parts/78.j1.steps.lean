/-! the walk's loop: what its steps do to the stack -/
theorem wk_sg_S {g : wk_g} {K : Nat → Int} {u : Int} {r s' : List wk_E} {c c' : Nat} (h : wk_sg g K u r c = some (s', c')) : s' = wk_sS g u r := by
  unfold wk_sg at h
  by_cases h9 : g 119 u.toNat = 9
  · rw [if_pos h9] at h
    split at h
    · cases h; rfl
    · cases h
  · rw [if_neg h9] at h
    by_cases h1 : g 119 u.toNat = 1
    · rw [if_pos h1] at h
      split at h
      · cases h
        unfold wk_sS
        rw [if_neg h9, if_neg (by omega)]
      · cases h
    · rw [if_neg h1] at h
      by_cases h2 : g 119 u.toNat = 2
      · rw [if_pos h2] at h
        split at h
        · cases h
          unfold wk_sS
          rw [if_neg h9, if_neg (by omega)]
        · cases h
      · rw [if_neg h2] at h
        cases h
        rfl
section WLP
variable {g : wk_g} {Y : wk_Y} {Z : wk_P} {r s' : List wk_E} {w p l zo : Int} {K V : Nat → Int} {c c' : Nat}
theorem wl_A {x : Int} (hw0 : 0 ≤ w) (hw1 : w < wk_u Y) (hi : (r.length : Int) + 4 * (wk_e Y w - w) - 2 ≤ 242 * l) (hp0 : 0 ≤ p) (hp1 : p ≤ 5 * (l - 1) + wk_d Y (wk_c Y w) + 1) (hl0 : 1 ≤ l) (hl1 : l ≤ 12) (hb : wk_SI Y Z r 0 p l) : wk_SI Y Z ((5, w, x) :: (2, 0, 0) :: r) 0 p l := by
  refine wk_pagain ⟨hw0, hw1, ?_, hp0, hp1, hl0, hl1⟩ (wk_pout (Or.inl rfl) hp0 hl0 hl1 ?_)
  · rw [List.length_cons]
    omega
  · rw [Int.sub_zero]
    exact hb
theorem wl_B (hL : wk_L g Y) (hw0 : 0 ≤ w) (hw1 : w < wk_u Y) (hi : (r.length : Int) + 4 * (wk_e Y w - w) - 2 ≤ 242 * l) (hp0 : 0 ≤ p) (hp1 : p ≤ 5 * (l - 1) + wk_d Y (wk_c Y w) + 1) (hl0 : 1 ≤ l) (hl1 : l ≤ 12) (hb : wk_SI Y Z r 0 p l) (hwr : g 122 w.toNat ≠ 1) (hpf : wk_pf g K V ((0, w, zo) :: r, c) = some (s', c')) (h12 : wk_ul s' ≤ 12) : wk_SI Y Z s' 0 p (wk_ul s') := by
  have hul := wk_SI_ul r 0 p l hb
  unfold wk_pf at hpf
  dsimp only at hpf
  rw [if_pos rfl, if_neg hwr] at hpf
  by_cases h2 : g 122 w.toNat = 2
  · rw [if_pos h2] at hpf
    have hb2 : wk_SI Y Z ((2, 0, 0) :: r) 0 p l := wk_pout (Or.inl rfl) hp0 hl0 hl1 (by rw [Int.sub_zero]; exact hb)
    have hu2 : wk_ul ((2, 0, 0) :: r) = l := by rw [wk_ul_o]; omega
    split at hpf
    · split at hpf
      · have es := wk_sg_S hpf
        have eu : wk_ul s' = wk_sl g w l := by rw [es, wk_ul_sS, hu2]
        rw [eu] at h12 ⊢
        rw [es]
        exact wk_SI_s hL hw0 hw1 hb2 hl0 h12 hp0 hp1 (by rw [List.length_cons]; omega)
      · cases hpf
        rw [hu2]
        exact hb2
    · cases hpf
  · rw [if_neg h2] at hpf
    have es := wk_sg_S hpf
    have eu : wk_ul s' = wk_sl g w l := by rw [es, wk_ul_sS, hul]
    rw [eu] at h12 ⊢
    rw [es]
    exact wk_SI_s hL hw0 hw1 hb hl0 h12 hp0 hp1 (by omega)
theorem wl_C {x : Int} (hL : wk_L g Y) (hA : wk_A Y w (r.length : Int) p l) (hb : wk_SI Y Z r 0 p l) (h12 : wk_ul (wk_sS g w ((5, w, x) :: r)) ≤ 12) : wk_SI Y Z (wk_sS g w ((5, w, x) :: r)) 0 p (wk_ul (wk_sS g w ((5, w, x) :: r))) := by
  obtain ⟨a1, a2, a3, a4, a5, a6, a7⟩ := hA
  have hul := wk_SI_ul r 0 p l hb
  have eu : wk_ul (wk_sS g w ((5, w, x) :: r)) = wk_sl g w l := by rw [wk_ul_sS, wk_ul_c (by decide), hul]
  rw [eu] at h12 ⊢
  exact wk_SI_s hL a1 a2 (wk_pagain ⟨a1, a2, a3, a4, a5, a6, a7⟩ hb) a6 h12 a4 a5 (by rw [List.length_cons]; omega)
theorem wk_ul_it {N : Nat} {u : Int} : wk_ul (wk_it g N u ++ r) = wk_ul r := by
  induction N generalizing u with
  | zero => rfl
  | succ N ih =>
    unfold wk_it
    split
    · rfl
    · split
      · show wk_ul ((0, u, 1) :: (3, 0, 0) :: (0, g 124 u.toNat, 0) :: (4, 0, 0) :: (wk_it g N (g 125 u.toNat) ++ r)) = _
        rw [wk_ul_c (by decide), wk_ul_c (by decide), wk_ul_c (by decide), wk_ul_c (by decide), ih]
      · show wk_ul ((0, u, 0) :: (wk_it g N (g 125 u.toNat) ++ r)) = _
        rw [wk_ul_c (by decide), ih]
/-- a form's items -/
theorem wl_D {f : Int} (hL : wk_L g Y) (hF : wk_F Y f (r.length : Int) p l) (hb : wk_SI Y Z r 0 p l) {j : Nat} (hj : (j : Int) < g 130 f.toNat) : (((wk_it g 61 (g 126 (wk_alt g j (g 129 f.toNat)).toNat)).length : Int) + (r.length : Int) + 1 ≤ 2999) ∧ wk_SI Y Z (wk_it g 61 (g 126 (wk_alt g j (g 129 f.toNat)).toNat) ++ r) 0 p l ∧ wk_SI Y Z (wk_it g 61 (g 126 (wk_alt g j (g 129 f.toNat)).toNat) ++ (2, 0, 0) :: r) 0 p l := by
  obtain ⟨f1, f2, f3, f4, f5, f6, f7⟩ := hF
  obtain ⟨d1, d2, d3, d4, dB, d5⟩ := hL.2.2.2 f f1 f2
  obtain ⟨e1, e2, e3⟩ := d5 j hj
  generalize g 126 (wk_alt g j (g 129 f.toNat)).toNat = u at e3 ⊢
  have hu : u < 0 ∨ (u < wk_u Y ∧ wk_c Y u = f) := e3
  have hub : 0 ≤ u → wk_b Y f < u ∧ u ≤ wk_x Y f := fun h0 => by
    have hu2 : u < wk_u Y ∧ wk_c Y u = f := by omega
    obtain ⟨⟨a1, a2, a3, -⟩, -⟩ := hL.2.2.1 u h0 hu2.1
    rw [hu2.2] at a2 a3
    omega
  have k1 := wk_SI_it (Z := Z) (r := r) hL f1 f2 hb f6 f7 f4 f5 61 u hu (fun h0 => by have := hub h0; omega)
  have hb2 : wk_SI Y Z ((2, 0, 0) :: r) 0 p l := wk_pout (Or.inl rfl) f4 f6 f7 (by rw [Int.sub_zero]; exact hb)
  have k2 := wk_SI_it (Z := Z) (r := (2, 0, 0) :: r) hL f1 f2 hb2 f6 f7 f4 f5 61 u hu (fun h0 => by have := hub h0; rw [List.length_cons]; omega)
  refine ⟨?_, k1.1, k2.1⟩
  by_cases h0 : 0 ≤ u
  · have := k1.2.1 h0
    have := hub h0
    omega
  · have := k1.2.2 (by omega)
    omega
end WLP
