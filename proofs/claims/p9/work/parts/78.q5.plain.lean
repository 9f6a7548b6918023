/-! reading: a plain unit comes -/
section RDN
variable {g g' : wk_g} {Y : wk_Y} {z : rd_Z} {m : Int}
def rd_yp (g : wk_g) (Y : wk_Y) (z : rd_Z) : wk_Y := (fun w => if w = wk_u Y then wk_u Y + 1 else wk_e Y w, fun w => if w = wk_u Y then g 146 (rd_k z).toNat else wk_c Y w, fun f => wk_b Y f, fun f => wk_x Y f, fun f => wk_d Y f, wk_u Y + 1, wk_f Y)
theorem rd_plain (hI : rd_I g Y z m) (hk : 0 ≤ rd_k z) (hU : wk_u Y < 60)
    (s : ∀ j, j ∈ [126, 128, 129, 130, 146, 147, 148, 149, 150, 151] → ∀ i, g' j i = g j i)
    (s119 : ∀ i : Nat, i ≠ (wk_u Y).toNat → g' 119 i = g 119 i) (s120 : ∀ i : Nat, i ≠ (wk_u Y).toNat → g' 120 i = g 120 i)
    (h124 : ∀ i : Nat, g' 124 i = if i = (wk_u Y).toNat then -1 else g 124 i) (h125 : ∀ i : Nat, g' 125 i = if i = (wk_u Y).toNat then -1 else g 125 i)
    (n10 : g' 119 (wk_u Y).toNat ≠ 10) (n9 : g' 119 (wk_u Y).toNat = 9 → 0 ≤ g' 120 (wk_u Y).toNat ∧ g' 120 (wk_u Y).toNat < 26) (n8 : g' 119 (wk_u Y).toNat = 8 → 0 ≤ g' 120 (wk_u Y).toNat ∧ g' 120 (wk_u Y).toNat < 20)
    (hb : wk_b Y (g 146 (rd_k z).toNat) < wk_u Y) : rd_I g' (rd_yp g Y z) z m ∧ rd_loose g' (rd_yp g Y z) z (wk_u Y) := by
  obtain ⟨⟨n1, n2, n3, n4, n5, n6, n7⟩, i1, i2, i3, i4, i5⟩ := hI
  have e126 := s 126 (by decide)
  have e128 := s 128 (by decide)
  have e129 := s 129 (by decide)
  have e130 := s 130 (by decide)
  have e146 := s 146 (by decide)
  have e147 := s 147 (by decide)
  have e148 := s 148 (by decide)
  have e149 := s 149 (by decide)
  have e150 := s 150 (by decide)
  have e151 := s 151 (by decide)
  obtain ⟨⟨f0, f1, f2, f3⟩, l2, l3, l4, l5, l6⟩ := i4 (rd_k z) hk (Int.le_refl _)
  have yu : wk_u (rd_yp g Y z) = wk_u Y + 1 := rfl
  have yf : wk_f (rd_yp g Y z) = wk_f Y := rfl
  have yb : ∀ f, wk_b (rd_yp g Y z) f = wk_b Y f := fun _ => rfl
  have yx : ∀ f, wk_x (rd_yp g Y z) f = wk_x Y f := fun _ => rfl
  have yd : ∀ f, wk_d (rd_yp g Y z) f = wk_d Y f := fun _ => rfl
  have ye : ∀ w, w < wk_u Y → wk_e (rd_yp g Y z) w = wk_e Y w := fun w h => if_neg (show ¬ w = wk_u Y by omega)
  have yc : ∀ w, w < wk_u Y → wk_c (rd_yp g Y z) w = wk_c Y w := fun w h => if_neg (show ¬ w = wk_u Y by omega)
  have yeU : wk_e (rd_yp g Y z) (wk_u Y) = wk_u Y + 1 := if_pos rfl
  have ycU : wk_c (rd_yp g Y z) (wk_u Y) = g 146 (rd_k z).toNat := if_pos rfl
  have k124 : ∀ w, 0 ≤ w → w < wk_u Y → g' 124 w.toNat = g 124 w.toNat := fun w a b => by rw [h124, if_neg (by omega)]
  have k125 : ∀ w, 0 ≤ w → w < wk_u Y → g' 125 w.toNat = g 125 w.toNat := fun w a b => by rw [h125, if_neg (by omega)]
  have U124 : g' 124 (wk_u Y).toNat = -1 := by rw [h124, if_pos rfl]
  have U125 : g' 125 (wk_u Y).toNat = -1 := by rw [h125, if_pos rfl]
  have alts : ∀ n a, wk_alt g' n a = wk_alt g n a := by
    intro n
    induction n with
    | zero => intro a; rfl
    | succ n ih =>
      intro a
      show wk_alt g' n (g' 128 a.toNat) = wk_alt g n (g 128 a.toNat)
      rw [e128, ih]
  have tops : ∀ i, i ≤ rd_k z → rd_top g Y z i ≤ rd_top g' (rd_yp g Y z) z i ∧ (i < rd_k z → rd_top g' (rd_yp g Y z) z i = rd_top g Y z i) := fun i h => by
    unfold rd_top
    rw [e148, yu]
    by_cases c : i < rd_k z
    · rw [if_pos c, if_pos c]
      exact ⟨Int.le_refl _, fun _ => rfl⟩
    · rw [if_neg c, if_neg c]
      exact ⟨by omega, fun x => absurd x c⟩
  have m124 : ∀ (v : Int), 0 ≤ v → (∀ w, 0 ≤ w → w < wk_u Y → g 124 w.toNat ≠ v) → ∀ w, 0 ≤ w → w < wk_u Y + 1 → g' 124 w.toNat ≠ v := fun v v0 hv w w0 w1 => by
    by_cases c : w = wk_u Y
    · rw [c, U124]
      omega
    · rw [k124 w w0 (by omega)]
      exact hv w w0 (by omega)
  refine ⟨⟨⟨by rw [yu]; omega, by rw [yu]; omega, n3, n4, n5, n6, n7⟩, fun w h0 h1 => ?_, fun f h0 h1 => ?_, fun a h0 h1 => ?_, fun i h0 h1 => ?_, fun i h0 h1 => ?_⟩, ?_⟩
  · rw [yu] at h1
    unfold rd_unit
    by_cases c : w = wk_u Y
    · subst c
      rw [U124, U125, yeU, ycU, yx, yb, f3, yf]
      exact ⟨⟨by omega, by omega, hb, f0, f1⟩, fun x => absurd x (by decide), fun x => absurd x (by decide), n9, fun x => absurd x n10, n8⟩
    · have hw : w < wk_u Y := by omega
      obtain ⟨p1, p2, p3, p4, p5, p6⟩ := i1 w h0 hw
      rw [k124 w h0 hw, k125 w h0 hw, s119 w.toNat (by omega), s120 w.toNat (by omega), ye w hw, yc w hw, yx, yb, yf]
      refine ⟨p1, fun x => ?_, fun x => ?_, p4, fun x => ?_, p6⟩
      · obtain ⟨y1, y2, y3, y4⟩ := p2 x
        rw [yu, yc _ y1, k124 _ x y1]
        exact ⟨by omega, y2, y3, y4⟩
      · obtain ⟨y1, y2, y3, y4⟩ := p3 x
        rw [yu, yc _ y1]
        refine ⟨by omega, y2, y3, fun q => ?_⟩
        rw [ye _ (p2 q).1]
        exact y4 q
      · rw [yx, yb, yd, yd]
        exact p5 x
  · have hf := i2 f h0 h1
    unfold rd_form at hf ⊢
    simp only [e129, e130, e146, alts, yd, yb, yx]
    exact hf
  · unfold rd_alt
    rw [e126, yu]
    by_cases c : g 126 a.toNat < 0
    · exact Or.inl c
    · rcases i3 a h0 h1 with x | x
      · exact absurd x c
      · rw [yc _ x.1]
        exact Or.inr ⟨by omega, x.2⟩
  · obtain ⟨⟨t0, t1, t2, t3⟩, r2, r3, r4, r5, r6⟩ := i4 i h0 h1
    obtain ⟨tp1, tp2⟩ := tops i h1
    unfold rd_lev
    simp only [e129, e130, e146, e147, e148, e149, e150, e151, alts, yd, yx, yf]
    refine ⟨⟨t0, t1, t2, t3⟩, r2, fun w w0 w1 wc => ?_, fun c => ?_, fun c => ?_, by rw [yu]; omega⟩
    · rw [yu] at w1
      by_cases c : w = wk_u Y
      · subst c
        rw [ycU] at wc
        have ei : i = rd_k z := by
          rw [← wc, f2] at t2
          exact t2.symm
        subst ei
        refine Or.inl ?_
        rw [yeU]
        unfold rd_top
        rw [if_neg (Int.lt_irrefl _), yu]
        exact Int.le_refl _
      · have hw : w < wk_u Y := by omega
        rw [yc w hw] at wc
        rw [ye w hw]
        rcases r3 w w0 hw wc with x | x
        · exact Or.inl (by omega)
        · exact Or.inr x
    · obtain ⟨x1, x2, x3, x4, x5, x6⟩ := r4 c
      rw [k124 _ c x1, k125 _ c x1, yu, yc _ x1, ye _ x1]
      refine ⟨by omega, x2, by omega, x4, fun q => ?_, m124 _ c x6⟩
      obtain ⟨y1, -⟩ := (i1 _ c x1).2.1 q
      rw [ye _ y1]
      have := x5 q
      omega
    · obtain ⟨x1, x2⟩ := r5 c
      rw [k124 _ x1 (r4 x1).1]
      exact ⟨x1, x2⟩
  · obtain ⟨x1, x2, x3, x4, x5, x6, x7, x8, x9, x10⟩ := i5 i h0 h1
    unfold rd_grp
    simp only [e146, e148, yb]
    rw [k124 _ x1 x2, k125 _ x1 x2, s119 _ (by omega), s120 _ (by omega), yc _ x2, ye _ x2, yu]
    exact ⟨x1, by omega, x3, x4, x5, x6, x7, x8, x9, m124 _ x1 x10⟩
  · unfold rd_loose
    rw [yu, ycU, yeU, e146, e149, U124, U125]
    refine ⟨n1, by omega, rfl, Int.le_refl _, by decide, by decide, fun w w0 w1 => ?_, fun c => ?_⟩
    · by_cases cw : w = wk_u Y
      · rw [cw, U124]
        omega
      · rw [k124 w w0 (by omega)]
        intro e
        have := ((i1 w w0 (by omega)).2.1 (by omega)).1
        omega
    · obtain ⟨x1, x2, x3, x4, x5, x6⟩ := l4 c
      have top : rd_top g Y z (rd_k z) = wk_u Y := if_neg (Int.lt_irrefl _)
      rw [top] at x3 x5
      rw [ye _ x1, k124 _ c x1]
      refine ⟨x3, fun q => ?_⟩
      rw [ye _ ((i1 _ c x1).2.1 q).1]
      exact x5 q
end RDN
