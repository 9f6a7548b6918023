/-! reading: a group is opened -/
section RDG
variable {g g' : wk_g} {Y : wk_Y} {z : rd_Z}
def rd_yg (g : wk_g) (Y : wk_Y) (z : rd_Z) : wk_Y := (fun w => if w = wk_u Y then 60 else wk_e Y w, fun w => if w = wk_u Y then g 146 (rd_k z).toNat else wk_c Y w, fun f => if f = wk_f Y then wk_u Y else wk_b Y f, fun f => if f = wk_f Y then 60 else wk_x Y f, fun f => if f = wk_f Y then rd_k z + 1 else wk_d Y f, wk_u Y + 1, wk_f Y + 1)
def rd_zg (z : rd_Z) : rd_Z := (fun a => rd_ow z a, fun a => rd_ix z a, rd_a z, rd_k z + 1)
theorem rd_group (hI : rd_I g Y z 1) (hk : 0 ≤ rd_k z) (hk4 : rd_k z < 4) (hU : wk_u Y < 60) (hF : wk_f Y < 80)
    (s : ∀ j, j ∈ [126, 128, 147, 149, 150, 151] → ∀ i, g' j i = g j i)
    (h119 : ∀ i : Nat, g' 119 i = if i = (wk_u Y).toNat then 10 else g 119 i) (h120 : ∀ i : Nat, g' 120 i = if i = (wk_u Y).toNat then wk_f Y else g 120 i)
    (h124 : ∀ i : Nat, g' 124 i = if i = (wk_u Y).toNat then -1 else g 124 i) (h125 : ∀ i : Nat, g' 125 i = if i = (wk_u Y).toNat then -1 else g 125 i)
    (h129 : ∀ i : Nat, g' 129 i = if i = (wk_f Y).toNat then -1 else g 129 i) (h130 : ∀ i : Nat, g' 130 i = if i = (wk_f Y).toNat then 0 else g 130 i)
    (h146 : ∀ i : Nat, g' 146 i = if i = (rd_k z + 1).toNat then wk_f Y else g 146 i) (h148 : ∀ i : Nat, g' 148 i = if i = (rd_k z + 1).toNat then wk_u Y else g 148 i)
    (hb : wk_b Y (g 146 (rd_k z).toNat) < wk_u Y) : rd_J g' (rd_yg g Y z) (rd_zg z) 0 := by
  obtain ⟨⟨n1, n2, n3, n4, n5, n6, n7⟩, i1, i2, i3, i4, i5⟩ := hI
  have e126 := s 126 (by decide)
  have e128 := s 128 (by decide)
  have e147 := s 147 (by decide)
  have e149 := s 149 (by decide)
  have e150 := s 150 (by decide)
  have e151 := s 151 (by decide)
  obtain ⟨⟨f0, f1, f2, f3⟩, l2, l3, l4, l5, l6⟩ := i4 (rd_k z) hk (Int.le_refl _)
  have yu : wk_u (rd_yg g Y z) = wk_u Y + 1 := rfl
  have yf : wk_f (rd_yg g Y z) = wk_f Y + 1 := rfl
  have yb : ∀ f, f < wk_f Y → wk_b (rd_yg g Y z) f = wk_b Y f := fun f h => if_neg (show ¬ f = wk_f Y by omega)
  have yx : ∀ f, f < wk_f Y → wk_x (rd_yg g Y z) f = wk_x Y f := fun f h => if_neg (show ¬ f = wk_f Y by omega)
  have yd : ∀ f, f < wk_f Y → wk_d (rd_yg g Y z) f = wk_d Y f := fun f h => if_neg (show ¬ f = wk_f Y by omega)
  have ybF : wk_b (rd_yg g Y z) (wk_f Y) = wk_u Y := if_pos rfl
  have yxF : wk_x (rd_yg g Y z) (wk_f Y) = 60 := if_pos rfl
  have ydF : wk_d (rd_yg g Y z) (wk_f Y) = rd_k z + 1 := if_pos rfl
  have ye : ∀ w, w < wk_u Y → wk_e (rd_yg g Y z) w = wk_e Y w := fun w h => if_neg (show ¬ w = wk_u Y by omega)
  have yc : ∀ w, w < wk_u Y → wk_c (rd_yg g Y z) w = wk_c Y w := fun w h => if_neg (show ¬ w = wk_u Y by omega)
  have yeU : wk_e (rd_yg g Y z) (wk_u Y) = 60 := if_pos rfl
  have ycU : wk_c (rd_yg g Y z) (wk_u Y) = g 146 (rd_k z).toNat := if_pos rfl
  have zk : rd_k (rd_zg z) = rd_k z + 1 := rfl
  have za : rd_a (rd_zg z) = rd_a z := rfl
  have k119 : ∀ w, 0 ≤ w → w < wk_u Y → g' 119 w.toNat = g 119 w.toNat := fun w a b => by rw [h119, if_neg (by omega)]
  have k120 : ∀ w, 0 ≤ w → w < wk_u Y → g' 120 w.toNat = g 120 w.toNat := fun w a b => by rw [h120, if_neg (by omega)]
  have k124 : ∀ w, 0 ≤ w → w < wk_u Y → g' 124 w.toNat = g 124 w.toNat := fun w a b => by rw [h124, if_neg (by omega)]
  have k125 : ∀ w, 0 ≤ w → w < wk_u Y → g' 125 w.toNat = g 125 w.toNat := fun w a b => by rw [h125, if_neg (by omega)]
  have k129 : ∀ f, 0 ≤ f → f < wk_f Y → g' 129 f.toNat = g 129 f.toNat := fun w a b => by rw [h129, if_neg (by omega)]
  have k130 : ∀ f, 0 ≤ f → f < wk_f Y → g' 130 f.toNat = g 130 f.toNat := fun w a b => by rw [h130, if_neg (by omega)]
  have k146 : ∀ i, 0 ≤ i → i ≤ rd_k z → g' 146 i.toNat = g 146 i.toNat := fun w a b => by rw [h146, if_neg (by omega)]
  have k148 : ∀ i, 0 ≤ i → i ≤ rd_k z → g' 148 i.toNat = g 148 i.toNat := fun w a b => by rw [h148, if_neg (by omega)]
  have U119 : g' 119 (wk_u Y).toNat = 10 := by rw [h119, if_pos rfl]
  have U120 : g' 120 (wk_u Y).toNat = wk_f Y := by rw [h120, if_pos rfl]
  have U124 : g' 124 (wk_u Y).toNat = -1 := by rw [h124, if_pos rfl]
  have U125 : g' 125 (wk_u Y).toNat = -1 := by rw [h125, if_pos rfl]
  have F146 : g' 146 (rd_k z + 1).toNat = wk_f Y := by rw [h146, if_pos rfl]
  have F148 : g' 148 (rd_k z + 1).toNat = wk_u Y := by rw [h148, if_pos rfl]
  have alts : ∀ n a, wk_alt g' n a = wk_alt g n a := by
    intro n
    induction n with
    | zero => intro a; rfl
    | succ n ih =>
      intro a
      show wk_alt g' n (g' 128 a.toNat) = wk_alt g n (g 128 a.toNat)
      rw [e128, ih]
  have tops : ∀ i, 0 ≤ i → i ≤ rd_k z → rd_top g' (rd_yg g Y z) (rd_zg z) i = rd_top g Y z i := fun i h0 h1 => by
    unfold rd_top
    rw [zk, if_pos (by omega)]
    by_cases c : i < rd_k z
    · rw [if_pos c, k148 (i + 1) (by omega) (by omega)]
    · have e : i = rd_k z := by omega
      subst e
      rw [if_neg c, F148]
  have m124 : ∀ (v : Int), 0 ≤ v → (∀ w, 0 ≤ w → w < wk_u Y → g 124 w.toNat ≠ v) → ∀ w, 0 ≤ w → w < wk_u Y + 1 → g' 124 w.toNat ≠ v := fun v v0 hv w w0 w1 => by
    by_cases c : w = wk_u Y
    · rw [c, U124]
      omega
    · rw [k124 w w0 (by omega)]
      exact hv w w0 (by omega)
  have lev0 : ∀ i, 0 ≤ i → i ≤ rd_k z → rd_lev0 g' (rd_yg g Y z) (rd_zg z) i := fun i h0 h1 => by
    obtain ⟨⟨t0, t1, t2, t3⟩, r2, r3, -⟩ := i4 i h0 h1
    unfold rd_lev0
    simp only [k146 i h0 h1, tops i h0 h1, k130 _ t0 t1, k129 _ t0 t1, yd _ t1, yx _ t1, e147, alts, yf, za]
    refine ⟨⟨t0, by omega, t2, t3⟩, r2, fun w w0 w1 wc => ?_⟩
    rw [yu] at w1
    by_cases c : w = wk_u Y
    · subst c
      rw [ycU] at wc
      have ei : i = rd_k z := by
        rw [← wc, f2] at t2
        exact t2.symm
      subst ei
      exact Or.inr ⟨by rw [zk]; omega, F148.symm⟩
    · have hw : w < wk_u Y := by omega
      rw [yc w hw] at wc
      rw [ye w hw]
      rcases r3 w w0 hw wc with x | x
      · exact Or.inl x
      · exact Or.inr ⟨by rw [zk]; omega, by rw [k148 (i + 1) (by omega) (by omega)]; exact x.2⟩
  refine ⟨⟨by rw [yu]; omega, by rw [yu]; omega, by rw [yf]; omega, by rw [yf]; omega, n5, n6, by rw [zk]; omega⟩, fun w h0 h1 => ?_, fun f h0 h1 => ?_, fun a h0 h1 => ?_, fun i h0 h1 => ?_, fun i h0 h1 => ?_, fun i h0 h1 => ?_⟩
  · rw [yu] at h1
    unfold rd_unit
    by_cases c : w = wk_u Y
    · subst c
      rw [U119, U120, U124, U125, yeU, ycU, yx _ f1, yb _ f1, yd _ f1, f2, f3, yf, ybF, yxF, ydF]
      exact ⟨⟨hU, Int.le_refl _, hb, f0, by omega⟩, fun x => absurd x (by decide), fun x => absurd x (by decide), fun x => absurd x (by decide), fun _ => ⟨n3, by omega, Int.le_refl _, rfl⟩, fun x => absurd x (by decide)⟩
    · have hw : w < wk_u Y := by omega
      obtain ⟨p1, p2, p3, p4, p5, p6⟩ := i1 w h0 hw
      obtain ⟨q1, q2, q3, q4, q5⟩ := p1
      rw [k119 w h0 hw, k120 w h0 hw, k124 w h0 hw, k125 w h0 hw, ye w hw, yc w hw, yx _ q5, yb _ q5, yd _ q5, yf]
      refine ⟨⟨q1, q2, q3, q4, by omega⟩, fun x => ?_, fun x => ?_, p4, fun x => ?_, p6⟩
      · obtain ⟨y1, y2, y3, y4⟩ := p2 x
        rw [yu, yc _ y1, k124 _ x y1]
        exact ⟨by omega, y2, y3, y4⟩
      · obtain ⟨y1, y2, y3, y4⟩ := p3 x
        rw [yu, yc _ y1]
        refine ⟨by omega, y2, y3, fun q => ?_⟩
        rw [ye _ (p2 q).1]
        exact y4 q
      · obtain ⟨y1, y2, y3, y4⟩ := p5 x
        rw [yx _ y2, yb _ y2, yd _ y2]
        exact ⟨y1, by omega, y3, y4⟩
  · rw [yf] at h1
    rw [zk, F146]
    by_cases c : f = wk_f Y
    · subst c
      have c130 : g' 130 (wk_f Y).toNat = 0 := by rw [h130, if_pos rfl]
      have c129 : g' 129 (wk_f Y).toNat = -1 := by rw [h129, if_pos rfl]
      rw [if_pos ⟨by omega, rfl⟩]
      unfold rd_form
      rw [c130, c129, ydF, ybF, yxF]
      exact ⟨by omega, by omega, Int.le_refl _, Int.le_refl _, (show (-1 : Int) < 0 from by decide), hU, Int.le_refl _, fun j hj => by exfalso; omega⟩
    · have hf : f < wk_f Y := by omega
      have hh := i2 f h0 hf
      rw [show (if 0 ≤ rd_k z ∧ f = g 146 (rd_k z).toNat then (1 : Int) else 1) = 1 from by split <;> rfl] at hh
      rw [if_neg (fun x => c x.2)]
      unfold rd_form at hh ⊢
      simp only [k129 f h0 hf, k130 f h0 hf, alts, yd f hf, yb f hf, yx f hf]
      exact hh
  · unfold rd_alt
    rw [e126, yu]
    by_cases c : g 126 a.toNat < 0
    · exact Or.inl c
    · rcases i3 a h0 h1 with x | x
      · exact absurd x c
      · rw [yc _ x.1]
        exact Or.inr ⟨by omega, x.2⟩
  · rw [zk] at h1
    by_cases c : i ≤ rd_k z
    · exact lev0 i h0 c
    · have ei : i = rd_k z + 1 := by omega
      subst ei
      unfold rd_lev0
      rw [F146, ydF, yxF, yf]
      refine ⟨⟨n3, by omega, rfl, rfl⟩, fun x => ?_, fun w w0 w1 wc => ?_⟩
      · exfalso
        rw [h130, if_pos rfl] at x
        omega
      · exfalso
        rw [yu] at w1
        by_cases c2 : w = wk_u Y
        · rw [c2, ycU] at wc
          omega
        · rw [yc w (by omega)] at wc
          have := (i1 w w0 (by omega)).1.2.2.2.2
          omega
  · rw [zk] at h1
    have hik : i ≤ rd_k z := by omega
    obtain ⟨a1, a2, a3⟩ := lev0 i h0 hik
    obtain ⟨-, -, -, r4, r5, r6⟩ := i4 i h0 hik
    refine ⟨a1, a2, a3, fun c => ?_, fun c => ?_, ?_⟩
    · rw [e149] at c ⊢
      obtain ⟨x1, x2, x3, x4, x5, x6⟩ := r4 c
      rw [k124 _ c x1, k125 _ c x1, yu, yc _ x1, ye _ x1, k146 i h0 hik, tops i h0 hik]
      refine ⟨by omega, x2, x3, x4, fun q => ?_, m124 _ c x6⟩
      rw [ye _ ((i1 _ c x1).2.1 q).1]
      exact x5 q
    · rw [e151] at c
      rw [e149]
      obtain ⟨x1, x2⟩ := r5 c
      rw [k124 _ x1 (r4 x1).1]
      exact ⟨x1, x2⟩
    · rw [e150, yu]
      omega
  · rw [zk] at h1
    unfold rd_grp
    by_cases c : i ≤ rd_k z
    · obtain ⟨x1, x2, x3, x4, x5, x6, x7, x8, x9, x10⟩ := i5 i h0 c
      obtain ⟨⟨t0, t1, -, -⟩, -⟩ := i4 i (by omega) c
      rw [k148 i (by omega) c, k146 i (by omega) c, k146 (i - 1) (by omega) (by omega), k119 _ x1 x2, k120 _ x1 x2, k124 _ x1 x2, k125 _ x1 x2, yc _ x2, ye _ x2, yb _ t1, yu]
      exact ⟨x1, by omega, x3, x4, x5, x6, x7, x8, x9, m124 _ x1 x10⟩
    · have ei : i = rd_k z + 1 := by omega
      subst ei
      rw [F148, F146, show rd_k z + 1 - 1 = rd_k z from by omega, k146 _ hk (Int.le_refl _), U119, U120, U124, U125, ycU, yeU, ybF, yu]
      refine ⟨n1, by omega, rfl, rfl, rfl, rfl, rfl, by decide, by decide, m124 _ n1 (fun w w0 w1 e => ?_)⟩
      have := ((i1 w w0 w1).2.1 (by omega)).1
      omega
end RDG
